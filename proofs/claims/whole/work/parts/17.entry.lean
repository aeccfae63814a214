/-! a method's contract out of its walk -/
def am_ent1 : List AV → List AV
  | [] => []
  | v :: l => if am_isL v = true then v :: none :: am_ent1 l else v :: am_ent1 l
def am_ent (av : List AV) (n : Nat) : List AV := am_ent1 av ++ List.replicate (n - am_w av) none
theorem am_ent1_len : ∀ av : List AV, (am_ent1 av).length = am_w av
  | [] => rfl
  | v :: l => by
    rw [am_w_cons, am_ent1]
    split
    · simp [am_ent1_len l]; omega
    · simp [am_ent1_len l]; omega
theorem am_ent_mem {g : am_G} {ads : Nat → Nat} : ∀ (av : List AV) (i b : Nat) (v : Int ⊕ Int ⊕ Int), (am_ent1 av)[i]? = some (some v) → (b + i, am_cv g ads (some v)) ∈ lv_args b (av.map (am_cv g ads))
  | [], i, b, v, h => by simp [am_ent1] at h
  | w :: l, i, b, v, h => by
    rw [am_ent1] at h
    rw [List.map_cons, lv_args, am_catv]
    split at h
    next hL =>
      rw [if_pos hL, if_pos rfl]
      match i, h with
      | 0, h => simp at h; subst h; exact List.mem_cons_self
      | 1, h => simp at h
      | i + 2, h =>
        have := am_ent_mem (g := g) (ads := ads) l i (b + 2) v (by simpa using h)
        rw [show b + (i + 2) = b + 2 + i by omega]
        exact List.mem_cons_of_mem _ this
    next hL =>
      rw [if_neg hL, if_neg (by decide)]
      match i, h with
      | 0, h => simp at h; subst h; exact List.mem_cons_self
      | i + 1, h =>
        have := am_ent_mem (g := g) (ads := ads) l i (b + 1) v (by simpa using h)
        rw [show b + (i + 1) = b + 1 + i by omega]
        exact List.mem_cons_of_mem _ this
theorem am_sl_len (g : am_G) (ads : Nat → Nat) : ∀ av : List AV, (lg_sl (av.map (am_cv g ads))).length = am_w av
  | [] => rfl
  | v :: l => by
    have ih := am_sl_len g ads l
    rw [am_w_cons, ← ih, ← am_catv g ads v]
    rcases lv_cat (am_cv g ads v) with h | h
    · simp [lg_sl, h]; omega
    · simp [lg_sl, h]; omega
theorem am_ent_has {g : am_G} {ads : Nat → Nat} {av : List AV} {n : Nat} (h : am_w av ≤ n) {lsA : Array Slot} (hl : lv_has lsA n (lv_args 0 (av.map (am_cv g ads)))) : am_hasL g ads lsA n (am_ent av n) := by
  refine ⟨hl.1, hl.2.1, ?_, fun i v hv => ?_⟩
  · simp [am_ent, am_ent1_len]; omega
  · unfold am_ent at hv
    by_cases hi : i < (am_ent1 av).length
    · rw [List.getElem?_append_left hi] at hv
      have := am_ent_mem (g := g) (ads := ads) av i 0 v hv
      rw [Nat.zero_add] at this
      exact hl.2.2 _ this
    · rw [List.getElem?_append_right (by omega), List.getElem?_replicate] at hv
      split at hv <;> cases hv
theorem am_ent1_ok {n : Nat} : ∀ {av : List AV}, (∀ v ∈ av, am_ok n v) → ∀ v ∈ am_ent1 av, am_ok n v
  | [], _, v, hv => by simp [am_ent1] at hv
  | w :: l, h, v, hv => by
    rw [am_ent1] at hv
    have hl : ∀ v ∈ l, am_ok n v := fun v hv => h v (List.mem_cons_of_mem _ hv)
    split at hv
    · rcases List.mem_cons.mp hv with rfl | hv
      · exact h _ List.mem_cons_self
      · rcases List.mem_cons.mp hv with rfl | hv
        · trivial
        · exact am_ent1_ok hl v hv
    · rcases List.mem_cons.mp hv with rfl | hv
      · exact h _ List.mem_cons_self
      · exact am_ent1_ok hl v hv
theorem am_ent_ok {n N : Nat} {av : List AV} (h : ∀ v ∈ av, am_ok n v) : ∀ v ∈ am_ent av N, am_ok n v := by
  intro v hv
  rcases List.mem_append.mp hv with hv | hv
  · exact am_ent1_ok h v hv
  · rw [List.eq_of_mem_replicate hv]; trivial
theorem am_zr {ty : Option FieldType} {x : Int} (h : am_rf ty x) : ∃ t, ty = some t ∧ narrow t (.int (Int32.ofInt x)) = .int (Int32.ofInt x) := by
  unfold am_rf at h
  split at h
  · exact ⟨_, rfl, rfl⟩
  · rcases h with rfl | rfl <;> exact ⟨_, rfl, rfl⟩
  · refine ⟨_, rfl, ?_⟩
    have h2 := (pk_charN (q := x.toNat) (by omega)).1
    have e : nI x.toNat = Int32.ofInt x := by rw [nI, ← Int32.ofInt_eq_ofNat]; congr 1; omega
    rw [e] at h2
    exact h2
  · refine ⟨_, rfl, ?_⟩
    show Value.int _ = _
    congr 1
    apply Int32.toInt_inj.mp
    rw [Int8.toInt_toInt32, Int32.toInt_toInt8, am_ti (am_32c (by omega) (by omega))]
    exact Int.bmod_eq_of_le (by omega) (by omega)
  · exact absurd h id
theorem am_Call_of {d : Nat} {k : am_M} {mc ms : Nat} {av : List AV} {st : am_S} {Q : AV → am_S → Prop} (hy : plainName k.1.cls = true) (hn : am_w av ≤ k.2.2.1) (h : am_Wp d k mc ms 0 (am_ent av k.2.2.1) [] st Q) : am_Call d k mc ms av st Q := by
  intro g l ads hok
  refine Met.ofW (cc := k.2.1) (maxL := k.2.2.1) (ret := k.2.2.2) hy rfl ?_
  intro p e s m args below meth c s₁ B hml hP
  obtain ⟨rfl, hG, hE, hH⟩ := hP
  have hts := atoms_spec (ws := am_mw k) B.pre
  have hlocks := B.notSynchronized
  have hx := B.exec
  have hb := B.bytes
  have hr := B.returns
  have hl := lv_entry (av.map (am_cv g ads)) (n := k.2.2.1) (by rw [am_sl_len]; exact hn)
  rw [lg_entry_eq]
  generalize (lg_sl (av.map (am_cv g ads)) ++ List.replicate (k.2.2.1 - (lg_sl (av.map (am_cv g ads))).length) Slot.unset).toArray = lsA at hl ⊢
  refine h g l p e _ s m _ below meth c _ ads st.1.length mc ms ⟨hx, hb, hml, findClass_of_methodNamed B.named, fun w hw => hts w (List.mem_cons_of_mem _ hw), hG, hE, fun hi => (name_of_methodNamed B.named B.method).1.trans hi⟩ ⟨Nat.le_refl _, Nat.le_refl _, Nat.le_refl _, Nat.le_refl _⟩ ?_ ads s.heap [] 0 0 lsA hH (fun _ _ => rfl) (Nat.le_refl _) (by omega) (by omega) (am_ent_has hn hl) (am_ent_ok hok) (fun v hv => by cases hv)
  intro r st' ads' H' locs' cells' slots' ls' pc' q1 q2 q3 q4 q5 q6 q7 q8
  refine W.widen (k := mc) (n := ms) q6 q7 ?_
  have hq : ∀ v, v = (am_rs g ads' r).head? → ∀ t : State, t.heap = H' → s.WarmedH t.vm → am_Qc g ads st Q (av.map (am_cv g ads)).toArray s (.returned v) t := by
    intro v hv t ht _
    exact ⟨r, st', ads', q1, q2, q3, q4, by rw [hv], by rw [ht]; exact ⟨q5.1, q5.2.1, ⟨q5.2.2.1.1, q5.2.2.1.2.1, fun _ z => by cases z⟩, q5.2.2.2⟩⟩
  match r, q8, hq with
  | none, q8, hq => exact W.vret hx hb (hr.trans q8.2) (hq none rfl) q5.2.2.1.2.2 q8.1
  | some (.inl x), q8, hq =>
    obtain ⟨ty, e1, e2⟩ := am_zr q8.2
    exact W.zret hx hb (hr.trans e1) e2 (hq _ rfl) q5.2.2.1.2.2 q8.1
  | some (.inr (.inl x)), q8, hq => exact W.lret hx hb (hr.trans q8.2) (hq _ rfl) q5.2.2.1.2.2 q8.1
  | some (.inr (.inr x)), q8, hq =>
    rcases q8.2 with ⟨n9, e1⟩ | ⟨t9, e1⟩
    · exact W.aret hx hb (hr.trans e1) (Or.inl ⟨n9, rfl⟩) (va_rf_or _) (hq _ rfl) q5.2.2.1.2.2 q8.1
    · exact W.aret hx hb (hr.trans e1) (Or.inr ⟨t9, rfl⟩) (va_rf_or _) (hq _ rfl) q5.2.2.1.2.2 q8.1
