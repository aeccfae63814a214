/-! numbers -/
theorem am_ti {x : Int} (h : am_i32 x) : (Int32.ofInt x).toInt = x := Int32.toInt_ofInt_of_le (by unfold am_i32 at h; omega) (by unfold am_i32 at h; omega)
theorem am_tl {x : Int} (h : am_i64 x) : (Int64.ofInt x).toInt = x := Int64.toInt_ofInt_of_le (by unfold am_i64 at h; omega) (by unfold am_i64 at h; omega)
theorem am_lt {x y : Int} (h : am_i32 x) (h2 : am_i32 y) : Int32.ofInt x < Int32.ofInt y ↔ x < y := by rw [Int32.lt_iff_toInt_lt, am_ti h, am_ti h2]
theorem am_le {x y : Int} (h : am_i32 x) (h2 : am_i32 y) : Int32.ofInt x ≤ Int32.ofInt y ↔ x ≤ y := by rw [Int32.le_iff_toInt_le, am_ti h, am_ti h2]
theorem am_eq {x y : Int} (h : am_i32 x) (h2 : am_i32 y) : Int32.ofInt x = Int32.ofInt y ↔ x = y := by rw [← Int32.toInt_inj, am_ti h, am_ti h2]
theorem am_eql {x y : Int} (h : am_i64 x) (h2 : am_i64 y) : Int64.ofInt x = Int64.ofInt y ↔ x = y := by rw [← Int64.toInt_inj, am_tl h, am_tl h2]
theorem am_32of (x : Int32) : am_i32 x.toInt := by unfold am_i32; have := Int32.le_toInt x; have := Int32.toInt_lt x; omega
theorem am_32c {x : Int} (h1 : -2147483648 ≤ x) (h2 : x ≤ 2147483647) : am_i32 x := ⟨h1, h2⟩
theorem am_hd {n : Nat} {v : AV} {l : List AV} (h : ∀ w ∈ v :: l, am_ok n w) : am_ok n v := h v List.mem_cons_self
theorem am_tlv {n : Nat} {v : AV} {l : List AV} (h : ∀ w ∈ v :: l, am_ok n w) : ∀ w ∈ l, am_ok n w := fun w hw => h w (List.mem_cons_of_mem _ hw)
theorem am_cns {n : Nat} {v : AV} {l : List AV} (h1 : am_ok n v) (h : ∀ w ∈ l, am_ok n w) : ∀ w ∈ v :: l, am_ok n w := fun w hw => (List.mem_cons.mp hw).elim (fun e => e ▸ h1) (h w)
theorem am_cat1 {g : am_G} {ads : Nat → Nat} {v : Int ⊕ Int ⊕ Int} (h : ∀ x, v ≠ .inr (.inl x)) : (am_cv g ads (some v)).category = 1 := by
  match v, h with
  | .inl _, _ => rfl
  | .inr (.inl x), h => exact absurd rfl (h x)
  | .inr (.inr x), _ =>
    show (va_rf (am_ro g ads x)).category = 1
    cases am_ro g ads x <;> rfl
/-! the locals -/
def am_lv (g : am_G) (ads : Nat → Nat) (ls : List AV) : List (Nat × Value) := (List.range ls.length).filterMap (fun i => match ls[i]? with | some (some v) => some (i, am_cv g ads (some v)) | _ => none)
theorem am_lv_mem {g : am_G} {ads : Nat → Nat} {ls : List AV} {i : Nat} {v : Int ⊕ Int ⊕ Int} (h : ls[i]? = some (some v)) : (i, am_cv g ads (some v)) ∈ am_lv g ads ls := by
  unfold am_lv
  rw [List.mem_filterMap]
  exact ⟨i, List.mem_range.mpr (List.getElem?_eq_some_iff.mp h).1, by rw [h]⟩
theorem am_lv_has {g : am_G} {ads : Nat → Nat} {lsA : Array Slot} {n : Nat} {ls : List AV} (h : am_hasL g ads lsA n ls) : lv_has lsA n (am_lv g ads ls) := by
  obtain ⟨h1, h2, h3, h4⟩ := h
  refine ⟨h1, h2, fun q hq => ?_⟩
  unfold am_lv at hq
  obtain ⟨i, -, hi⟩ := List.mem_filterMap.mp hq
  cases hv : ls[i]? with
  | none => rw [hv] at hi; cases hi
  | some w =>
    rw [hv] at hi
    cases w with
    | none => cases hi
    | some v => cases hi; exact h4 i v hv
def am_isL : AV → Bool
  | some (.inr (.inl _)) => true
  | _ => false
def am_clr (ls : List AV) (i : Nat) : List AV := match i with
  | 0 => ls
  | j + 1 => if am_isL (ls.getD j none) = true then ls.set j none else ls
def am_set (ls : List AV) (i : Nat) (v : AV) : List AV := (am_clr ls i).set i v
def am_set2 (ls : List AV) (i : Nat) (v : AV) : List AV := (am_set ls i v).set (i + 1) none
theorem am_clr_len (ls : List AV) (i : Nat) : (am_clr ls i).length = ls.length := by
  unfold am_clr
  split
  · rfl
  · split <;> simp
theorem am_clr_get {ls : List AV} {i q : Nat} {v : Int ⊕ Int ⊕ Int} (h : (am_clr ls i)[q]? = some (some v)) : ls[q]? = some (some v) ∧ ¬ (q + 1 = i ∧ am_isL (some v) = true) := by
  unfold am_clr at h
  split at h
  · exact ⟨h, fun z => by omega⟩
  next j =>
    split at h
    next hc =>
      by_cases e : q = j
      · subst e
        rw [List.getElem?_set_self'] at h
        cases hq : ls[q]? with
        | none => rw [hq] at h; cases h
        | some w => rw [hq] at h; cases h
      · rw [List.getElem?_set_ne (fun z => e z.symm)] at h
        exact ⟨h, fun z => e (by omega)⟩
    next hc =>
      refine ⟨h, fun z => hc ?_⟩
      have : q = j := by omega
      subst this
      rw [List.getD_eq_getElem?_getD, h]
      exact z.2
theorem am_cat2 {g : am_G} {ads : Nat → Nat} {v : Int ⊕ Int ⊕ Int} (h : (am_cv g ads (some v)).category = 2) : am_isL (some v) = true := by
  match v, h with
  | .inl _, h => cases h
  | .inr (.inl x), _ => rfl
  | .inr (.inr x), h => rw [am_cat1 (fun _ z => by cases z)] at h; cases h
theorem am_set_has {g : am_G} {ads : Nat → Nat} {lsA ls' : Array Slot} {n : Nat} {ls : List AV} {i : Nat} {v : Int ⊕ Int ⊕ Int} (h : am_hasL g ads lsA n ls) (h2 : lv_has ls' n ((i, am_cv g ads (some v)) :: (am_lv g ads ls).filter (fun q => !(q.1 == i) && !(q.1 + 1 == i && q.2.category == 2)))) : am_hasL g ads ls' n (am_set ls i (some v)) := by
  refine ⟨h2.1, h2.2.1, by rw [am_set, List.length_set, am_clr_len]; exact h.2.2.1, fun q w hq => ?_⟩
  unfold am_set at hq
  by_cases e : q = i
  · subst e
    rw [List.getElem?_set_self'] at hq
    cases hc : (am_clr ls q)[q]? with
    | none => rw [hc] at hq; cases hq
    | some z => rw [hc] at hq; cases hq; exact h2.2.2 _ List.mem_cons_self
  · rw [List.getElem?_set_ne (fun z => e z.symm)] at hq
    obtain ⟨h3, h4⟩ := am_clr_get hq
    refine h2.2.2 (q, am_cv g ads (some w)) (List.mem_cons_of_mem _ (List.mem_filter.mpr ⟨am_lv_mem h3, ?_⟩))
    simp only [Bool.and_eq_true, Bool.not_eq_true', beq_eq_false_iff_ne, ne_eq, Bool.and_eq_false_iff]
    refine ⟨e, ?_⟩
    by_cases e2 : q + 1 = i
    · right; intro z; exact h4 ⟨e2, am_cat2 z⟩
    · left; exact e2
theorem am_set2_has {g : am_G} {ads : Nat → Nat} {lsA ls' : Array Slot} {n : Nat} {ls : List AV} {i : Nat} {v : Int ⊕ Int ⊕ Int} (h : am_hasL g ads lsA n ls) (h2 : lv_has ls' n ((i, am_cv g ads (some v)) :: (am_lv g ads ls).filter (fun q => !(q.1 == i) && (!(q.1 == i + 1) && !(q.1 + 1 == i && q.2.category == 2))))) : am_hasL g ads ls' n (am_set2 ls i (some v)) := by
  refine ⟨h2.1, h2.2.1, by rw [am_set2, List.length_set, am_set, List.length_set, am_clr_len]; exact h.2.2.1, fun q w hq => ?_⟩
  unfold am_set2 am_set at hq
  by_cases e0 : q = i + 1
  · subst e0
    rw [List.getElem?_set_self'] at hq
    cases hc : ((am_clr ls i).set i (some v))[i + 1]? with
    | none => rw [hc] at hq; cases hq
    | some z => rw [hc] at hq; cases hq
  rw [List.getElem?_set_ne (fun z => e0 z.symm)] at hq
  by_cases e : q = i
  · subst e
    rw [List.getElem?_set_self'] at hq
    cases hc : (am_clr ls q)[q]? with
    | none => rw [hc] at hq; cases hq
    | some z => rw [hc] at hq; cases hq; exact h2.2.2 _ List.mem_cons_self
  · rw [List.getElem?_set_ne (fun z => e z.symm)] at hq
    obtain ⟨h3, h4⟩ := am_clr_get hq
    refine h2.2.2 (q, am_cv g ads (some w)) (List.mem_cons_of_mem _ (List.mem_filter.mpr ⟨am_lv_mem h3, ?_⟩))
    simp only [Bool.and_eq_true, Bool.not_eq_true', beq_eq_false_iff_ne, ne_eq, Bool.and_eq_false_iff]
    refine ⟨e, e0, ?_⟩
    by_cases e2 : q + 1 = i
    · right; intro z; exact h4 ⟨e2, am_cat2 z⟩
    · left; exact e2
theorem am_clr_ok {n : Nat} {ls : List AV} (i : Nat) (h : ∀ v ∈ ls, am_ok n v) : ∀ v ∈ am_clr ls i, am_ok n v := by
  unfold am_clr
  split
  · exact h
  · split
    · intro v hv
      rcases List.mem_or_eq_of_mem_set hv with z | z
      · exact h v z
      · rw [z]; trivial
    · exact h
theorem am_set_ok {n : Nat} {ls : List AV} {i : Nat} {w : AV} (h : ∀ v ∈ ls, am_ok n v) (hw : am_ok n w) : ∀ v ∈ am_set ls i w, am_ok n v := by
  intro v hv
  rcases List.mem_or_eq_of_mem_set hv with z | z
  · exact am_clr_ok i h v z
  · rw [z]; exact hw
theorem am_set2_ok {n : Nat} {ls : List AV} {i : Nat} {w : AV} (h : ∀ v ∈ ls, am_ok n v) (hw : am_ok n w) : ∀ v ∈ am_set2 ls i w, am_ok n v := by
  intro v hv
  rcases List.mem_or_eq_of_mem_set hv with z | z
  · exact am_set_ok h hw v z
  · rw [z]; trivial
