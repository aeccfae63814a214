/-! calls -/
theorem am_AOA_moved {ty : FieldType} {u U : State} (hal : u.vm.Alike U.vm) (h : va_AOA ty u) : va_AOA ty U := by
  unfold va_AOA at h ⊢
  simp only [Cond.before, Cond.holds, Cond.value] at h ⊢
  rw [hal.findClass]
  cases hf : u.vm.findClass (FieldType.array ty).toString with
  | none => rw [hf] at h; simp at h
  | some comp =>
    rw [hf] at h
    simp only [Option.bind_some] at h ⊢
    rw [hal.findIdx_congr _ (fun _ _ _ _ => rfl)]
    generalize hF : (u.vm.classes.findIdx? fun (x : Class) => match x.kind with | .array component _ => component == comp | _ => false) = fi at h ⊢
    cases fi with
    | none => simp at h
    | some c =>
      simp only [Option.bind_some] at h ⊢
      cases hk : u.vm.classes[c]? with
      | none => rw [hk] at h; simp at h
      | some k =>
        obtain ⟨k', hk', ek⟩ := hal.2.2 _ _ hk
        rw [hk] at h
        rw [hk', hal.findClass]
        have ekind : k'.kind = k.kind := by rw [ek]
        simp only [Option.map_some] at h ⊢
        rw [ekind]
        exact h
theorem am_Gl_warm {g : am_G} {s U : State} (hW : s.WarmedH U.vm) (h : am_Gl g s) : am_Gl g U := by
  obtain ⟨h1, h2, h3, h4, h5⟩ := h
  refine ⟨va_K.moved hW.alike h1, fun w hw hn => ?_, fun k q hq => vk_R.warm hW (h3 k q hq), h4.moved hW.alike, am_AOA_moved hW.alike h5⟩
  have hz := h2 w hw hn
  cases w <;> first | exact va_Nw.warmF hW hz | exact va_Nw.warmM hW hz | cases hn
theorem am_Gl_same {g : am_G} {u U : State} (hv : U.vm = u.vm) (h : am_Gl g u) : am_Gl g U := by
  have ha : u.vm.Alike U.vm := by rw [hv]; exact Vm.Alike.refl _
  obtain ⟨h1, h2, h3, h4, h5⟩ := h
  refine ⟨va_K.moved ha h1, fun w hw hn => ?_, fun k q hq => vk_R.same hv (h3 k q hq), h4.moved ha, am_AOA_moved ha h5⟩
  have hz := h2 w hw hn
  cases w <;> first | exact va_Nw.same rfl hv.symm hz | cases hn
theorem am_Ex_moved {g : am_G} {u U : State} {H : Heap} (ha : u.vm.Alike U.vm) (h : am_Ex g u H) : am_Ex g U H := by
  obtain ⟨h1, h2, h3, h4, h5, h6⟩ := h
  exact ⟨h1.moved ha, h2, h3, h4.moved ha, h5.moved ha, h6.moved ha⟩
theorem am_Ex_kept {g : am_G} {U : State} {H H1 : Heap} (h : am_Ex g U H) (hz : H.size ≤ H1.size) (hq : ∀ a : Nat, a < H.size → ¬ am_A g a → H1[a]? = H[a]?) : am_Ex g U H1 := by
  have hA := am_notA h
  obtain ⟨h1, h2, h3, h4, h5, h6⟩ := h
  exact ⟨h1.kept (hq _ (Nat.lt_of_lt_of_le h2 h3) hA), h2, Nat.le_trans h3 hz, h4.kept hq, h5.kept hq, h6.kept hq⟩
theorem am_blind (g : am_G) (ads : Nat → Nat) (av : List AV) (st : am_S) : FrameBlind (am_Pc g ads av st) := by
  intro a U g' mk h
  obtain ⟨h1, h2, h3, h4⟩ := h
  exact ⟨h1, am_Gl_same (u := U) rfl h2, am_Ex_moved (u := U) (Vm.Alike.refl U.vm) h3, h4⟩
theorem am_pre {g : am_G} {ads : Nat → Nat} {st : am_S} {s : State} {H : Heap} {locs : List Loc} (hG : am_Gl g s) (hE : am_Ex g s s.heap) (hH : am_He g ads st s.heap H locs) (av : List AV) : ∀ U : State, U.heap = H → s.WarmedH U.vm → am_Pc g ads av st (av.map (am_cv g ads)).toArray U := by
  intro U hU hW
  obtain ⟨h1, h2, h3, h4, h5⟩ := hH
  refine ⟨rfl, am_Gl_warm hW hG, ?_, ?_⟩
  · rw [hU]
    exact am_Ex_moved hW.alike (am_Ex_kept hE h3.1 h3.2.1)
  · rw [hU]
    exact ⟨h1, h2, va_S.rf, h4, h5⟩
theorem am_rs_head (g : am_G) (ads : Nat → Nat) (r : AV) : (am_rs g ads r).head?.toList = am_rs g ads r := by
  cases r <;> rfl
theorem am_cont {p : Program} {l : Launch} {e : Env} {R : Room} {s : State} {m : MethodId} {args : Array Value} {below : List Frame} {meth : Method} {c : Code} {H : Heap} {locs : List Loc} {cells slots : Nat} {Z : State → Prop} {g : am_G} {ads : Nat → Nat} {st : am_S} {P : AV → am_S → Prop} {mc ms pc : Nat} {lsA : Array Slot} {st0 rest : List Value} {a : Array Value}
    (run : va_Run p l e R s m args below meth c H locs cells slots mc ms (F0 m pc lsA st0) rest (am_Qc g ads st P a) (am_A g)) (hS : va_S (am_A g) s.heap H locs)
    (kk : ∀ (r : AV) (st' : am_S) (ads' : Nat → Nat) (H1 : Heap) (locs1 : List Loc), P r st' → am_ok st'.1.length r → am_ext st.1.length ads ads' → st.1.length ≤ st'.1.length → am_He g ads' st' s.heap H1 locs1 → W p l e R s m args below meth c H1 locs1 (cells + mc) (slots + ms) Z (F0 m (pc + 3) lsA (am_rs g ads' r ++ rest))) :
    W p l e R s m args below meth c H locs cells slots Z (F0 m pc lsA st0) := by
  intro T hT X
  obtain ⟨v, st₀, t, T', L, h0, X', hL, e1, e2, ⟨r, st', ads', q1, q2, q3, q4, q5, q6⟩, hgo⟩ := run T hT X
  have hv : v = (am_rs g ads' r).head? := by cases q5; rfl
  subst hv
  obtain ⟨w1, w2, w3, w4, w5⟩ := q6
  rw [h0] at w3
  have hS' : va_S (am_A g) s.heap T'.heap (locs ++ L) := by
    refine ⟨Nat.le_trans hS.1 (by rw [e1]; exact w3.1), fun q h1 h2 => ?_, fun q hq => ?_⟩
    · rw [e1, w3.2.1 q (Nat.lt_of_lt_of_le h1 hS.1) h2]
      exact hS.2.1 q h1 h2
    · rcases List.mem_append.mp hq with h | h
      · exact hS.2.2 q h
      · exact hL q h
  obtain ⟨t2, a1, b1⟩ := kk r st' ads' T'.heap (locs ++ L) q1 q2 q3 q4 ⟨by rw [e1]; exact w1, w2, hS', w4, w5⟩ T' rfl X'
  rw [← am_rs_head g ads' r] at a1
  exact ⟨t2, hgo t2 a1, b1⟩
def am_push (r : AV) (stk : List AV) : List AV := match r with
  | none => stk
  | some v => some v :: stk
theorem am_push_map (g : am_G) (ads : Nat → Nat) (r : AV) (stk : List AV) : (am_push r stk).map (am_cv g ads) = am_rs g ads r ++ stk.map (am_cv g ads) := by cases r <;> rfl
theorem am_push_ok {n : Nat} {r : AV} {stk : List AV} (h1 : am_ok n r) (h2 : ∀ v ∈ stk, am_ok n v) : ∀ v ∈ am_push r stk, am_ok n v := by
  cases r with
  | none => exact h2
  | some w => exact am_cns h1 h2
theorem am_good : ∀ w ∈ am_wall, w ∈ am_wall ∧ ((w.onTables && w.keeps) = true ∨ ∃ ty, w = .arrayClass ty) := fun w hw => ⟨hw, good_of_word (List.mem_filter.mp hw).2⟩
theorem am_goodM {y : am_M} (hc : Cond.code y.1 y.2.1 y.2.2.1 y.2.2.2 ∈ am_wall) : GoodIn am_wall (am_mw y) := by
  intro w hw
  rcases List.mem_cons.mp hw with rfl | h
  · exact am_good _ hc
  · exact am_good _ h
/-- what every call asks of the tables -/
def am_CK (y : am_M) (n : Nat) : Prop := Cond.code y.1 y.2.1 y.2.2.1 y.2.2.2 ∈ am_wall ∧ Cond.initialized y.1.cls ∈ am_wall ∧ (y.1.cls ≠ "java/lang/invoke/MethodHandle" ∧ y.1.cls ≠ "java/lang/invoke/VarHandle" ∧ (parseMethodDescriptor y.1.desc).map (fun d => d.parameters.length) = some n) ∧ y.2.2.1 ≤ 45
def am_ML (own : String) (index : Nat) (y : MethodName) : Prop := Cond.methodLink own index y ∈ am_wall ∨ ∃ host, Cond.methodLinkNest own index y host ∈ lw_tbl
/-- the receiver -/
def am_rcv (C : String) (st : am_S) (o : Int) : Prop := (∃ (kc n N : Nat) (T : u_T), kc < 13 ∧ vwCl[kc]? = some (C, T, N) ∧ am_at st.1 o = some (kc, n)) ∨ (C = "java/lang/String" ∧ ∃ q : Nat, q < 27 ∧ o = -2 - 2 * (q : Int))
theorem am_rcv_cell {C : String} {st : am_S} {o : Int} (h : am_rcv C st o) {g : am_G} {ads : Nat → Nat} {s : State} {H : Heap} {locs : List Loc} (hG : am_Gl g s) (hE : am_Ex g s s.heap) (hH : am_He g ads st s.heap H locs) : ∃ a, am_ro g ads o = some a ∧ ∃ cell : Cell, H[a]? = some cell ∧ cell.vm.isStatics = false ∧ s.vm.findClass C = some cell.cls := by
  rcases h with ⟨kc, n, N, T, h1, h2, h3⟩ | ⟨rfl, q, hq, rfl⟩
  · have he9 := am_ws_at (g := g) (ads := ads) h3
    rw [am_cell_o h1] at he9
    exact ⟨_, am_ref (g := g) (ads := ads) h3, va_recv hG.1 hH.1 h2 he9⟩
  · exact ⟨_, am_ro_k g ads hq, vk_recv hE.2.2.2.1 hq hH.2.2.1⟩
