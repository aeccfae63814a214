/-! the call rows -/
theorem sd_callV {d : Nat} {k : am_M} {rc rs pc : Nat} {ls stk : List AV} {st : am_S} {Q : AV → am_S → Prop} {y : am_M} {index mc ms : Nat} {o : Int} {av : List AV} (hd : decode k.2.1 pc = .ok (.invokevirtual index, 3)) (hy : am_CK y av.length) (w1 : am_ML k.1.cls index y.1) (w2 : Cond.instanceMethod y.1 ∈ am_wall) (w3 : Cond.selects y.1.cls y.1 y.1 ∈ am_wall) (ho : am_rcv y.1.cls st o) (hw9 : am_w stk ≤ 8) (h : am_Call d y mc ms (vR o :: av) st (fun r st' => am_Wp (d + 1) k rc rs (pc + 3) ls (am_push r stk) st' Q)) : am_Wp (d + 1) k (rc + mc) (rs + ms) (pc) ls (av.reverse ++ vR o :: stk) st Q := by
  intro g l p e R s m args below meth c Z ads0 n0 cm sm F O hZ ads H locs cells slots lsA hH he hn hc hs hl hol hos
  obtain ⟨hx, hb, hml, hown, hts, hG, hE, hin⟩ := id F
  obtain ⟨y1, y2, y3, y4⟩ := hy
  have hr9 : ∀ v ∈ stk, am_ok st.1.length v := fun v hv => hos v (List.mem_append_right _ (List.mem_cons_of_mem _ hv))
  have ha9 : ∀ v ∈ vR o :: av, am_ok st.1.length v := fun v hv => by
    rcases List.mem_cons.mp hv with rfl | hv
    · exact hos _ (List.mem_append_right _ List.mem_cons_self)
    · exact hos v (List.mem_append_left _ (List.mem_reverse.mpr hv))
  have hM := h g l ads ha9
  obtain ⟨a, hro, hcell⟩ := am_rcv_cell ho hG hE hH
  have emap : (vR o :: av).map (am_cv g ads) = Value.ref a :: av.map (am_cv g ads) := by
    show va_rf (am_ro g ads o) :: _ = _
    rw [hro]; rfl
  have hPc : ∀ U : State, U.heap = H → s.WarmedH U.vm → am_Pc g ads (vR o :: av) st (Value.ref a :: av.map (am_cv g ads)).toArray U := by
    intro U hU hW
    rw [← emap]
    exact am_pre hG hE hH (vR o :: av) U hU hW
  have estk : (av.reverse ++ vR o :: stk).map (am_cv g ads) = (av.map (am_cv g ads)).reverse ++ Value.ref a :: stk.map (am_cv g ads) := by
    rw [List.map_append, List.map_reverse, List.map_cons]
    congr 2
    show va_rf (am_ro g ads o) = _
    rw [hro]; rfl
  have run : va_Run p l e R s m args below meth c H locs cells slots mc ms (F0 m pc lsA ((av.reverse ++ vR o :: stk).map (am_cv g ads))) (stk.map (am_cv g ads)) (am_Qc g ads st (fun r st' => am_Wp (d + 1) k rc rs (pc + 3) ls (am_push r stk) st' Q) (Value.ref a :: av.map (am_cv g ads)).toArray) (am_A g) := by
    rcases w1 with w1 | ⟨host, w1⟩
    · exact va_runV (n := av.length) ⟨hx, hb, hml, hown, hts⟩ hM ⟨callB_of av.length hts (am_goodM y1) rfl rfl rfl (hts _ y2) (hts _ w1) y3 ⟨O.1, by have := O.2.1; show 8 + (y.2.2.1 + 11) + 64 * d ≤ _; omega⟩, hts _ w2, hts _ w3⟩ ⟨am_blind g ads _ st, hcell, hPc⟩ rfl (by simp) hl.1 estk (lv_room (by rw [am_w_eq]; exact hw9)) hd ⟨by have := O.2.2.1; omega, by have := O.2.2.2; omega⟩
    · exact va_runVN (n := av.length) (C := y.1.cls) ⟨hx, hb, hml, hown, hts⟩ hM ⟨va_cnB av.length hts (am_goodM y1) rfl rfl rfl (hG.2.1 _ w1 rfl) (hts _ y2) y3 ⟨O.1, by have := O.2.1; show 8 + (y.2.2.1 + 11) + 64 * d ≤ _; omega⟩, hts _ w2, hts _ w3⟩ ⟨am_blind g ads _ st, hcell, hPc⟩ rfl (by simp) hl.1 estk (lv_room (by rw [am_w_eq]; exact hw9)) hd ⟨by have := O.2.2.1; omega, by have := O.2.2.2; omega⟩
  refine am_cont run hH.2.2.1 (fun r st' ads' H1 locs1 q1 q2 q3 q4 q5 => ?_)
  have K := q1 g l p e R s m args below meth c Z ads0 n0 cm sm F O hZ ads' H1 locs1 (cells + mc) (slots + ms) lsA q5 (am_ext_tr he q3 hn) (Nat.le_trans hn q4) (by omega) (by omega) (am_hasL_ext q3 hol hl) (fun v hv => am_ok_mono q4 (hol v hv)) (am_push_ok q2 (fun v hv => am_ok_mono q4 (hr9 v hv)))
  rw [am_push_map, am_map_ext q3 hr9] at K
  exact K
theorem sd_callS {d : Nat} {k : am_M} {rc rs pc : Nat} {ls stk : List AV} {st : am_S} {Q : AV → am_S → Prop} {y : am_M} {index mc ms : Nat} {av : List AV} (hd : decode k.2.1 pc = .ok (.invokestatic index, 3)) (hy : am_CK y av.length) (w1 : am_ML k.1.cls index y.1) (w2 : Cond.static y.1 ∈ am_wall) (hw9 : am_w stk ≤ 8) (h : am_Call d y mc ms av st (fun r st' => am_Wp (d + 1) k rc rs (pc + 3) ls (am_push r stk) st' Q)) : am_Wp (d + 1) k (rc + mc) (rs + ms) (pc) ls (av.reverse ++ stk) st Q := by
  intro g l p e R s m args below meth c Z ads0 n0 cm sm F O hZ ads H locs cells slots lsA hH he hn hc hs hl hol hos
  obtain ⟨hx, hb, hml, hown, hts, hG, hE, hin⟩ := id F
  obtain ⟨y1, y2, y3, y4⟩ := hy
  have hr9 : ∀ v ∈ stk, am_ok st.1.length v := fun v hv => hos v (List.mem_append_right _ hv)
  have ha9 : ∀ v ∈ av, am_ok st.1.length v := fun v hv => hos v (List.mem_append_left _ (List.mem_reverse.mpr hv))
  have hM := h g l ads ha9
  have hPc := am_pre hG hE hH av
  have estk : (av.reverse ++ stk).map (am_cv g ads) = (av.map (am_cv g ads)).reverse ++ stk.map (am_cv g ads) := by
    rw [List.map_append, List.map_reverse]
  have run : va_Run p l e R s m args below meth c H locs cells slots mc ms (F0 m pc lsA ((av.reverse ++ stk).map (am_cv g ads))) (stk.map (am_cv g ads)) (am_Qc g ads st (fun r st' => am_Wp (d + 1) k rc rs (pc + 3) ls (am_push r stk) st' Q) (av.map (am_cv g ads)).toArray) (am_A g) := by
    rcases w1 with w1 | ⟨host, w1⟩
    · exact va_runS (n := av.length) ⟨hx, hb, hml, hown, hts⟩ hM ⟨callB_of av.length hts (am_goodM y1) rfl rfl rfl (hts _ y2) (hts _ w1) y3 ⟨O.1, by have := O.2.1; show 8 + (y.2.2.1 + 11) + 64 * d ≤ _; omega⟩, hts _ w2⟩ ⟨am_blind g ads _ st, hPc⟩ rfl (by simp) hl.1 estk (lv_room (by rw [am_w_eq]; exact hw9)) hd ⟨by have := O.2.2.1; omega, by have := O.2.2.2; omega⟩
    · exact va_runSN (n := av.length) ⟨hx, hb, hml, hown, hts⟩ hM ⟨va_cnB av.length hts (am_goodM y1) rfl rfl rfl (hG.2.1 _ w1 rfl) (hts _ y2) y3 ⟨O.1, by have := O.2.1; show 8 + (y.2.2.1 + 11) + 64 * d ≤ _; omega⟩, hts _ w2, trivial⟩ ⟨am_blind g ads _ st, hPc⟩ rfl (by simp) hl.1 estk (lv_room (by rw [am_w_eq]; exact hw9)) hd ⟨by have := O.2.2.1; omega, by have := O.2.2.2; omega⟩
  refine am_cont run hH.2.2.1 (fun r st' ads' H1 locs1 q1 q2 q3 q4 q5 => ?_)
  have K := q1 g l p e R s m args below meth c Z ads0 n0 cm sm F O hZ ads' H1 locs1 (cells + mc) (slots + ms) lsA q5 (am_ext_tr he q3 hn) (Nat.le_trans hn q4) (by omega) (by omega) (am_hasL_ext q3 hol hl) (fun v hv => am_ok_mono q4 (hol v hv)) (am_push_ok q2 (fun v hv => am_ok_mono q4 (hr9 v hv)))
  rw [am_push_map, am_map_ext q3 hr9] at K
  exact K
theorem sd_callI {d : Nat} {k : am_M} {rc rs pc : Nat} {ls stk : List AV} {st : am_S} {Q : AV → am_S → Prop} {y : am_M} {index mc ms : Nat} {o : Int} {q9 : Nat × Nat} {av : List AV} (hd : decode k.2.1 pc = .ok (.invokespecial index, 3)) (hy : am_CK y av.length) (w1 : am_ML k.1.cls index y.1) (w2 : Cond.instanceMethod y.1 ∈ am_wall) (w3 : y.1.name = "<init>") (w4 : y.2.2.2 = none) (ho : am_at st.1 o = some q9) (hw9 : am_w stk ≤ 8) (h : am_Call d y mc ms (vR o :: av) st (fun r st' => am_Wp (d + 1) k rc rs (pc + 3) ls (am_push r stk) st' Q)) : am_Wp (d + 1) k (rc + mc) (rs + ms) (pc) ls (av.reverse ++ vR o :: stk) st Q := by
  intro g l p e R s m args below meth c Z ads0 n0 cm sm F O hZ ads H locs cells slots lsA hH he hn hc hs hl hol hos
  obtain ⟨hx, hb, hml, hown, hts, hG, hE, hin⟩ := id F
  obtain ⟨y1, y2, y3, y4⟩ := hy
  have hr9 : ∀ v ∈ stk, am_ok st.1.length v := fun v hv => hos v (List.mem_append_right _ (List.mem_cons_of_mem _ hv))
  have ha9 : ∀ v ∈ vR o :: av, am_ok st.1.length v := fun v hv => by
    rcases List.mem_cons.mp hv with rfl | hv
    · exact hos _ (List.mem_append_right _ List.mem_cons_self)
    · exact hos v (List.mem_append_left _ (List.mem_reverse.mpr hv))
  have hM := h g l ads ha9
  have hro := am_ref (g := g) (ads := ads) ho
  generalize ads (o - 1).toNat = a at hro
  have emap : (vR o :: av).map (am_cv g ads) = Value.ref a :: av.map (am_cv g ads) := by
    show va_rf (am_ro g ads o) :: _ = _
    rw [hro]; rfl
  have hPc : ∀ U : State, U.heap = H → s.WarmedH U.vm → am_Pc g ads (vR o :: av) st (Value.ref a :: av.map (am_cv g ads)).toArray U := by
    intro U hU hW
    rw [← emap]
    exact am_pre hG hE hH (vR o :: av) U hU hW
  have estk : (av.reverse ++ vR o :: stk).map (am_cv g ads) = (av.map (am_cv g ads)).reverse ++ Value.ref a :: stk.map (am_cv g ads) := by
    rw [List.map_append, List.map_reverse, List.map_cons]
    congr 2
    show va_rf (am_ro g ads o) = _
    rw [hro]; rfl
  obtain ⟨yn, yb, yl, yr⟩ := y
  have w4 : yr = none := w4
  subst w4
  have y4 : yl ≤ 45 := y4
  have run : va_Run p l e R s m args below meth c H locs cells slots mc ms (F0 m pc lsA ((av.reverse ++ vR o :: stk).map (am_cv g ads))) (stk.map (am_cv g ads)) (am_Qc g ads st (fun r st' => am_Wp (d + 1) k rc rs (pc + 3) ls (am_push r stk) st' Q) (Value.ref a :: av.map (am_cv g ads)).toArray) (am_A g) := by
    rcases w1 with w1 | ⟨host, w1⟩
    · exact va_runI (n := av.length) ⟨hx, hb, hml, hown, hts⟩ hM ⟨callB_of av.length hts (am_goodM y1) rfl rfl rfl (hts _ y2) (hts _ w1) y3 ⟨O.1, by have := O.2.1; show 8 + (yl + 11) + 64 * d ≤ _; omega⟩, w3, hts _ w2⟩ ⟨am_blind g ads _ st, hPc⟩ rfl (by simp) hl.1 estk (lv_room (by rw [am_w_eq]; exact hw9)) hd ⟨by have := O.2.2.1; omega, by have := O.2.2.2; omega⟩
    · exact va_runIN (n := av.length) ⟨hx, hb, hml, hown, hts⟩ hM ⟨va_cnB av.length hts (am_goodM y1) rfl rfl rfl (hG.2.1 _ w1 rfl) (hts _ y2) y3 ⟨O.1, by have := O.2.1; show 8 + (yl + 11) + 64 * d ≤ _; omega⟩, w3, hts _ w2⟩ ⟨am_blind g ads _ st, hPc⟩ rfl (by simp) hl.1 estk (lv_room (by rw [am_w_eq]; exact hw9)) hd ⟨by have := O.2.2.1; omega, by have := O.2.2.2; omega⟩
  refine am_cont run hH.2.2.1 (fun r st' ads' H1 locs1 q1 q2 q3 q4 q5 => ?_)
  have K := q1 g l p e R s m args below meth c Z ads0 n0 cm sm F O hZ ads' H1 locs1 (cells + mc) (slots + ms) lsA q5 (am_ext_tr he q3 hn) (Nat.le_trans hn q4) (by omega) (by omega) (am_hasL_ext q3 hol hl) (fun v hv => am_ok_mono q4 (hol v hv)) (am_push_ok q2 (fun v hv => am_ok_mono q4 (hr9 v hv)))
  rw [am_push_map, am_map_ext q3 hr9] at K
  exact K
