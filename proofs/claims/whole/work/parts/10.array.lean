/-! arrays -/
theorem am_cl_ix {i : Int} (h0 : 0 ≤ i) (h : am_i32 i) : (Int32.ofInt i).toNatClampNeg = i.toNat := by
  unfold am_i32 at h
  exact Int32.toNatClampNeg_ofInt_of_le (by omega) (by omega)
theorem am_vin {i : Int} {n : Nat} (h0 : 0 ≤ i) (h1 : i < (n : Int)) (h : am_i32 i) : vp_in (Int32.ofInt i) n := vp_in_iff.mpr (by rw [am_ti h]; exact ⟨h0, h1⟩)
theorem am_cell_i {g : am_G} {ads : Nat → Nat} {kd n : Nat} {f : Int → Int} (h : kd = 20 ∨ kd = 22 ∨ kd = 23) : am_cell g ads (kd, n) f = .inl (g.2.1 kd, n, .inl (fun i => Int32.ofInt (f i))) := by
  rcases h with rfl | rfl | rfl <;> rfl
theorem am_cell_l {g : am_G} {ads : Nat → Nat} {n : Nat} {f : Int → Int} : am_cell g ads (21, n) f = .inl (g.2.1 21, n, .inr (.inl (fun i => Int64.ofInt (f i)))) := rfl
theorem am_cell_r {g : am_G} {ads : Nat → Nat} {kd n : Nat} {f : Int → Int} (h : kd = 24 ∨ kd = 25) : am_cell g ads (kd, n) f = .inl (g.2.1 kd, n, .inr (.inr (.inr (.inr (fun i => am_ro g ads (f i)))))) := by
  rcases h with rfl | rfl <;> rfl
theorem am_upd_i {f : Int → Int} {i v : Int} (h0 : 0 ≤ i) : upd (fun q : Nat => Int32.ofInt (f q)) i.toNat (Int32.ofInt v) = fun q : Nat => Int32.ofInt (if (q : Int) = i then v else f q) := by
  funext q
  by_cases e : q = i.toNat
  · subst e
    have : ((i.toNat : Nat) : Int) = i := by omega
    simp [upd, this]
  · have : ¬ ((q : Int) = i) := by omega
    simp [upd, e, this]
theorem am_upd_l {f : Int → Int} {i v : Int} (h0 : 0 ≤ i) : vp_updL (fun q : Nat => Int64.ofInt (f q)) i.toNat (Int64.ofInt v) = fun q : Nat => Int64.ofInt (if (q : Int) = i then v else f q) := by
  funext q
  by_cases e : q = i.toNat
  · subst e
    have : ((i.toNat : Nat) : Int) = i := by omega
    simp [vp_updL, this]
  · have : ¬ ((q : Int) = i) := by omega
    simp [vp_updL, e, this]
theorem am_nar_z {v : Int} (h : v = 0 ∨ v = 1) : vp_nar .boolean (Int32.ofInt v) = Int32.ofInt v := by rcases h with rfl | rfl <;> rfl
theorem am_nar_c {v : Int} (h0 : 0 ≤ v) (h1 : v < 65536) : vp_nar .char (Int32.ofInt v) = Int32.ofInt v := by
  have h := (pk_charN (q := v.toNat) (by omega)).1
  have e : nI v.toNat = Int32.ofInt v := by rw [nI, ← Int32.ofInt_eq_ofNat]; congr 1; omega
  rw [e] at h
  unfold vp_nar
  rw [h]
theorem am_lenI (n : Nat) : Int32.ofNat n = Int32.ofInt (n : Int) := Int32.ofInt_eq_ofNat.symm
theorem sd_iald {d : Nat} {k : am_M} {rc rs pc : Nat} {ls stk : List AV} {st : am_S} {Q : AV → am_S → Prop} {n : Nat} {o i : Int} (hd : decode k.2.1 pc = .ok (.iaload, 1)) (ho : am_at st.1 o = some (20, n)) (h0 : 0 ≤ i) (h1 : i < (n : Int)) (h : am_Wp d k rc rs (pc + 1) (ls) (vI (st.2 o i) :: stk) (st) Q) : am_Wp d k rc rs (pc) (ls) (vI i :: vR o :: stk) (st) Q := by
  intro g l p e R s m args below meth c Z ads0 n0 cm sm F O hZ ads H locs cells slots lsA hH he hn hc hs hl hol hos
  obtain ⟨hx, hb, hml, hown, hts, hG, hE, hin⟩ := id F
  have hi : am_i32 i := am_hd hos
  have hok : am_ok st.1.length (vI (st.2 o i)) := am_okM_at hH.2.2.2.1 ho i
  have K : W p l e R s m args below meth c H locs cells slots Z (F0 m (pc + 1) lsA (.int (Int32.ofInt (st.2 o i)) :: stk.map (am_cv g ads))) := h g l p e R s m args below meth c Z ads0 n0 cm sm F O hZ ads H locs cells slots lsA hH he hn hc hs hl hol (am_cns hok (am_tlv (am_tlv hos)))
  show W p l e R s m args below meth c H locs cells slots Z (F0 m pc lsA (.int (Int32.ofInt i) :: va_rf (am_ro g ads o) :: stk.map (am_cv g ads)))
  rw [am_ref (g := g) (ads := ads) ho]
  have he9 := am_ws_at (g := g) (ads := ads) ho
  rw [am_cell_i (Or.inl rfl)] at he9
  refine va_iald hx hb hG.1 hH.1 (o - 1).toNat 0 he9 rfl (am_vin h0 h1 hi) hd ?_
  rw [am_cl_ix h0 hi, show ((i.toNat : Nat) : Int) = i by omega]
  exact K
theorem sd_zald {d : Nat} {k : am_M} {rc rs pc : Nat} {ls stk : List AV} {st : am_S} {Q : AV → am_S → Prop} {n : Nat} {o i : Int} (hd : decode k.2.1 pc = .ok (.baload, 1)) (ho : am_at st.1 o = some (22, n)) (h0 : 0 ≤ i) (h1 : i < (n : Int)) (h : am_Wp d k rc rs (pc + 1) (ls) (vI (st.2 o i) :: stk) (st) Q) : am_Wp d k rc rs (pc) (ls) (vI i :: vR o :: stk) (st) Q := by
  intro g l p e R s m args below meth c Z ads0 n0 cm sm F O hZ ads H locs cells slots lsA hH he hn hc hs hl hol hos
  obtain ⟨hx, hb, hml, hown, hts, hG, hE, hin⟩ := id F
  have hi : am_i32 i := am_hd hos
  have hok : am_ok st.1.length (vI (st.2 o i)) := am_okM_at hH.2.2.2.1 ho i
  have K : W p l e R s m args below meth c H locs cells slots Z (F0 m (pc + 1) lsA (.int (Int32.ofInt (st.2 o i)) :: stk.map (am_cv g ads))) := h g l p e R s m args below meth c Z ads0 n0 cm sm F O hZ ads H locs cells slots lsA hH he hn hc hs hl hol (am_cns hok (am_tlv (am_tlv hos)))
  show W p l e R s m args below meth c H locs cells slots Z (F0 m pc lsA (.int (Int32.ofInt i) :: va_rf (am_ro g ads o) :: stk.map (am_cv g ads)))
  rw [am_ref (g := g) (ads := ads) ho]
  have he9 := am_ws_at (g := g) (ads := ads) ho
  rw [am_cell_i (Or.inr (Or.inl rfl))] at he9
  refine va_zald hx hb hG.1 hH.1 (o - 1).toNat 2 he9 rfl (am_vin h0 h1 hi) hd ?_
  rw [am_cl_ix h0 hi, show ((i.toNat : Nat) : Int) = i by omega]
  exact K
theorem sd_cald {d : Nat} {k : am_M} {rc rs pc : Nat} {ls stk : List AV} {st : am_S} {Q : AV → am_S → Prop} {n : Nat} {o i : Int} (hd : decode k.2.1 pc = .ok (.caload, 1)) (ho : am_at st.1 o = some (23, n)) (h0 : 0 ≤ i) (h1 : i < (n : Int)) (h : am_Wp d k rc rs (pc + 1) (ls) (vI (st.2 o i) :: stk) (st) Q) : am_Wp d k rc rs (pc) (ls) (vI i :: vR o :: stk) (st) Q := by
  intro g l p e R s m args below meth c Z ads0 n0 cm sm F O hZ ads H locs cells slots lsA hH he hn hc hs hl hol hos
  obtain ⟨hx, hb, hml, hown, hts, hG, hE, hin⟩ := id F
  have hi : am_i32 i := am_hd hos
  have hok : am_ok st.1.length (vI (st.2 o i)) := am_okM_at hH.2.2.2.1 ho i
  have K : W p l e R s m args below meth c H locs cells slots Z (F0 m (pc + 1) lsA (.int (Int32.ofInt (st.2 o i)) :: stk.map (am_cv g ads))) := h g l p e R s m args below meth c Z ads0 n0 cm sm F O hZ ads H locs cells slots lsA hH he hn hc hs hl hol (am_cns hok (am_tlv (am_tlv hos)))
  show W p l e R s m args below meth c H locs cells slots Z (F0 m pc lsA (.int (Int32.ofInt i) :: va_rf (am_ro g ads o) :: stk.map (am_cv g ads)))
  rw [am_ref (g := g) (ads := ads) ho]
  have he9 := am_ws_at (g := g) (ads := ads) ho
  rw [am_cell_i (Or.inr (Or.inr rfl))] at he9
  refine va_cald hx hb hG.1 hH.1 (o - 1).toNat 3 he9 rfl (am_vin h0 h1 hi) hd ?_
  rw [am_cl_ix h0 hi, show ((i.toNat : Nat) : Int) = i by omega]
  exact K
theorem sd_lald {d : Nat} {k : am_M} {rc rs pc : Nat} {ls stk : List AV} {st : am_S} {Q : AV → am_S → Prop} {n : Nat} {o i : Int} (hd : decode k.2.1 pc = .ok (.laload, 1)) (ho : am_at st.1 o = some (21, n)) (h0 : 0 ≤ i) (h1 : i < (n : Int)) (h : am_Wp d k rc rs (pc + 1) (ls) (vL (st.2 o i) :: stk) (st) Q) : am_Wp d k rc rs (pc) (ls) (vI i :: vR o :: stk) (st) Q := by
  intro g l p e R s m args below meth c Z ads0 n0 cm sm F O hZ ads H locs cells slots lsA hH he hn hc hs hl hol hos
  obtain ⟨hx, hb, hml, hown, hts, hG, hE, hin⟩ := id F
  have hi : am_i32 i := am_hd hos
  have hok : am_ok st.1.length (vL (st.2 o i)) := am_okM_at hH.2.2.2.1 ho i
  have K : W p l e R s m args below meth c H locs cells slots Z (F0 m (pc + 1) lsA (.long (Int64.ofInt (st.2 o i)) :: stk.map (am_cv g ads))) := h g l p e R s m args below meth c Z ads0 n0 cm sm F O hZ ads H locs cells slots lsA hH he hn hc hs hl hol (am_cns hok (am_tlv (am_tlv hos)))
  show W p l e R s m args below meth c H locs cells slots Z (F0 m pc lsA (.int (Int32.ofInt i) :: va_rf (am_ro g ads o) :: stk.map (am_cv g ads)))
  rw [am_ref (g := g) (ads := ads) ho]
  have he9 := am_ws_at (g := g) (ads := ads) ho
  rw [am_cell_l] at he9
  refine va_lald hx hb hG.1 hH.1 (o - 1).toNat 1 he9 rfl (am_vin h0 h1 hi) hd ?_
  rw [am_cl_ix h0 hi, show ((i.toNat : Nat) : Int) = i by omega]
  exact K
theorem sd_oald {d : Nat} {k : am_M} {rc rs pc : Nat} {ls stk : List AV} {st : am_S} {Q : AV → am_S → Prop} {n : Nat} {o i : Int} (hd : decode k.2.1 pc = .ok (.aaload, 1)) (ho : am_at st.1 o = some (24, n)) (h0 : 0 ≤ i) (h1 : i < (n : Int)) (h : am_Wp d k rc rs (pc + 1) (ls) (vR (st.2 o i) :: stk) (st) Q) : am_Wp d k rc rs (pc) (ls) (vI i :: vR o :: stk) (st) Q := by
  intro g l p e R s m args below meth c Z ads0 n0 cm sm F O hZ ads H locs cells slots lsA hH he hn hc hs hl hol hos
  obtain ⟨hx, hb, hml, hown, hts, hG, hE, hin⟩ := id F
  have hi : am_i32 i := am_hd hos
  have hok : am_ok st.1.length (vR (st.2 o i)) := am_okM_at hH.2.2.2.1 ho i
  have K : W p l e R s m args below meth c H locs cells slots Z (F0 m (pc + 1) lsA (va_rf (am_ro g ads (st.2 o i)) :: stk.map (am_cv g ads))) := h g l p e R s m args below meth c Z ads0 n0 cm sm F O hZ ads H locs cells slots lsA hH he hn hc hs hl hol (am_cns hok (am_tlv (am_tlv hos)))
  show W p l e R s m args below meth c H locs cells slots Z (F0 m pc lsA (.int (Int32.ofInt i) :: va_rf (am_ro g ads o) :: stk.map (am_cv g ads)))
  rw [am_ref (g := g) (ads := ads) ho]
  have he9 := am_ws_at (g := g) (ads := ads) ho
  rw [am_cell_r (Or.inl rfl)] at he9
  refine va_aldq hx hb hG.1 hH.1 (o - 1).toNat 4 he9 rfl (am_vin h0 h1 hi) hd ?_
  rw [am_cl_ix h0 hi, show ((i.toNat : Nat) : Int) = i by omega]
  exact K
theorem sd_gald {d : Nat} {k : am_M} {rc rs pc : Nat} {ls stk : List AV} {st : am_S} {Q : AV → am_S → Prop} {n : Nat} {o i : Int} (hd : decode k.2.1 pc = .ok (.aaload, 1)) (ho : am_at st.1 o = some (25, n)) (h0 : 0 ≤ i) (h1 : i < (n : Int)) (h : am_Wp d k rc rs (pc + 1) (ls) (vR (st.2 o i) :: stk) (st) Q) : am_Wp d k rc rs (pc) (ls) (vI i :: vR o :: stk) (st) Q := by
  intro g l p e R s m args below meth c Z ads0 n0 cm sm F O hZ ads H locs cells slots lsA hH he hn hc hs hl hol hos
  obtain ⟨hx, hb, hml, hown, hts, hG, hE, hin⟩ := id F
  have hi : am_i32 i := am_hd hos
  have hok : am_ok st.1.length (vR (st.2 o i)) := am_okM_at hH.2.2.2.1 ho i
  have K : W p l e R s m args below meth c H locs cells slots Z (F0 m (pc + 1) lsA (va_rf (am_ro g ads (st.2 o i)) :: stk.map (am_cv g ads))) := h g l p e R s m args below meth c Z ads0 n0 cm sm F O hZ ads H locs cells slots lsA hH he hn hc hs hl hol (am_cns hok (am_tlv (am_tlv hos)))
  show W p l e R s m args below meth c H locs cells slots Z (F0 m pc lsA (.int (Int32.ofInt i) :: va_rf (am_ro g ads o) :: stk.map (am_cv g ads)))
  rw [am_ref (g := g) (ads := ads) ho]
  have he9 := am_ws_at (g := g) (ads := ads) ho
  rw [am_cell_r (Or.inr rfl)] at he9
  have hin := am_vin h0 h1 hi
  have hlt : (Int32.ofInt i).toNatClampNeg < n := Nat.not_le.mp fun q => hin (Or.inr q)
  refine W.aald (v := va_rf (am_ro g ads (st.2 o (((Int32.ofInt i).toNatClampNeg : Nat) : Int)))) (ty := .array .int) hx hb (hH.1 (o - 1).toNat _ he9) ((hG.1.2 5 _ rfl).1 n (fun j => va_rf (am_ro g ads (st.2 o j)))) rfl (fun q => by cases q) (by show ¬ (_ ∨ (arrV _ _ _).slots.size ≤ _); rw [arrV_size]; exact hin) (by show (arrV _ _ _).slots[_]? = _; rw [arrV_read _ _ hlt]) rfl rfl hd ?_
  rw [am_cl_ix h0 hi, show ((i.toNat : Nat) : Int) = i by omega]
  exact K
theorem sd_iast {d : Nat} {k : am_M} {rc rs pc : Nat} {ls stk : List AV} {st : am_S} {Q : AV → am_S → Prop} {n : Nat} {o i v : Int} (hd : decode k.2.1 pc = .ok (.iastore, 1)) (ho : am_at st.1 o = some (20, n)) (h0 : 0 ≤ i) (h1 : i < (n : Int))  (h : am_Wp d k rc rs (pc + 1) (ls) (stk) (st.1, am_up st.2 o i v) Q) : am_Wp d k rc rs (pc) (ls) (vI v :: vI i :: vR o :: stk) (st) Q := by
  intro g l p e R s m args below meth c Z ads0 n0 cm sm F O hZ ads H locs cells slots lsA hH he hn hc hs hl hol hos
  obtain ⟨hx, hb, hml, hown, hts, hG, hE, hin⟩ := id F
  have hi : am_i32 i := am_hd (am_tlv hos)
  have hM' : am_okM (st.1, am_up st.2 o i v) := am_okM_up (M := st.2) hH.2.2.2.1 ho (am_hd hos)
  show W p l e R s m args below meth c H locs cells slots Z (F0 m pc lsA (.int (Int32.ofInt v) :: .int (Int32.ofInt i) :: va_rf (am_ro g ads o) :: stk.map (am_cv g ads)))
  rw [am_ref (g := g) (ads := ads) ho]
  have he9 := am_ws_at (g := g) (ads := ads) ho
  have eW := am_ws_up (g := g) (ads := ads) (M := st.2) (j := i) (v := v) ho
  rw [am_cell_i (Or.inl rfl)] at he9 eW
  rw [am_up_at] at eW
  refine va_iast hx hb hG.1 hH.1 hH.2.1 hH.2.2.1 (o - 1).toNat 0 he9 rfl (am_vin h0 h1 hi) hd (fun H1 locs1 hP hD hS => ?_)
  rw [am_cl_ix h0 hi, am_upd_i h0, ← eW] at hP hD
  exact h g l p e R s m args below meth c Z ads0 n0 cm sm F O hZ ads H1 locs1 cells slots lsA ⟨hP, hD, hS, hM', am_Sc_up hH.2.2.2.2 ho⟩ he hn hc hs hl hol (am_tlv (am_tlv (am_tlv hos)))
theorem sd_zast {d : Nat} {k : am_M} {rc rs pc : Nat} {ls stk : List AV} {st : am_S} {Q : AV → am_S → Prop} {n : Nat} {o i v : Int} (hd : decode k.2.1 pc = .ok (.bastore, 1)) (ho : am_at st.1 o = some (22, n)) (h0 : 0 ≤ i) (h1 : i < (n : Int)) (hv : v = 0 ∨ v = 1) (h : am_Wp d k rc rs (pc + 1) (ls) (stk) (st.1, am_up st.2 o i v) Q) : am_Wp d k rc rs (pc) (ls) (vI v :: vI i :: vR o :: stk) (st) Q := by
  intro g l p e R s m args below meth c Z ads0 n0 cm sm F O hZ ads H locs cells slots lsA hH he hn hc hs hl hol hos
  obtain ⟨hx, hb, hml, hown, hts, hG, hE, hin⟩ := id F
  have hi : am_i32 i := am_hd (am_tlv hos)
  have hM' : am_okM (st.1, am_up st.2 o i v) := am_okM_up (M := st.2) hH.2.2.2.1 ho (am_hd hos)
  show W p l e R s m args below meth c H locs cells slots Z (F0 m pc lsA (.int (Int32.ofInt v) :: .int (Int32.ofInt i) :: va_rf (am_ro g ads o) :: stk.map (am_cv g ads)))
  rw [am_ref (g := g) (ads := ads) ho]
  have he9 := am_ws_at (g := g) (ads := ads) ho
  have eW := am_ws_up (g := g) (ads := ads) (M := st.2) (j := i) (v := v) ho
  rw [am_cell_i (Or.inr (Or.inl rfl))] at he9 eW
  rw [am_up_at] at eW
  refine va_zast hx hb hG.1 hH.1 hH.2.1 hH.2.2.1 (o - 1).toNat 2 he9 rfl (am_vin h0 h1 hi) hd (fun H1 locs1 hP hD hS => ?_)
  rw [am_cl_ix h0 hi, am_nar_z hv, am_upd_i h0, ← eW] at hP hD
  exact h g l p e R s m args below meth c Z ads0 n0 cm sm F O hZ ads H1 locs1 cells slots lsA ⟨hP, hD, hS, hM', am_Sc_up hH.2.2.2.2 ho⟩ he hn hc hs hl hol (am_tlv (am_tlv (am_tlv hos)))
theorem sd_cast {d : Nat} {k : am_M} {rc rs pc : Nat} {ls stk : List AV} {st : am_S} {Q : AV → am_S → Prop} {n : Nat} {o i v : Int} (hd : decode k.2.1 pc = .ok (.castore, 1)) (ho : am_at st.1 o = some (23, n)) (h0 : 0 ≤ i) (h1 : i < (n : Int)) (hv0 : 0 ≤ v) (hv1 : v < 65536) (h : am_Wp d k rc rs (pc + 1) (ls) (stk) (st.1, am_up st.2 o i v) Q) : am_Wp d k rc rs (pc) (ls) (vI v :: vI i :: vR o :: stk) (st) Q := by
  intro g l p e R s m args below meth c Z ads0 n0 cm sm F O hZ ads H locs cells slots lsA hH he hn hc hs hl hol hos
  obtain ⟨hx, hb, hml, hown, hts, hG, hE, hin⟩ := id F
  have hi : am_i32 i := am_hd (am_tlv hos)
  have hM' : am_okM (st.1, am_up st.2 o i v) := am_okM_up (M := st.2) hH.2.2.2.1 ho (am_hd hos)
  show W p l e R s m args below meth c H locs cells slots Z (F0 m pc lsA (.int (Int32.ofInt v) :: .int (Int32.ofInt i) :: va_rf (am_ro g ads o) :: stk.map (am_cv g ads)))
  rw [am_ref (g := g) (ads := ads) ho]
  have he9 := am_ws_at (g := g) (ads := ads) ho
  have eW := am_ws_up (g := g) (ads := ads) (M := st.2) (j := i) (v := v) ho
  rw [am_cell_i (Or.inr (Or.inr rfl))] at he9 eW
  rw [am_up_at] at eW
  refine va_cast hx hb hG.1 hH.1 hH.2.1 hH.2.2.1 (o - 1).toNat 3 he9 rfl (am_vin h0 h1 hi) hd (fun H1 locs1 hP hD hS => ?_)
  rw [am_cl_ix h0 hi, am_nar_c hv0 hv1, am_upd_i h0, ← eW] at hP hD
  exact h g l p e R s m args below meth c Z ads0 n0 cm sm F O hZ ads H1 locs1 cells slots lsA ⟨hP, hD, hS, hM', am_Sc_up hH.2.2.2.2 ho⟩ he hn hc hs hl hol (am_tlv (am_tlv (am_tlv hos)))
theorem sd_last {d : Nat} {k : am_M} {rc rs pc : Nat} {ls stk : List AV} {st : am_S} {Q : AV → am_S → Prop} {n : Nat} {o i v : Int} (hd : decode k.2.1 pc = .ok (.lastore, 1)) (ho : am_at st.1 o = some (21, n)) (h0 : 0 ≤ i) (h1 : i < (n : Int))  (h : am_Wp d k rc rs (pc + 1) (ls) (stk) (st.1, am_up st.2 o i v) Q) : am_Wp d k rc rs (pc) (ls) (vL v :: vI i :: vR o :: stk) (st) Q := by
  intro g l p e R s m args below meth c Z ads0 n0 cm sm F O hZ ads H locs cells slots lsA hH he hn hc hs hl hol hos
  obtain ⟨hx, hb, hml, hown, hts, hG, hE, hin⟩ := id F
  have hi : am_i32 i := am_hd (am_tlv hos)
  have hM' : am_okM (st.1, am_up st.2 o i v) := am_okM_up (M := st.2) hH.2.2.2.1 ho (am_hd hos)
  show W p l e R s m args below meth c H locs cells slots Z (F0 m pc lsA (.long (Int64.ofInt v) :: .int (Int32.ofInt i) :: va_rf (am_ro g ads o) :: stk.map (am_cv g ads)))
  rw [am_ref (g := g) (ads := ads) ho]
  have he9 := am_ws_at (g := g) (ads := ads) ho
  have eW := am_ws_up (g := g) (ads := ads) (M := st.2) (j := i) (v := v) ho
  rw [am_cell_l] at he9 eW
  rw [am_up_at] at eW
  refine va_last hx hb hG.1 hH.1 hH.2.1 hH.2.2.1 (o - 1).toNat 1 he9 rfl (am_vin h0 h1 hi) hd (fun H1 locs1 hP hD hS => ?_)
  rw [am_cl_ix h0 hi, am_upd_l h0, ← eW] at hP hD
  exact h g l p e R s m args below meth c Z ads0 n0 cm sm F O hZ ads H1 locs1 cells slots lsA ⟨hP, hD, hS, hM', am_Sc_up hH.2.2.2.2 ho⟩ he hn hc hs hl hol (am_tlv (am_tlv (am_tlv hos)))
theorem sd_oast {d : Nat} {k : am_M} {rc rs pc : Nat} {ls stk : List AV} {st : am_S} {Q : AV → am_S → Prop} {n m9 : Nat} {o i v : Int} (hd : decode k.2.1 pc = .ok (.aastore, 1)) (ho : am_at st.1 o = some (24, n)) (h0 : 0 ≤ i) (h1 : i < (n : Int)) (hv : am_at st.1 v = some (0, m9)) (h : am_Wp d k rc rs (pc + 1) (ls) (stk) (st.1, am_up st.2 o i v) Q) : am_Wp d k rc rs (pc) (ls) (vR v :: vI i :: vR o :: stk) (st) Q := by
  intro g l p e R s m args below meth c Z ads0 n0 cm sm F O hZ ads H locs cells slots lsA hH he hn hc hs hl hol hos
  obtain ⟨hx, hb, hml, hown, hts, hG, hE, hin⟩ := id F
  have hi : am_i32 i := am_hd (am_tlv hos)
  have hM' : am_okM (st.1, am_up st.2 o i v) := am_okM_up (M := st.2) hH.2.2.2.1 ho (am_hd hos)
  show W p l e R s m args below meth c H locs cells slots Z (F0 m pc lsA (va_rf (am_ro g ads v) :: .int (Int32.ofInt i) :: va_rf (am_ro g ads o) :: stk.map (am_cv g ads)))
  rw [am_ref (g := g) (ads := ads) ho, am_ref (g := g) (ads := ads) hv]
  have he9 := am_ws_at (g := g) (ads := ads) ho
  have hv9 := am_ws_at (g := g) (ads := ads) hv
  rw [am_cell_o (by decide)] at hv9
  have eW := am_ws_up (g := g) (ads := ads) (M := st.2) (j := i) (v := v) ho
  rw [am_cell_r (Or.inl rfl)] at he9 eW
  rw [am_up_at] at eW
  have eF : va_up (fun q : Nat => am_ro g ads (st.2 o q)) i.toNat (some (ads (v - 1).toNat)) = fun q : Nat => am_ro g ads (if (q : Int) = i then v else st.2 o q) := by
    funext q
    by_cases e9 : q = i.toNat
    · subst e9
      have : ((i.toNat : Nat) : Int) = i := by omega
      simp [va_up, this, am_ref (g := g) (ads := ads) hv]
    · have : ¬ ((q : Int) = i) := by omega
      simp [va_up, e9, this]
  refine va_astq (r := (RX0, TX0, 12)) hx hb hG.1 hH.1 hH.2.1 hH.2.2.1 (o - 1).toNat 4 (v - 1).toNat 0 he9 rfl hv9 rfl (am_vin h0 h1 hi) hd (fun H1 locs1 hP hD hS => ?_)
  rw [am_cl_ix h0 hi, eF, ← eW] at hP hD
  exact h g l p e R s m args below meth c Z ads0 n0 cm sm F O hZ ads H1 locs1 cells slots lsA ⟨hP, hD, hS, hM', am_Sc_up hH.2.2.2.2 ho⟩ he hn hc hs hl hol (am_tlv (am_tlv (am_tlv hos)))
theorem am_tyi {g : am_G} {kd : Nat} (h : 20 ≤ kd) (h2 : kd ≤ 25) : ∃ ty, (am_tys g)[kd - 20]? = some (g.2.1 kd, ty) := by
  rcases (show kd = 20 ∨ kd = 21 ∨ kd = 22 ∨ kd = 23 ∨ kd = 24 ∨ kd = 25 by omega) with rfl | rfl | rfl | rfl | rfl | rfl <;> exact ⟨_, rfl⟩
theorem sd_alen {d : Nat} {k : am_M} {rc rs pc : Nat} {ls stk : List AV} {st : am_S} {Q : AV → am_S → Prop} {n kd : Nat} {o : Int} (hd : decode k.2.1 pc = .ok (.arraylength, 1)) (ho : am_at st.1 o = some (kd, n)) (hk1 : 20 ≤ kd) (hk2 : kd ≤ 25) (hn9 : (n : Int) ≤ 2147483647) (h : am_Wp d k rc rs (pc + 1) (ls) (vI (n : Int) :: stk) (st) Q) : am_Wp d k rc rs (pc) (ls) (vR o :: stk) (st) Q := by
  intro g l p e R s m args below meth c Z ads0 n0 cm sm F O hZ ads H locs cells slots lsA hH he hn hc hs hl hol hos
  obtain ⟨hx, hb, hml, hown, hts, hG, hE, hin⟩ := id F
  have hok : am_ok st.1.length (vI (n : Int)) := am_32c (by omega) hn9
  have K : W p l e R s m args below meth c H locs cells slots Z (F0 m (pc + 1) lsA (.int (Int32.ofInt (n : Int)) :: stk.map (am_cv g ads))) := h g l p e R s m args below meth c Z ads0 n0 cm sm F O hZ ads H locs cells slots lsA hH he hn hc hs hl hol (am_cns hok (am_tlv hos))
  show W p l e R s m args below meth c H locs cells slots Z (F0 m pc lsA (va_rf (am_ro g ads o) :: stk.map (am_cv g ads)))
  rw [am_ref (g := g) (ads := ads) ho]
  have he9 := am_ws_at (g := g) (ads := ads) ho
  obtain ⟨ty, hty⟩ := am_tyi (g := g) hk1 hk2
  unfold am_cell at he9
  rw [if_neg (by show ¬ kd < 13; omega)] at he9
  exact va_alen hx hb hG.1 hH.1 (o - 1).toNat (kd - 20) he9 hty (am_lenI n) hd K
