theorem am_cell_o {g : am_G} {ads : Nat → Nat} {c n : Nat} {f : Int → Int} (h : c < 13) : am_cell g ads (c, n) f = .inr (c, (List.range (am_nf c)).map (fun j => am_fv g ads (am_ty c j) (f j))) := if_pos h
theorem am_fs_get {g : am_G} {ads : Nat → Nat} {c j : Nat} {f : Int → Int} (h : j < am_nf c) : ((List.range (am_nf c)).map (fun j => am_fv g ads (am_ty c j) (f j)))[j]? = some (am_fv g ads (am_ty c j) (f j)) := by
  rw [List.getElem?_map, List.getElem?_range h]; rfl
theorem am_fs_set {g : am_G} {ads : Nat → Nat} {c j : Nat} {f : Int → Int} {v : Int} (h : j < am_nf c) : ((List.range (am_nf c)).map (fun j => am_fv g ads (am_ty c j) (f j))).set j (am_fv g ads (am_ty c j) v) = (List.range (am_nf c)).map (fun i => am_fv g ads (am_ty c i) (if (i : Int) = (j : Int) then v else f i)) := by
  apply List.ext_getElem?
  intro i
  by_cases hi : i < am_nf c
  · rw [List.getElem?_map, List.getElem?_range hi]
    by_cases e : i = j
    · subst e
      rw [List.getElem?_set_self (by simpa using hi)]
      simp
    · rw [List.getElem?_set_ne (fun z => e z.symm), List.getElem?_map, List.getElem?_range hi]
      have : ¬ ((i : Int) = (j : Int)) := by omega
      simp [this]
  · rw [List.getElem?_eq_none (by simp; omega), List.getElem?_eq_none (by simp; omega)]
def am_FL (own : String) (index : Nat) (T : u_T) (j : Nat) : Prop := Cond.fieldLink own index (T j).1 (T j).2.1 (T j).2.2.1 ∈ am_wall ∨ ∃ host, Cond.fieldLinkNest own index (T j).1 (T j).2.1 (T j).2.2.1 host ∈ lw_tbl
def am_fit (ty : FieldType) (v : Int) : Prop := match ty with
  | .boolean => v = 0 ∨ v = 1
  | _ => True
theorem am_isR_i {ty : FieldType} (h : am_isR ty = false) : ty = .int ∨ ty = .boolean := by
  cases ty <;> first | exact Or.inl rfl | exact Or.inr rfl | cases h
theorem am_nar_i {ty : FieldType} (h : am_isR ty = false) {v : Int} (hf : am_fit ty v) : narrow ty (.int (Int32.ofInt v)) = .int (Int32.ofInt v) ∧ fits ty (.int (Int32.ofInt v)) = true := by
  rcases am_isR_i h with rfl | rfl
  · exact ⟨rfl, rfl⟩
  · rcases hf with rfl | rfl <;> exact ⟨rfl, rfl⟩
theorem am_nar_r {ty : FieldType} (h : am_isR ty = true) (hp : ty.isReference = true) (r : Option Nat) : narrow ty (va_rf r) = va_rf r ∧ fits ty (va_rf r) = true := by
  cases ty <;> first | (cases hp; done) | (cases r <;> exact ⟨rfl, rfl⟩)
theorem am_set_st {g : am_G} {ads : Nat → Nat} {sh : List (Nat × Nat)} {M : Int → Int → Int} {o v : Int} {c n j : Nat} {x : Value} (hc : c < 13) (hj : j < am_nf c) (ho : am_at sh o = some (c, n)) (hx : x = am_fv g ads (am_ty c j) v) :
    (am_ws g ads (sh, M)).set (o - 1).toNat (ads (o - 1).toNat, .inr (c, ((List.range (am_nf c)).map (fun j => am_fv g ads (am_ty c j) (M o j))).set j x)) = am_ws g ads (sh, am_up M o j v) := by
  rw [am_ws_up ho, am_up_at, am_cell_o hc, hx, am_fs_set hj]
theorem sd_getI {d : Nat} {k : am_M} {rc rs pc : Nat} {ls stk : List AV} {st : am_S} {Q : AV → am_S → Prop} {kc n N : Nat} {C : String} {T : u_T} {o : Int} {j index : Nat} (hd : decode k.2.1 pc = .ok (.getfield index, 3)) (hC : am_Cl kc C T N) (hj : j < N) (hw : am_FL k.1.cls index T j) (hr : am_isR (am_ty kc j) = false) (ho : am_at st.1 o = some (kc, n)) (h : am_Wp d k rc rs (pc + 3) (ls) (vI (st.2 o (j : Int)) :: stk) (st) Q) : am_Wp d k rc rs (pc) (ls) (vR o :: stk) (st) Q := by
  intro g l p e R s m args below meth c Z ads0 n0 cm sm F O hZ ads H locs cells slots lsA hH he hn hc hs hl hol hos
  obtain ⟨hx, hb, hml, hown, hts, hG, hE, hin⟩ := id F
  obtain ⟨c1, c2, c3, c4, -⟩ := hC
  subst c3
  have hok : am_ok st.1.length (vI (st.2 o (j : Int))) := by
    have := am_okM_at hH.2.2.2.1 ho (j : Int)
    simp only [am_oks, if_pos c2, Int.toNat_natCast, hr] at this
    exact this
  have K := h g l p e R s m args below meth c Z ads0 n0 cm sm F O hZ ads H locs cells slots lsA hH he hn hc hs hl hol (am_cns hok (am_tlv hos))
  have ef : am_fv g ads (am_ty kc j) (st.2 o (j : Int)) = .int (Int32.ofInt (st.2 o (j : Int))) := by unfold am_fv; rw [hr]; rfl
  have K : W p l e R s m args below meth c H locs cells slots Z (F0 m (pc + 3) lsA (.int (Int32.ofInt (st.2 o (j : Int))) :: stk.map (am_cv g ads))) := K
  rw [← ef] at K
  show W p l e R s m args below meth c H locs cells slots Z (F0 m pc lsA (va_rf (am_ro g ads o) :: stk.map (am_cv g ads)))
  rw [am_ref (g := g) (ads := ads) ho]
  have he9 := am_ws_at (g := g) (ads := ads) ho
  rw [am_cell_o c2] at he9
  rcases hw with hw | ⟨host, hw⟩
  · exact va_get hx hb hts c4 hown hG.1 hH.1 (o - 1).toNat he9 c1 j hj (hts _ hw) (fun _ h9 => h9) (am_fs_get hj) hd K
  · exact va_getN hx hb hts c4 hown hG.1 hH.1 (o - 1).toNat he9 c1 j hj (va_Nw.use rfl (hG.2.1 _ hw rfl)) (fun _ h9 => h9) (am_fs_get hj) hd K
theorem sd_getR {d : Nat} {k : am_M} {rc rs pc : Nat} {ls stk : List AV} {st : am_S} {Q : AV → am_S → Prop} {kc n N : Nat} {C : String} {T : u_T} {o : Int} {j index : Nat} (hd : decode k.2.1 pc = .ok (.getfield index, 3)) (hC : am_Cl kc C T N) (hj : j < N) (hw : am_FL k.1.cls index T j) (hr : am_isR (am_ty kc j) = true) (ho : am_at st.1 o = some (kc, n)) (h : am_Wp d k rc rs (pc + 3) (ls) (vR (st.2 o (j : Int)) :: stk) (st) Q) : am_Wp d k rc rs (pc) (ls) (vR o :: stk) (st) Q := by
  intro g l p e R s m args below meth c Z ads0 n0 cm sm F O hZ ads H locs cells slots lsA hH he hn hc hs hl hol hos
  obtain ⟨hx, hb, hml, hown, hts, hG, hE, hin⟩ := id F
  obtain ⟨c1, c2, c3, c4, -⟩ := hC
  subst c3
  have hok : am_ok st.1.length (vR (st.2 o (j : Int))) := by
    have := am_okM_at hH.2.2.2.1 ho (j : Int)
    simp only [am_oks, if_pos c2, Int.toNat_natCast, hr] at this
    exact this
  have K := h g l p e R s m args below meth c Z ads0 n0 cm sm F O hZ ads H locs cells slots lsA hH he hn hc hs hl hol (am_cns hok (am_tlv hos))
  have ef : am_fv g ads (am_ty kc j) (st.2 o (j : Int)) = va_rf (am_ro g ads (st.2 o (j : Int))) := by unfold am_fv; rw [hr]; rfl
  have K : W p l e R s m args below meth c H locs cells slots Z (F0 m (pc + 3) lsA (va_rf (am_ro g ads (st.2 o (j : Int))) :: stk.map (am_cv g ads))) := K
  rw [← ef] at K
  show W p l e R s m args below meth c H locs cells slots Z (F0 m pc lsA (va_rf (am_ro g ads o) :: stk.map (am_cv g ads)))
  rw [am_ref (g := g) (ads := ads) ho]
  have he9 := am_ws_at (g := g) (ads := ads) ho
  rw [am_cell_o c2] at he9
  rcases hw with hw | ⟨host, hw⟩
  · exact va_get hx hb hts c4 hown hG.1 hH.1 (o - 1).toNat he9 c1 j hj (hts _ hw) (fun _ h9 => h9) (am_fs_get hj) hd K
  · exact va_getN hx hb hts c4 hown hG.1 hH.1 (o - 1).toNat he9 c1 j hj (va_Nw.use rfl (hG.2.1 _ hw rfl)) (fun _ h9 => h9) (am_fs_get hj) hd K
theorem sd_putI {d : Nat} {k : am_M} {rc rs pc : Nat} {ls stk : List AV} {st : am_S} {Q : AV → am_S → Prop} {kc n N : Nat} {C : String} {T : u_T} {o v : Int} {j index : Nat} (hd : decode k.2.1 pc = .ok (.putfield index, 3)) (hC : am_Cl kc C T N) (hj : j < N) (hw : (am_FL k.1.cls index T j ∧ (T j).2.2.2 = false) ∨ (Cond.fieldLink k.1.cls index (T j).1 (T j).2.1 (T j).2.2.1 ∈ am_wall ∧ (T j).2.2.2 = true ∧ k.1.name = "<init>" ∧ (T j).1 = k.1.cls)) (hr : am_isR (am_ty kc j) = false) (hf : am_fit (am_ty kc j) v) (ho : am_at st.1 o = some (kc, n)) (h : am_Wp d k rc rs (pc + 3) (ls) (stk) (st.1, am_up st.2 o (j : Int) v) Q) : am_Wp d k rc rs (pc) (ls) (vI v :: vR o :: stk) (st) Q := by
  intro g l p e R s m args below meth c Z ads0 n0 cm sm F O hZ ads H locs cells slots lsA hH he hn hc hs hl hol hos
  obtain ⟨hx, hb, hml, hown, hts, hG, hE, hin⟩ := id F
  obtain ⟨c1, c2, c3, c4, c5, c6⟩ := hC
  subst c3
  have hv9 : am_oks st.1.length kc (j : Int) v := by
    have := am_hd hos
    simp only [am_oks, if_pos c2, Int.toNat_natCast, hr]
    exact this
  have hM' : am_okM (st.1, am_up st.2 o (j : Int) v) := am_okM_up (M := st.2) hH.2.2.2.1 ho hv9
  have ev : am_fv g ads (am_ty kc j) v = .int (Int32.ofInt v) := by unfold am_fv; rw [hr]; rfl
  have eW := am_set_st (g := g) (ads := ads) (M := st.2) (v := v) c2 hj ho ev.symm
  show W p l e R s m args below meth c H locs cells slots Z (F0 m pc lsA (.int (Int32.ofInt v) :: va_rf (am_ro g ads o) :: stk.map (am_cv g ads)))
  rw [am_ref (g := g) (ads := ads) ho]
  have he9 := am_ws_at (g := g) (ads := ads) ho
  rw [am_cell_o c2] at he9
  have hlen : j < ((List.range (am_nf kc)).map (fun j => am_fv g ads (am_ty kc j) (st.2 o j))).length := by simpa using hj
  have KK : ∀ (H1 : Heap) (locs1 : List Loc), va_P g.1 vwCl ((am_ws g ads st).set (o - 1).toNat (ads (o - 1).toNat, .inr (kc, ((List.range (am_nf kc)).map (fun j => am_fv g ads (am_ty kc j) (st.2 o j))).set j (.int (Int32.ofInt v))))) H1 → va_D (am_A g) ((am_ws g ads st).set (o - 1).toNat (ads (o - 1).toNat, .inr (kc, ((List.range (am_nf kc)).map (fun j => am_fv g ads (am_ty kc j) (st.2 o j))).set j (.int (Int32.ofInt v))))) → va_S (am_A g) s.heap H1 locs1 → W p l e R s m args below meth c H1 locs1 cells slots Z (F0 m (pc + 3) lsA (stk.map (am_cv g ads))) := by
    intro H1 locs1 hP hD hS
    have eW : (am_ws g ads st).set (o - 1).toNat (ads (o - 1).toNat, .inr (kc, ((List.range (am_nf kc)).map (fun j => am_fv g ads (am_ty kc j) (st.2 o j))).set j (.int (Int32.ofInt v)))) = am_ws g ads (st.1, am_up st.2 o (j : Int) v) := eW
    rw [eW] at hP hD
    exact h g l p e R s m args below meth c Z ads0 n0 cm sm F O hZ ads H1 locs1 cells slots lsA ⟨hP, hD, hS, hM', am_Sc_up hH.2.2.2.2 ho⟩ he hn hc hs hl hol (am_tlv (am_tlv hos))
  rcases hw with ⟨hw | ⟨host, hw⟩, hfin⟩ | ⟨hw, hfin, hini, hdecl⟩
  · exact va_put hx hb hts c4 (am_ty kc) c5 c6 hown hG.1 hH.1 hH.2.1 hH.2.2.1 (o - 1).toNat he9 c1 j hj (hts _ hw) (fun _ h9 => h9) hfin (c5 j hj) (am_nar_i hr hf).1 (am_nar_i hr hf).2 hlen hd KK
  · exact va_putN hx hb hts c4 (am_ty kc) c5 c6 hown hG.1 hH.1 hH.2.1 hH.2.2.1 (o - 1).toNat he9 c1 j hj (va_Nw.use rfl (hG.2.1 _ hw rfl)) (fun _ h9 => h9) hfin (c5 j hj) (am_nar_i hr hf).1 (am_nar_i hr hf).2 hlen hd KK
  · exact va_putF hx hb hts c4 (am_ty kc) c5 c6 hown hG.1 hH.1 hH.2.1 hH.2.2.1 (o - 1).toNat he9 c1 j hj (hts _ hw) (fun _ h9 => h9) hfin (hin hini) hdecl (c5 j hj) (am_nar_i hr hf).1 (am_nar_i hr hf).2 hlen hd KK
theorem sd_putR {d : Nat} {k : am_M} {rc rs pc : Nat} {ls stk : List AV} {st : am_S} {Q : AV → am_S → Prop} {kc n N : Nat} {C : String} {T : u_T} {o v : Int} {j index : Nat} (hd : decode k.2.1 pc = .ok (.putfield index, 3)) (hC : am_Cl kc C T N) (hj : j < N) (hw : (am_FL k.1.cls index T j ∧ (T j).2.2.2 = false) ∨ (Cond.fieldLink k.1.cls index (T j).1 (T j).2.1 (T j).2.2.1 ∈ am_wall ∧ (T j).2.2.2 = true ∧ k.1.name = "<init>" ∧ (T j).1 = k.1.cls)) (hr : am_isR (am_ty kc j) = true) (hf : (am_ty kc j).isReference = true) (ho : am_at st.1 o = some (kc, n)) (h : am_Wp d k rc rs (pc + 3) (ls) (stk) (st.1, am_up st.2 o (j : Int) v) Q) : am_Wp d k rc rs (pc) (ls) (vR v :: vR o :: stk) (st) Q := by
  intro g l p e R s m args below meth c Z ads0 n0 cm sm F O hZ ads H locs cells slots lsA hH he hn hc hs hl hol hos
  obtain ⟨hx, hb, hml, hown, hts, hG, hE, hin⟩ := id F
  obtain ⟨c1, c2, c3, c4, c5, c6⟩ := hC
  subst c3
  have hv9 : am_oks st.1.length kc (j : Int) v := by
    have := am_hd hos
    simp only [am_oks, if_pos c2, Int.toNat_natCast, hr]
    exact this
  have hM' : am_okM (st.1, am_up st.2 o (j : Int) v) := am_okM_up (M := st.2) hH.2.2.2.1 ho hv9
  have ev : am_fv g ads (am_ty kc j) v = va_rf (am_ro g ads v) := by unfold am_fv; rw [hr]; rfl
  have eW := am_set_st (g := g) (ads := ads) (M := st.2) (v := v) c2 hj ho ev.symm
  show W p l e R s m args below meth c H locs cells slots Z (F0 m pc lsA (va_rf (am_ro g ads v) :: va_rf (am_ro g ads o) :: stk.map (am_cv g ads)))
  rw [am_ref (g := g) (ads := ads) ho]
  have he9 := am_ws_at (g := g) (ads := ads) ho
  rw [am_cell_o c2] at he9
  have hlen : j < ((List.range (am_nf kc)).map (fun j => am_fv g ads (am_ty kc j) (st.2 o j))).length := by simpa using hj
  have KK : ∀ (H1 : Heap) (locs1 : List Loc), va_P g.1 vwCl ((am_ws g ads st).set (o - 1).toNat (ads (o - 1).toNat, .inr (kc, ((List.range (am_nf kc)).map (fun j => am_fv g ads (am_ty kc j) (st.2 o j))).set j (va_rf (am_ro g ads v))))) H1 → va_D (am_A g) ((am_ws g ads st).set (o - 1).toNat (ads (o - 1).toNat, .inr (kc, ((List.range (am_nf kc)).map (fun j => am_fv g ads (am_ty kc j) (st.2 o j))).set j (va_rf (am_ro g ads v))))) → va_S (am_A g) s.heap H1 locs1 → W p l e R s m args below meth c H1 locs1 cells slots Z (F0 m (pc + 3) lsA (stk.map (am_cv g ads))) := by
    intro H1 locs1 hP hD hS
    have eW : (am_ws g ads st).set (o - 1).toNat (ads (o - 1).toNat, .inr (kc, ((List.range (am_nf kc)).map (fun j => am_fv g ads (am_ty kc j) (st.2 o j))).set j (va_rf (am_ro g ads v)))) = am_ws g ads (st.1, am_up st.2 o (j : Int) v) := eW
    rw [eW] at hP hD
    exact h g l p e R s m args below meth c Z ads0 n0 cm sm F O hZ ads H1 locs1 cells slots lsA ⟨hP, hD, hS, hM', am_Sc_up hH.2.2.2.2 ho⟩ he hn hc hs hl hol (am_tlv (am_tlv hos))
  rcases hw with ⟨hw | ⟨host, hw⟩, hfin⟩ | ⟨hw, hfin, hini, hdecl⟩
  · exact va_put hx hb hts c4 (am_ty kc) c5 c6 hown hG.1 hH.1 hH.2.1 hH.2.2.1 (o - 1).toNat he9 c1 j hj (hts _ hw) (fun _ h9 => h9) hfin (c5 j hj) (am_nar_r hr hf (am_ro g ads v)).1 (am_nar_r hr hf (am_ro g ads v)).2 hlen hd KK
  · exact va_putN hx hb hts c4 (am_ty kc) c5 c6 hown hG.1 hH.1 hH.2.1 hH.2.2.1 (o - 1).toNat he9 c1 j hj (va_Nw.use rfl (hG.2.1 _ hw rfl)) (fun _ h9 => h9) hfin (c5 j hj) (am_nar_r hr hf (am_ro g ads v)).1 (am_nar_r hr hf (am_ro g ads v)).2 hlen hd KK
  · exact va_putF hx hb hts c4 (am_ty kc) c5 c6 hown hG.1 hH.1 hH.2.1 hH.2.2.1 (o - 1).toNat he9 c1 j hj (hts _ hw) (fun _ h9 => h9) hfin (hin hini) hdecl (c5 j hj) (am_nar_r hr hf (am_ro g ads v)).1 (am_nar_r hr hf (am_ro g ads v)).2 hlen hd KK
