/-! what is made -/
def am_w : List AV → Nat
  | [] => 0
  | some (.inr (.inl _)) :: l => 2 + am_w l
  | _ :: l => 1 + am_w l
theorem am_w_cons (v : AV) (l : List AV) : am_w (v :: l) = (if am_isL v = true then 2 else 1) + am_w l := by
  match v with
  | none => rfl
  | some (.inl _) => rfl
  | some (.inr (.inl _)) => rfl
  | some (.inr (.inr _)) => rfl
theorem am_catv (g : am_G) (ads : Nat → Nat) (v : AV) : (am_cv g ads v).category = if am_isL v = true then 2 else 1 := by
  match v with
  | none => rfl
  | some (.inl _) => rfl
  | some (.inr (.inl _)) => rfl
  | some (.inr (.inr x)) => exact am_cat1 (fun _ z => by cases z)
theorem am_w_eq (g : am_G) (ads : Nat → Nat) : ∀ l : List AV, ((l.map (am_cv g ads)).map fun v => v.category).sum = am_w l
  | [] => rfl
  | v :: l => by
    rw [am_w_cons, ← am_w_eq g ads l, ← am_catv g ads v]
    rfl
theorem am_map_ext {g : am_G} {ads ads' : Nat → Nat} {n : Nat} (h : am_ext n ads ads') {l : List AV} (hl : ∀ v ∈ l, am_ok n v) : l.map (am_cv g ads') = l.map (am_cv g ads) := List.map_congr_left (fun v hv => am_cv_ext h (hl v hv))
theorem am_hasL_ext {g : am_G} {ads ads' : Nat → Nat} {n N : Nat} (h : am_ext n ads ads') {lsA : Array Slot} {ls : List AV} (hok : ∀ v ∈ ls, am_ok n v) (hl : am_hasL g ads lsA N ls) : am_hasL g ads' lsA N ls :=
  ⟨hl.1, hl.2.1, hl.2.2.1, fun i v hv => by rw [am_cv_ext h (hok _ (List.mem_of_getElem? hv))]; exact hl.2.2.2 i v hv⟩
theorem am_ext_tr {n0 n : Nat} {a b c : Nat → Nat} (h1 : am_ext n0 a b) (h2 : am_ext n b c) (hn : n0 ≤ n) : am_ext n0 a c := fun k hk => (h2 k (by omega)).trans (h1 k hk)
theorem am_new_len (st : am_S) (kd n : Nat) : (am_new st kd n).1.length = st.1.length + 1 := by simp [am_new]
theorem am_ro_new (g : am_G) (ads : Nat → Nat) (n q : Nat) : am_ro g (am_adN ads n q) ((n : Int) + 1) = some q := by
  unfold am_ro
  rw [if_neg (by omega), if_pos (by omega)]
  have e : ((n : Int) + 1 - 1).toNat = n := by omega
  rw [e]
  simp [am_adN]
theorem am_dv {g : am_G} {ads : Nat → Nat} {ty : FieldType} (h : am_isR ty = true → ty.isReference = true) : defaultValue ty = am_fv g ads ty 0 := by
  cases ty <;> first | rfl | (exact absurd (h rfl) (by decide))
theorem am_base {g : am_G} {U : State} {H : Heap} (h : am_Ex g U H) : ∀ q, H.size ≤ q → am_A g q := fun q hq => Nat.le_trans h.2.2.1 hq
theorem am_cls_eq {s : State} {ty : FieldType} {a b : ClassId} (h1 : va_RA s a ty) (h2 : va_RA s b ty) : a = b := by
  cases ty with
  | object C =>
    obtain ⟨_, _, -, -, -, e1⟩ := h1
    obtain ⟨_, _, -, -, -, e2⟩ := h2
    exact Option.some.inj (e1.symm.trans e2)
  | _ => exact Option.some.inj (Eq.trans (Eq.symm h1) h2)
theorem sd_new {d : Nat} {k : am_M} {rc rs pc : Nat} {ls stk : List AV} {st : am_S} {Q : AV → am_S → Prop} {kc N index : Nat} {C : String} {T : u_T} (hd : decode k.2.1 pc = .ok (.new index, 3)) (hC : am_Cl kc C T N) (hR9 : ∀ j, j < N → am_isR (am_ty kc j) = true → (am_ty kc j).isReference = true) (w1 : Cond.classLink k.1.cls index C ∈ am_wall) (w2 : Cond.instantiable C N ∈ am_wall) (w3 : Cond.initialized C ∈ am_wall) (h : am_Wp d k (rc) (rs) (pc + 3) (ls) (vR ((st.1.length : Int) + 1) :: stk) (am_new st kc N) Q) : am_Wp d k (rc + 1) (rs + N) (pc) (ls) (stk) (st) Q := by
  intro g l p e R s m args below meth c Z ads0 n0 cm sm F O hZ ads H locs cells slots lsA hH he hn hc hs hl hol hos
  obtain ⟨hx, hb, hml, hown, hts, hG, hE, hin⟩ := id F
  obtain ⟨c1, c2, c3, c4, c5, c6⟩ := hC
  subst c3
  refine va_new (ci := kc) (fs := (List.range (am_nf kc)).map (fun j => am_fv g ads (am_ty kc j) 0)) hx hb hts c4 (am_ty kc) c5 hown (hts _ w1) (hts _ w2) (hts _ w3) hG.1 hH.1 hH.2.1 hH.2.2.1 (am_base hE) c1 (fun j hj => ?_) (by have := O.2.2.1; omega) (by have := O.2.2.2; omega) hd (fun q H1 hP hD hS => ?_)
  · rw [vp_V, List.getD_eq_getElem?_getD, am_fs_get (f := fun _ => 0) hj]
    exact am_dv (hR9 j hj)
  · have eW := am_ws_new (g := g) (ads := ads) hH.2.2.2.1 kc (am_nf kc) q
    have e2 : am_cell g (am_adN ads st.1.length q) (kc, am_nf kc) (fun _ => 0) = .inr (kc, (List.range (am_nf kc)).map (fun j => am_fv g ads (am_ty kc j) 0)) := by
      rw [am_cell_ext (am_adN_ext ads st.1.length q) (fun j => am_oks_0 _ _ _), am_cell_o c2]
    rw [e2] at eW
    rw [← eW] at hP hD
    have K := h g l p e R s m args below meth c Z ads0 n0 cm sm F O hZ (am_adN ads st.1.length q) H1 locs (cells + 1) (slots + am_nf kc) lsA ⟨hP, hD, hS, am_okM_new hH.2.2.2.1 _ _, am_Sc_new hH.2.2.2.2 _ _⟩ (am_ext_tr he (am_adN_ext _ _ _) hn) (by rw [am_new_len]; omega) (by omega) (by omega) (am_hasL_ext (am_adN_ext _ _ _) hol hl) (fun v hv => am_ok_mono (by rw [am_new_len]; omega) (hol v hv)) (am_cns (show ((st.1.length : Int) + 1) ≤ _ by rw [am_new_len]; omega) (fun v hv => am_ok_mono (by rw [am_new_len]; omega) (hos v hv)))
    have K : W p l e R s m args below meth c H1 locs (cells + 1) (slots + am_nf kc) Z (F0 m (pc + 3) lsA (va_rf (am_ro g (am_adN ads st.1.length q) ((st.1.length : Int) + 1)) :: stk.map (am_cv g (am_adN ads st.1.length q)))) := K
    rw [am_ro_new, am_map_ext (am_adN_ext ads st.1.length q) hos] at K
    exact K
theorem sd_newa_int {d : Nat} {k : am_M} {rc rs pc : Nat} {ls stk : List AV} {st : am_S} {Q : AV → am_S → Prop} {n : Nat} (hd : decode k.2.1 pc = .ok (.newarray .int, 2)) (w1 : Cond.arrayClass .int ∈ am_wall) (hn9 : n ≤ 100000) (h : am_Wp d k (rc) (rs) (pc + 2) (ls) (vR ((st.1.length : Int) + 1) :: stk) (am_new st 20 n) Q) : am_Wp d k (rc + 1) (rs + n) (pc) (ls) (vI (n : Int) :: stk) (st) Q := by
  intro g l p e R s m args below meth c Z ads0 n0 cm sm F O hZ ads H locs cells slots lsA hH he hn hc hs hl hol hos
  obtain ⟨hx, hb, hml, hown, hts, hG, hE, hin⟩ := id F
  have hi : am_i32 (n : Int) := am_32c (by omega) (by omega)
  refine va_newa (atype := .int) (ty := .int) (a0 := (n, .inl (fun _ => Int32.ofInt 0))) hx hb (hts _ w1) rfl hG.1 hH.1 hH.2.1 hH.2.2.1 (am_base hE) (fun cA => rfl) (by rw [show (0 : Int32) = Int32.ofInt 0 from rfl, am_lt hi (am_32c (by omega) (by omega))]; omega) (by rw [am_cl_ix (by omega) hi]; omega) (by show n * 4 ≤ _; omega) (by have := O.2.2.1; omega) (by have := O.2.2.2; omega) hd (fun q cA H1 hK' hP hD hS => ?_)
  have ec : cA = g.2.1 20 := am_cls_eq (hK'.2 6 (cA, .int) rfl).2 (hG.1.2 0 _ rfl).2
  subst ec
  have eW := am_ws_new (g := g) (ads := ads) hH.2.2.2.1 20 n q
  have e2 : am_cell g (am_adN ads st.1.length q) (20, n) (fun _ => 0) = .inl (g.2.1 20, n, .inl (fun _ => Int32.ofInt 0)) := rfl
  rw [e2] at eW
  rw [← eW] at hP hD
  have K := h g l p e R s m args below meth c Z ads0 n0 cm sm F O hZ (am_adN ads st.1.length q) H1 locs (cells + 1) (slots + n) lsA ⟨hP, hD, hS, am_okM_new hH.2.2.2.1 _ _, am_Sc_new hH.2.2.2.2 _ _⟩ (am_ext_tr he (am_adN_ext _ _ _) hn) (by rw [am_new_len]; omega) (by omega) (by omega) (am_hasL_ext (am_adN_ext _ _ _) hol hl) (fun v hv => am_ok_mono (by rw [am_new_len]; omega) (hol v hv)) (am_cns (show ((st.1.length : Int) + 1) ≤ _ by rw [am_new_len]; omega) (fun v hv => am_ok_mono (by rw [am_new_len]; omega) (am_tlv hos v hv)))
  have K : W p l e R s m args below meth c H1 locs (cells + 1) (slots + n) Z (F0 m (pc + 2) lsA (va_rf (am_ro g (am_adN ads st.1.length q) ((st.1.length : Int) + 1)) :: stk.map (am_cv g (am_adN ads st.1.length q)))) := K
  rw [am_ro_new, am_map_ext (am_adN_ext ads st.1.length q) (am_tlv hos)] at K
  exact K
theorem sd_newa_long {d : Nat} {k : am_M} {rc rs pc : Nat} {ls stk : List AV} {st : am_S} {Q : AV → am_S → Prop} {n : Nat} (hd : decode k.2.1 pc = .ok (.newarray .long, 2)) (w1 : Cond.arrayClass .long ∈ am_wall) (hn9 : n ≤ 100000) (h : am_Wp d k (rc) (rs) (pc + 2) (ls) (vR ((st.1.length : Int) + 1) :: stk) (am_new st 21 n) Q) : am_Wp d k (rc + 1) (rs + n) (pc) (ls) (vI (n : Int) :: stk) (st) Q := by
  intro g l p e R s m args below meth c Z ads0 n0 cm sm F O hZ ads H locs cells slots lsA hH he hn hc hs hl hol hos
  obtain ⟨hx, hb, hml, hown, hts, hG, hE, hin⟩ := id F
  have hi : am_i32 (n : Int) := am_32c (by omega) (by omega)
  refine va_newa (atype := .long) (ty := .long) (a0 := (n, .inr (.inl (fun _ => Int64.ofInt 0)))) hx hb (hts _ w1) rfl hG.1 hH.1 hH.2.1 hH.2.2.1 (am_base hE) (fun cA => rfl) (by rw [show (0 : Int32) = Int32.ofInt 0 from rfl, am_lt hi (am_32c (by omega) (by omega))]; omega) (by rw [am_cl_ix (by omega) hi]; omega) (by show n * 8 ≤ _; omega) (by have := O.2.2.1; omega) (by have := O.2.2.2; omega) hd (fun q cA H1 hK' hP hD hS => ?_)
  have ec : cA = g.2.1 21 := am_cls_eq (hK'.2 6 (cA, .long) rfl).2 (hG.1.2 1 _ rfl).2
  subst ec
  have eW := am_ws_new (g := g) (ads := ads) hH.2.2.2.1 21 n q
  have e2 : am_cell g (am_adN ads st.1.length q) (21, n) (fun _ => 0) = .inl (g.2.1 21, n, .inr (.inl (fun _ => Int64.ofInt 0))) := rfl
  rw [e2] at eW
  rw [← eW] at hP hD
  have K := h g l p e R s m args below meth c Z ads0 n0 cm sm F O hZ (am_adN ads st.1.length q) H1 locs (cells + 1) (slots + n) lsA ⟨hP, hD, hS, am_okM_new hH.2.2.2.1 _ _, am_Sc_new hH.2.2.2.2 _ _⟩ (am_ext_tr he (am_adN_ext _ _ _) hn) (by rw [am_new_len]; omega) (by omega) (by omega) (am_hasL_ext (am_adN_ext _ _ _) hol hl) (fun v hv => am_ok_mono (by rw [am_new_len]; omega) (hol v hv)) (am_cns (show ((st.1.length : Int) + 1) ≤ _ by rw [am_new_len]; omega) (fun v hv => am_ok_mono (by rw [am_new_len]; omega) (am_tlv hos v hv)))
  have K : W p l e R s m args below meth c H1 locs (cells + 1) (slots + n) Z (F0 m (pc + 2) lsA (va_rf (am_ro g (am_adN ads st.1.length q) ((st.1.length : Int) + 1)) :: stk.map (am_cv g (am_adN ads st.1.length q)))) := K
  rw [am_ro_new, am_map_ext (am_adN_ext ads st.1.length q) (am_tlv hos)] at K
  exact K
theorem sd_newa_bool {d : Nat} {k : am_M} {rc rs pc : Nat} {ls stk : List AV} {st : am_S} {Q : AV → am_S → Prop} {n : Nat} (hd : decode k.2.1 pc = .ok (.newarray .boolean, 2)) (w1 : Cond.arrayClass .boolean ∈ am_wall) (hn9 : n ≤ 100000) (h : am_Wp d k (rc) (rs) (pc + 2) (ls) (vR ((st.1.length : Int) + 1) :: stk) (am_new st 22 n) Q) : am_Wp d k (rc + 1) (rs + n) (pc) (ls) (vI (n : Int) :: stk) (st) Q := by
  intro g l p e R s m args below meth c Z ads0 n0 cm sm F O hZ ads H locs cells slots lsA hH he hn hc hs hl hol hos
  obtain ⟨hx, hb, hml, hown, hts, hG, hE, hin⟩ := id F
  have hi : am_i32 (n : Int) := am_32c (by omega) (by omega)
  refine va_newa (atype := .boolean) (ty := .boolean) (a0 := (n, .inl (fun _ => Int32.ofInt 0))) hx hb (hts _ w1) rfl hG.1 hH.1 hH.2.1 hH.2.2.1 (am_base hE) (fun cA => rfl) (by rw [show (0 : Int32) = Int32.ofInt 0 from rfl, am_lt hi (am_32c (by omega) (by omega))]; omega) (by rw [am_cl_ix (by omega) hi]; omega) (by show n * 1 ≤ _; omega) (by have := O.2.2.1; omega) (by have := O.2.2.2; omega) hd (fun q cA H1 hK' hP hD hS => ?_)
  have ec : cA = g.2.1 22 := am_cls_eq (hK'.2 6 (cA, .boolean) rfl).2 (hG.1.2 2 _ rfl).2
  subst ec
  have eW := am_ws_new (g := g) (ads := ads) hH.2.2.2.1 22 n q
  have e2 : am_cell g (am_adN ads st.1.length q) (22, n) (fun _ => 0) = .inl (g.2.1 22, n, .inl (fun _ => Int32.ofInt 0)) := rfl
  rw [e2] at eW
  rw [← eW] at hP hD
  have K := h g l p e R s m args below meth c Z ads0 n0 cm sm F O hZ (am_adN ads st.1.length q) H1 locs (cells + 1) (slots + n) lsA ⟨hP, hD, hS, am_okM_new hH.2.2.2.1 _ _, am_Sc_new hH.2.2.2.2 _ _⟩ (am_ext_tr he (am_adN_ext _ _ _) hn) (by rw [am_new_len]; omega) (by omega) (by omega) (am_hasL_ext (am_adN_ext _ _ _) hol hl) (fun v hv => am_ok_mono (by rw [am_new_len]; omega) (hol v hv)) (am_cns (show ((st.1.length : Int) + 1) ≤ _ by rw [am_new_len]; omega) (fun v hv => am_ok_mono (by rw [am_new_len]; omega) (am_tlv hos v hv)))
  have K : W p l e R s m args below meth c H1 locs (cells + 1) (slots + n) Z (F0 m (pc + 2) lsA (va_rf (am_ro g (am_adN ads st.1.length q) ((st.1.length : Int) + 1)) :: stk.map (am_cv g (am_adN ads st.1.length q)))) := K
  rw [am_ro_new, am_map_ext (am_adN_ext ads st.1.length q) (am_tlv hos)] at K
  exact K
theorem sd_newa_char {d : Nat} {k : am_M} {rc rs pc : Nat} {ls stk : List AV} {st : am_S} {Q : AV → am_S → Prop} {n : Nat} (hd : decode k.2.1 pc = .ok (.newarray .char, 2)) (w1 : Cond.arrayClass .char ∈ am_wall) (hn9 : n ≤ 100000) (h : am_Wp d k (rc) (rs) (pc + 2) (ls) (vR ((st.1.length : Int) + 1) :: stk) (am_new st 23 n) Q) : am_Wp d k (rc + 1) (rs + n) (pc) (ls) (vI (n : Int) :: stk) (st) Q := by
  intro g l p e R s m args below meth c Z ads0 n0 cm sm F O hZ ads H locs cells slots lsA hH he hn hc hs hl hol hos
  obtain ⟨hx, hb, hml, hown, hts, hG, hE, hin⟩ := id F
  have hi : am_i32 (n : Int) := am_32c (by omega) (by omega)
  refine va_newa (atype := .char) (ty := .char) (a0 := (n, .inl (fun _ => Int32.ofInt 0))) hx hb (hts _ w1) rfl hG.1 hH.1 hH.2.1 hH.2.2.1 (am_base hE) (fun cA => rfl) (by rw [show (0 : Int32) = Int32.ofInt 0 from rfl, am_lt hi (am_32c (by omega) (by omega))]; omega) (by rw [am_cl_ix (by omega) hi]; omega) (by show n * 2 ≤ _; omega) (by have := O.2.2.1; omega) (by have := O.2.2.2; omega) hd (fun q cA H1 hK' hP hD hS => ?_)
  have ec : cA = g.2.1 23 := am_cls_eq (hK'.2 6 (cA, .char) rfl).2 (hG.1.2 3 _ rfl).2
  subst ec
  have eW := am_ws_new (g := g) (ads := ads) hH.2.2.2.1 23 n q
  have e2 : am_cell g (am_adN ads st.1.length q) (23, n) (fun _ => 0) = .inl (g.2.1 23, n, .inl (fun _ => Int32.ofInt 0)) := rfl
  rw [e2] at eW
  rw [← eW] at hP hD
  have K := h g l p e R s m args below meth c Z ads0 n0 cm sm F O hZ (am_adN ads st.1.length q) H1 locs (cells + 1) (slots + n) lsA ⟨hP, hD, hS, am_okM_new hH.2.2.2.1 _ _, am_Sc_new hH.2.2.2.2 _ _⟩ (am_ext_tr he (am_adN_ext _ _ _) hn) (by rw [am_new_len]; omega) (by omega) (by omega) (am_hasL_ext (am_adN_ext _ _ _) hol hl) (fun v hv => am_ok_mono (by rw [am_new_len]; omega) (hol v hv)) (am_cns (show ((st.1.length : Int) + 1) ≤ _ by rw [am_new_len]; omega) (fun v hv => am_ok_mono (by rw [am_new_len]; omega) (am_tlv hos v hv)))
  have K : W p l e R s m args below meth c H1 locs (cells + 1) (slots + n) Z (F0 m (pc + 2) lsA (va_rf (am_ro g (am_adN ads st.1.length q) ((st.1.length : Int) + 1)) :: stk.map (am_cv g (am_adN ads st.1.length q)))) := K
  rw [am_ro_new, am_map_ext (am_adN_ext ads st.1.length q) (am_tlv hos)] at K
  exact K
theorem sd_newq {d : Nat} {k : am_M} {rc rs pc : Nat} {ls stk : List AV} {st : am_S} {Q : AV → am_S → Prop} {n index : Nat} (hd : decode k.2.1 pc = .ok (.anewarray index, 3)) (w1 : Cond.classLink k.1.cls index RX0 ∈ am_wall) (hn9 : n ≤ 100000) (h : am_Wp d k (rc) (rs) (pc + 3) (ls) (vR ((st.1.length : Int) + 1) :: stk) (am_new st 24 n) Q) : am_Wp d k (rc + 1) (rs + n) (pc) (ls) (vI (n : Int) :: stk) (st) Q := by
  intro g l p e R s m args below meth c Z ads0 n0 cm sm F O hZ ads H locs cells slots lsA hH he hn hc hs hl hol hos
  obtain ⟨hx, hb, hml, hown, hts, hG, hE, hin⟩ := id F
  have hi : am_i32 (n : Int) := am_32c (by omega) (by omega)
  refine va_newq hx hb hown (hts _ w1) hG.2.2.2.1 hG.1 hH.1 hH.2.1 hH.2.2.1 (am_base hE) (by rw [show (0 : Int32) = Int32.ofInt 0 from rfl, am_lt hi (am_32c (by omega) (by omega))]; omega) (N' := n) (by rw [am_cl_ix (by omega) hi]; omega) (by omega) (by have := O.2.2.1; omega) (by have := O.2.2.2; omega) hd (fun q cA H1 hK' hP hD hS => ?_)
  have ec : cA = g.2.1 24 := am_cls_eq (hK'.2 6 (cA, .object RX0) rfl).2 (hG.1.2 4 _ rfl).2
  subst ec
  have eW := am_ws_new (g := g) (ads := ads) hH.2.2.2.1 24 n q
  have e2 : am_cell g (am_adN ads st.1.length q) (24, n) (fun _ => 0) = .inl (g.2.1 24, n, .inr (.inr (.inr (.inr (fun _ => none))))) := rfl
  rw [e2] at eW
  rw [← eW] at hP hD
  have K := h g l p e R s m args below meth c Z ads0 n0 cm sm F O hZ (am_adN ads st.1.length q) H1 locs (cells + 1) (slots + n) lsA ⟨hP, hD, hS, am_okM_new hH.2.2.2.1 _ _, am_Sc_new hH.2.2.2.2 _ _⟩ (am_ext_tr he (am_adN_ext _ _ _) hn) (by rw [am_new_len]; omega) (by omega) (by omega) (am_hasL_ext (am_adN_ext _ _ _) hol hl) (fun v hv => am_ok_mono (by rw [am_new_len]; omega) (hol v hv)) (am_cns (show ((st.1.length : Int) + 1) ≤ _ by rw [am_new_len]; omega) (fun v hv => am_ok_mono (by rw [am_new_len]; omega) (am_tlv hos v hv)))
  have K : W p l e R s m args below meth c H1 locs (cells + 1) (slots + n) Z (F0 m (pc + 3) lsA (va_rf (am_ro g (am_adN ads st.1.length q) ((st.1.length : Int) + 1)) :: stk.map (am_cv g (am_adN ads st.1.length q)))) := K
  rw [am_ro_new, am_map_ext (am_adN_ext ads st.1.length q) (am_tlv hos)] at K
  exact K
theorem sd_oini {d : Nat} {k : am_M} {rc rs pc : Nat} {ls stk : List AV} {st : am_S} {Q : AV → am_S → Prop} {index : Nat} {x : Int} {q9 : Nat × Nat} (hd : decode k.2.1 pc = .ok (.invokespecial index, 3)) (w1 : Cond.methodLink k.1.cls index Lib.objectInit ∈ am_wall) (w2 : Cond.instanceMethod Lib.objectInit ∈ am_wall) (w3 : Cond.code Lib.objectInit ⟨#[0xb1]⟩ 1 none ∈ am_wall) (hd1 : 1 ≤ d) (hw9 : am_w stk ≤ 8) (ho : am_at st.1 x = some q9) (h : am_Wp d k rc rs (pc + 3) (ls) (stk) (st) Q) : am_Wp d k rc rs (pc) (ls) (vR x :: stk) (st) Q := by
  intro g l p e R s m args below meth c Z ads0 n0 cm sm F O hZ ads H locs cells slots lsA hH he hn hc hs hl hol hos
  obtain ⟨hx, hb, hml, hown, hts, hG, hE, hin⟩ := id F
  show W p l e R s m args below meth c H locs cells slots Z (F0 m pc lsA (va_rf (am_ro g ads x) :: stk.map (am_cv g ads)))
  rw [am_ref (g := g) (ads := ads) ho]
  have := O.2.1
  exact W.objInit hx hb hown (hts _ w1) (hts _ w2) (hts _ w3) rfl (by rw [hml]; exact hl.1) rfl hd (Nat.le_trans hd1 O.1) (by rw [am_w_eq]; show 2 * 0 + _ + 12 ≤ _; omega) (h g l p e R s m args below meth c Z ads0 n0 cm sm F O hZ ads H locs cells slots lsA hH he hn hc hs hl hol (am_tlv hos))
