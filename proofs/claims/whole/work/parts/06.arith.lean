/-! what each instruction asks -/
theorem sd_iconst {d : Nat} {k : am_M} {rc rs pc : Nat} {ls stk : List AV} {st : am_S} {Q : AV → am_S → Prop} {n : Int} (hd : decode k.2.1 pc = .ok (.iconst n, 1)) (hn9 : am_i32 n) (h : am_Wp d k rc rs (pc + 1) (ls) (vI n :: stk) (st) Q) : am_Wp d k rc rs (pc) (ls) (stk) (st) Q := by
  intro g l p e R s m args below meth c Z ads0 n0 cm sm F O hZ ads H locs cells slots lsA hH he hn hc hs hl hol hos
  obtain ⟨hx, hb, hml, hown, hts, hG, hE, hin⟩ := id F
  exact lv_iconst hx hb hd rfl (h g l p e R s m args below meth c Z ads0 n0 cm sm F O hZ ads H locs cells slots lsA hH he hn hc hs hl hol (am_cns hn9 hos))
theorem sd_bipush {d : Nat} {k : am_M} {rc rs pc : Nat} {ls stk : List AV} {st : am_S} {Q : AV → am_S → Prop} {n x : Int} (hd : decode k.2.1 pc = .ok (.bipush n, 2)) (hv : (Int8.ofInt n).toInt32 = Int32.ofInt x) (hn9 : am_i32 x) (h : am_Wp d k rc rs (pc + 2) (ls) (vI x :: stk) (st) Q) : am_Wp d k rc rs (pc) (ls) (stk) (st) Q := by
  intro g l p e R s m args below meth c Z ads0 n0 cm sm F O hZ ads H locs cells slots lsA hH he hn hc hs hl hol hos
  obtain ⟨hx, hb, hml, hown, hts, hG, hE, hin⟩ := id F
  exact lv_bipush hx hb hd hv (h g l p e R s m args below meth c Z ads0 n0 cm sm F O hZ ads H locs cells slots lsA hH he hn hc hs hl hol (am_cns hn9 hos))
theorem sd_sipush {d : Nat} {k : am_M} {rc rs pc : Nat} {ls stk : List AV} {st : am_S} {Q : AV → am_S → Prop} {n x : Int} (hd : decode k.2.1 pc = .ok (.sipush n, 3)) (hv : (Int16.ofInt n).toInt32 = Int32.ofInt x) (hn9 : am_i32 x) (h : am_Wp d k rc rs (pc + 3) (ls) (vI x :: stk) (st) Q) : am_Wp d k rc rs (pc) (ls) (stk) (st) Q := by
  intro g l p e R s m args below meth c Z ads0 n0 cm sm F O hZ ads H locs cells slots lsA hH he hn hc hs hl hol hos
  obtain ⟨hx, hb, hml, hown, hts, hG, hE, hin⟩ := id F
  exact lv_sipush hx hb hd hv (h g l p e R s m args below meth c Z ads0 n0 cm sm F O hZ ads H locs cells slots lsA hH he hn hc hs hl hol (am_cns hn9 hos))
theorem sd_lconst {d : Nat} {k : am_M} {rc rs pc : Nat} {ls stk : List AV} {st : am_S} {Q : AV → am_S → Prop} {n : Fin 2} {x : Int} (hd : decode k.2.1 pc = .ok (.lconst n, 1)) (hv : Int64.ofNat (n : Nat) = Int64.ofInt x) (hn9 : am_i64 x) (h : am_Wp d k rc rs (pc + 1) (ls) (vL x :: stk) (st) Q) : am_Wp d k rc rs (pc) (ls) (stk) (st) Q := by
  intro g l p e R s m args below meth c Z ads0 n0 cm sm F O hZ ads H locs cells slots lsA hH he hn hc hs hl hol hos
  obtain ⟨hx, hb, hml, hown, hts, hG, hE, hin⟩ := id F
  exact lv_lconst hx hb hd hv (h g l p e R s m args below meth c Z ads0 n0 cm sm F O hZ ads H locs cells slots lsA hH he hn hc hs hl hol (am_cns hn9 hos))
theorem sd_null {d : Nat} {k : am_M} {rc rs pc : Nat} {ls stk : List AV} {st : am_S} {Q : AV → am_S → Prop} (hd : decode k.2.1 pc = .ok (.aconst_null, 1)) (h : am_Wp d k rc rs (pc + 1) (ls) (vR 0 :: stk) (st) Q) : am_Wp d k rc rs (pc) (ls) (stk) (st) Q := by
  intro g l p e R s m args below meth c Z ads0 n0 cm sm F O hZ ads H locs cells slots lsA hH he hn hc hs hl hol hos
  obtain ⟨hx, hb, hml, hown, hts, hG, hE, hin⟩ := id F
  exact lv_null hx hb hd (h g l p e R s m args below meth c Z ads0 n0 cm sm F O hZ ads H locs cells slots lsA hH he hn hc hs hl hol (am_cns (by show (0 : Int) ≤ _; omega) hos))
theorem sd_ldc {d : Nat} {k : am_M} {rc rs pc : Nat} {ls stk : List AV} {st : am_S} {Q : AV → am_S → Prop} {index : Nat} {x : Int} (hd : decode k.2.1 pc = .ok (.ldc index, 2)) (hw : Cond.constant k.1.cls index (Int32.ofInt x) ∈ am_wall) (hn9 : am_i32 x) (h : am_Wp d k rc rs (pc + 2) (ls) (vI x :: stk) (st) Q) : am_Wp d k rc rs (pc) (ls) (stk) (st) Q := by
  intro g l p e R s m args below meth c Z ads0 n0 cm sm F O hZ ads H locs cells slots lsA hH he hn hc hs hl hol hos
  obtain ⟨hx, hb, hml, hown, hts, hG, hE, hin⟩ := id F
  exact lv_ldc hx hb hown (hts _ hw) hd (h g l p e R s m args below meth c Z ads0 n0 cm sm F O hZ ads H locs cells slots lsA hH he hn hc hs hl hol (am_cns hn9 hos))
theorem sd_ldcw {d : Nat} {k : am_M} {rc rs pc : Nat} {ls stk : List AV} {st : am_S} {Q : AV → am_S → Prop} {index : Nat} {x : Int} (hd : decode k.2.1 pc = .ok (.ldc_w index, 3)) (hw : Cond.constant k.1.cls index (Int32.ofInt x) ∈ am_wall) (hn9 : am_i32 x) (h : am_Wp d k rc rs (pc + 3) (ls) (vI x :: stk) (st) Q) : am_Wp d k rc rs (pc) (ls) (stk) (st) Q := by
  intro g l p e R s m args below meth c Z ads0 n0 cm sm F O hZ ads H locs cells slots lsA hH he hn hc hs hl hol hos
  obtain ⟨hx, hb, hml, hown, hts, hG, hE, hin⟩ := id F
  exact lv_ldcw hx hb hown (hts _ hw) hd (h g l p e R s m args below meth c Z ads0 n0 cm sm F O hZ ads H locs cells slots lsA hH he hn hc hs hl hol (am_cns hn9 hos))
theorem sd_ldc2 {d : Nat} {k : am_M} {rc rs pc : Nat} {ls stk : List AV} {st : am_S} {Q : AV → am_S → Prop} {index : Nat} {x : Int} (hd : decode k.2.1 pc = .ok (.ldc2_w index, 3)) (hw : Cond.constantLong k.1.cls index (Int64.ofInt x) ∈ am_wall) (hn9 : am_i64 x) (h : am_Wp d k rc rs (pc + 3) (ls) (vL x :: stk) (st) Q) : am_Wp d k rc rs (pc) (ls) (stk) (st) Q := by
  intro g l p e R s m args below meth c Z ads0 n0 cm sm F O hZ ads H locs cells slots lsA hH he hn hc hs hl hol hos
  obtain ⟨hx, hb, hml, hown, hts, hG, hE, hin⟩ := id F
  exact lv_ldc2 hx hb hown (hts _ hw) hd (h g l p e R s m args below meth c Z ads0 n0 cm sm F O hZ ads H locs cells slots lsA hH he hn hc hs hl hol (am_cns hn9 hos))
theorem sd_iload_n {d : Nat} {k : am_M} {rc rs pc : Nat} {ls stk : List AV} {st : am_S} {Q : AV → am_S → Prop} {j : Fin 4} {i : Nat} {x : Int} (hd : decode k.2.1 pc = .ok (.iload_n j, 1)) (hj : (j : Nat) = i) (hi : ls[i]? = some (vI x)) (h : am_Wp d k rc rs (pc + 1) (ls) (vI x :: stk) (st) Q) : am_Wp d k rc rs (pc) (ls) (stk) (st) Q := by
  intro g l p e R s m args below meth c Z ads0 n0 cm sm F O hZ ads H locs cells slots lsA hH he hn hc hs hl hol hos
  obtain ⟨hx, hb, hml, hown, hts, hG, hE, hin⟩ := id F
  have hv := hl.2.2.2 _ _ hi
  have ho := hol _ (List.mem_of_getElem? hi)
  exact lv_iload_n hx hb hd hj hv (h g l p e R s m args below meth c Z ads0 n0 cm sm F O hZ ads H locs cells slots lsA hH he hn hc hs hl hol (am_cns ho hos))
theorem sd_iload {d : Nat} {k : am_M} {rc rs pc : Nat} {ls stk : List AV} {st : am_S} {Q : AV → am_S → Prop} {i : Nat} {x : Int} (hd : decode k.2.1 pc = .ok (.iload i, 2)) (hi : ls[i]? = some (vI x)) (h : am_Wp d k rc rs (pc + 2) (ls) (vI x :: stk) (st) Q) : am_Wp d k rc rs (pc) (ls) (stk) (st) Q := by
  intro g l p e R s m args below meth c Z ads0 n0 cm sm F O hZ ads H locs cells slots lsA hH he hn hc hs hl hol hos
  obtain ⟨hx, hb, hml, hown, hts, hG, hE, hin⟩ := id F
  have hv := hl.2.2.2 _ _ hi
  have ho := hol _ (List.mem_of_getElem? hi)
  exact lv_iload hx hb hd hv (h g l p e R s m args below meth c Z ads0 n0 cm sm F O hZ ads H locs cells slots lsA hH he hn hc hs hl hol (am_cns ho hos))
theorem sd_lload_n {d : Nat} {k : am_M} {rc rs pc : Nat} {ls stk : List AV} {st : am_S} {Q : AV → am_S → Prop} {j : Fin 4} {i : Nat} {x : Int} (hd : decode k.2.1 pc = .ok (.lload_n j, 1)) (hj : (j : Nat) = i) (hi : ls[i]? = some (vL x)) (h : am_Wp d k rc rs (pc + 1) (ls) (vL x :: stk) (st) Q) : am_Wp d k rc rs (pc) (ls) (stk) (st) Q := by
  intro g l p e R s m args below meth c Z ads0 n0 cm sm F O hZ ads H locs cells slots lsA hH he hn hc hs hl hol hos
  obtain ⟨hx, hb, hml, hown, hts, hG, hE, hin⟩ := id F
  have hv := hl.2.2.2 _ _ hi
  have ho := hol _ (List.mem_of_getElem? hi)
  exact lv_lload_n hx hb hd hj hv (h g l p e R s m args below meth c Z ads0 n0 cm sm F O hZ ads H locs cells slots lsA hH he hn hc hs hl hol (am_cns ho hos))
theorem sd_lload {d : Nat} {k : am_M} {rc rs pc : Nat} {ls stk : List AV} {st : am_S} {Q : AV → am_S → Prop} {i : Nat} {x : Int} (hd : decode k.2.1 pc = .ok (.lload i, 2)) (hi : ls[i]? = some (vL x)) (h : am_Wp d k rc rs (pc + 2) (ls) (vL x :: stk) (st) Q) : am_Wp d k rc rs (pc) (ls) (stk) (st) Q := by
  intro g l p e R s m args below meth c Z ads0 n0 cm sm F O hZ ads H locs cells slots lsA hH he hn hc hs hl hol hos
  obtain ⟨hx, hb, hml, hown, hts, hG, hE, hin⟩ := id F
  have hv := hl.2.2.2 _ _ hi
  have ho := hol _ (List.mem_of_getElem? hi)
  exact lv_lload hx hb hd hv (h g l p e R s m args below meth c Z ads0 n0 cm sm F O hZ ads H locs cells slots lsA hH he hn hc hs hl hol (am_cns ho hos))
theorem sd_aload_n {d : Nat} {k : am_M} {rc rs pc : Nat} {ls stk : List AV} {st : am_S} {Q : AV → am_S → Prop} {j : Fin 4} {i : Nat} {x : Int} (hd : decode k.2.1 pc = .ok (.aload_n j, 1)) (hj : (j : Nat) = i) (hi : ls[i]? = some (vR x)) (h : am_Wp d k rc rs (pc + 1) (ls) (vR x :: stk) (st) Q) : am_Wp d k rc rs (pc) (ls) (stk) (st) Q := by
  intro g l p e R s m args below meth c Z ads0 n0 cm sm F O hZ ads H locs cells slots lsA hH he hn hc hs hl hol hos
  obtain ⟨hx, hb, hml, hown, hts, hG, hE, hin⟩ := id F
  have hv := hl.2.2.2 _ _ hi
  have ho := hol _ (List.mem_of_getElem? hi)
  have K := h g l p e R s m args below meth c Z ads0 n0 cm sm F O hZ ads H locs cells slots lsA hH he hn hc hs hl hol (am_cns ho hos)
  have hv : lsA[i]? = some (.val (va_rf (am_ro g ads x))) := hv
  have K : W p l e R s m args below meth c H locs cells slots Z (F0 m (pc + 1) lsA (va_rf (am_ro g ads x) :: stk.map (am_cv g ads))) := K
  show W p l e R s m args below meth c H locs cells slots Z (F0 m pc lsA (stk.map (am_cv g ads)))
  cases hr : am_ro g ads x with
  | none => rw [hr] at hv K; exact lv_aload_nN hx hb hd hj hv K
  | some a => rw [hr] at hv K; exact lv_aload_n hx hb hd hj hv K
theorem sd_aload {d : Nat} {k : am_M} {rc rs pc : Nat} {ls stk : List AV} {st : am_S} {Q : AV → am_S → Prop} {i : Nat} {x : Int} (hd : decode k.2.1 pc = .ok (.aload i, 2)) (hi : ls[i]? = some (vR x)) (h : am_Wp d k rc rs (pc + 2) (ls) (vR x :: stk) (st) Q) : am_Wp d k rc rs (pc) (ls) (stk) (st) Q := by
  intro g l p e R s m args below meth c Z ads0 n0 cm sm F O hZ ads H locs cells slots lsA hH he hn hc hs hl hol hos
  obtain ⟨hx, hb, hml, hown, hts, hG, hE, hin⟩ := id F
  have hv := hl.2.2.2 _ _ hi
  have ho := hol _ (List.mem_of_getElem? hi)
  have K := h g l p e R s m args below meth c Z ads0 n0 cm sm F O hZ ads H locs cells slots lsA hH he hn hc hs hl hol (am_cns ho hos)
  have hv : lsA[i]? = some (.val (va_rf (am_ro g ads x))) := hv
  have K : W p l e R s m args below meth c H locs cells slots Z (F0 m (pc + 2) lsA (va_rf (am_ro g ads x) :: stk.map (am_cv g ads))) := K
  show W p l e R s m args below meth c H locs cells slots Z (F0 m pc lsA (stk.map (am_cv g ads)))
  cases hr : am_ro g ads x with
  | none => rw [hr] at hv K; exact lv_aloadN hx hb hd hv K
  | some a => rw [hr] at hv K; exact lv_aload hx hb hd hv K
theorem sd_istore_n {d : Nat} {k : am_M} {rc rs pc : Nat} {ls stk : List AV} {st : am_S} {Q : AV → am_S → Prop} {j : Fin 4} {i : Nat} {x : Int} (hd : decode k.2.1 pc = .ok (.istore_n j, 1)) (hj : (j : Nat) = i) (hi : i < k.2.2.1) (h : am_Wp d k rc rs (pc + 1) (am_set ls i (vI x)) (stk) (st) Q) : am_Wp d k rc rs (pc) (ls) (vI x :: stk) (st) Q := by
  intro g l p e R s m args below meth c Z ads0 n0 cm sm F O hZ ads H locs cells slots lsA hH he hn hc hs hl hol hos
  obtain ⟨hx, hb, hml, hown, hts, hG, hE, hin⟩ := id F
  exact lv_istore_n hx hb hd hj (am_lv_has hl) hi rfl (fun ls' h' => h g l p e R s m args below meth c Z ads0 n0 cm sm F O hZ ads H locs cells slots ls' hH he hn hc hs (am_set_has hl h') (am_set_ok hol (am_hd hos)) (am_tlv hos))
theorem sd_istore {d : Nat} {k : am_M} {rc rs pc : Nat} {ls stk : List AV} {st : am_S} {Q : AV → am_S → Prop} {i : Nat} {x : Int} (hd : decode k.2.1 pc = .ok (.istore i, 2)) (hi : i < k.2.2.1) (h : am_Wp d k rc rs (pc + 2) (am_set ls i (vI x)) (stk) (st) Q) : am_Wp d k rc rs (pc) (ls) (vI x :: stk) (st) Q := by
  intro g l p e R s m args below meth c Z ads0 n0 cm sm F O hZ ads H locs cells slots lsA hH he hn hc hs hl hol hos
  obtain ⟨hx, hb, hml, hown, hts, hG, hE, hin⟩ := id F
  exact lv_istore hx hb hd (am_lv_has hl) hi rfl (fun ls' h' => h g l p e R s m args below meth c Z ads0 n0 cm sm F O hZ ads H locs cells slots ls' hH he hn hc hs (am_set_has hl h') (am_set_ok hol (am_hd hos)) (am_tlv hos))
theorem sd_lstore_n {d : Nat} {k : am_M} {rc rs pc : Nat} {ls stk : List AV} {st : am_S} {Q : AV → am_S → Prop} {j : Fin 4} {i : Nat} {x : Int} (hd : decode k.2.1 pc = .ok (.lstore_n j, 1)) (hj : (j : Nat) = i) (hi : i + 1 < k.2.2.1) (h : am_Wp d k rc rs (pc + 1) (am_set2 ls i (vL x)) (stk) (st) Q) : am_Wp d k rc rs (pc) (ls) (vL x :: stk) (st) Q := by
  intro g l p e R s m args below meth c Z ads0 n0 cm sm F O hZ ads H locs cells slots lsA hH he hn hc hs hl hol hos
  obtain ⟨hx, hb, hml, hown, hts, hG, hE, hin⟩ := id F
  exact lv_lstore_n hx hb hd hj (am_lv_has hl) hi rfl (fun ls' h' => h g l p e R s m args below meth c Z ads0 n0 cm sm F O hZ ads H locs cells slots ls' hH he hn hc hs (am_set2_has hl h') (am_set2_ok hol (am_hd hos)) (am_tlv hos))
theorem sd_lstore {d : Nat} {k : am_M} {rc rs pc : Nat} {ls stk : List AV} {st : am_S} {Q : AV → am_S → Prop} {i : Nat} {x : Int} (hd : decode k.2.1 pc = .ok (.lstore i, 2)) (hi : i + 1 < k.2.2.1) (h : am_Wp d k rc rs (pc + 2) (am_set2 ls i (vL x)) (stk) (st) Q) : am_Wp d k rc rs (pc) (ls) (vL x :: stk) (st) Q := by
  intro g l p e R s m args below meth c Z ads0 n0 cm sm F O hZ ads H locs cells slots lsA hH he hn hc hs hl hol hos
  obtain ⟨hx, hb, hml, hown, hts, hG, hE, hin⟩ := id F
  exact lv_lstore hx hb hd (am_lv_has hl) hi rfl (fun ls' h' => h g l p e R s m args below meth c Z ads0 n0 cm sm F O hZ ads H locs cells slots ls' hH he hn hc hs (am_set2_has hl h') (am_set2_ok hol (am_hd hos)) (am_tlv hos))
theorem sd_astore_n {d : Nat} {k : am_M} {rc rs pc : Nat} {ls stk : List AV} {st : am_S} {Q : AV → am_S → Prop} {j : Fin 4} {i : Nat} {x : Int} (hd : decode k.2.1 pc = .ok (.astore_n j, 1)) (hj : (j : Nat) = i) (hi : i < k.2.2.1) (h : am_Wp d k rc rs (pc + 1) (am_set ls i (vR x)) (stk) (st) Q) : am_Wp d k rc rs (pc) (ls) (vR x :: stk) (st) Q := by
  intro g l p e R s m args below meth c Z ads0 n0 cm sm F O hZ ads H locs cells slots lsA hH he hn hc hs hl hol hos
  obtain ⟨hx, hb, hml, hown, hts, hG, hE, hin⟩ := id F
  have K : ∀ ls' : Array Slot, lv_has ls' k.2.2.1 ((i, va_rf (am_ro g ads x)) :: (am_lv g ads ls).filter (fun q => !(q.1 == i) && !(q.1 + 1 == i && q.2.category == 2))) → W p l e R s m args below meth c H locs cells slots Z (F0 m (pc + 1) ls' (stk.map (am_cv g ads))) := fun ls' h' => h g l p e R s m args below meth c Z ads0 n0 cm sm F O hZ ads H locs cells slots ls' hH he hn hc hs (am_set_has hl h') (am_set_ok hol (am_hd hos)) (am_tlv hos)
  show W p l e R s m args below meth c H locs cells slots Z (F0 m pc lsA (va_rf (am_ro g ads x) :: stk.map (am_cv g ads)))
  cases hr : am_ro g ads x with
  | none => rw [hr] at K; exact lv_astore_nN hx hb hd hj (am_lv_has hl) hi rfl K
  | some a => rw [hr] at K; exact lv_astore_n hx hb hd hj (am_lv_has hl) hi rfl K
theorem sd_astore {d : Nat} {k : am_M} {rc rs pc : Nat} {ls stk : List AV} {st : am_S} {Q : AV → am_S → Prop} {i : Nat} {x : Int} (hd : decode k.2.1 pc = .ok (.astore i, 2)) (hi : i < k.2.2.1) (h : am_Wp d k rc rs (pc + 2) (am_set ls i (vR x)) (stk) (st) Q) : am_Wp d k rc rs (pc) (ls) (vR x :: stk) (st) Q := by
  intro g l p e R s m args below meth c Z ads0 n0 cm sm F O hZ ads H locs cells slots lsA hH he hn hc hs hl hol hos
  obtain ⟨hx, hb, hml, hown, hts, hG, hE, hin⟩ := id F
  have K : ∀ ls' : Array Slot, lv_has ls' k.2.2.1 ((i, va_rf (am_ro g ads x)) :: (am_lv g ads ls).filter (fun q => !(q.1 == i) && !(q.1 + 1 == i && q.2.category == 2))) → W p l e R s m args below meth c H locs cells slots Z (F0 m (pc + 2) ls' (stk.map (am_cv g ads))) := fun ls' h' => h g l p e R s m args below meth c Z ads0 n0 cm sm F O hZ ads H locs cells slots ls' hH he hn hc hs (am_set_has hl h') (am_set_ok hol (am_hd hos)) (am_tlv hos)
  show W p l e R s m args below meth c H locs cells slots Z (F0 m pc lsA (va_rf (am_ro g ads x) :: stk.map (am_cv g ads)))
  cases hr : am_ro g ads x with
  | none => rw [hr] at K; exact lv_astoreN hx hb hd (am_lv_has hl) hi rfl K
  | some a => rw [hr] at K; exact lv_astore hx hb hd (am_lv_has hl) hi rfl K
theorem sd_iinc {d : Nat} {k : am_M} {rc rs pc : Nat} {ls stk : List AV} {st : am_S} {Q : AV → am_S → Prop} {i : Nat} {n x : Int} (hd : decode k.2.1 pc = .ok (.iinc i n, 3)) (hi : ls[i]? = some (vI x)) (hr : am_i32 (x + n)) (h : am_Wp d k rc rs (pc + 3) (am_set ls i (vI (x + n))) (stk) (st) Q) : am_Wp d k rc rs (pc) (ls) (stk) (st) Q := by
  intro g l p e R s m args below meth c Z ads0 n0 cm sm F O hZ ads H locs cells slots lsA hH he hn hc hs hl hol hos
  obtain ⟨hx, hb, hml, hown, hts, hG, hE, hin⟩ := id F
  obtain ⟨j, hj⟩ := List.getElem?_of_mem (am_lv_mem (g := g) (ads := ads) hi)
  have hlt : i < k.2.2.1 := by rw [← hl.2.2.1]; exact (List.getElem?_eq_some_iff.mp hi).1
  exact lv_iinc hx hb hd (am_lv_has hl) hj (Int32.ofInt_add x n).symm hlt rfl (fun ls' h' => h g l p e R s m args below meth c Z ads0 n0 cm sm F O hZ ads H locs cells slots ls' hH he hn hc hs (am_set_has (v := .inl (x + n)) hl h') (am_set_ok hol hr) hos)
theorem sd_iadd {d : Nat} {k : am_M} {rc rs pc : Nat} {ls stk : List AV} {st : am_S} {Q : AV → am_S → Prop} {a b : Int} (hd : decode k.2.1 pc = .ok (.iadd, 1)) (hr : am_i32 (a + b)) (h : am_Wp d k rc rs (pc + 1) (ls) (vI (a + b) :: stk) (st) Q) : am_Wp d k rc rs (pc) (ls) (vI b :: vI a :: stk) (st) Q := by
  intro g l p e R s m args below meth c Z ads0 n0 cm sm F O hZ ads H locs cells slots lsA hH he hn hc hs hl hol hos
  obtain ⟨hx, hb, hml, hown, hts, hG, hE, hin⟩ := id F
  have K := h g l p e R s m args below meth c Z ads0 n0 cm sm F O hZ ads H locs cells slots lsA hH he hn hc hs hl hol (am_cns hr (am_tlv (am_tlv hos)))
  have K : W p l e R s m args below meth c H locs cells slots Z (F0 m (pc + 1) lsA (.int (Int32.ofInt (a + b)) :: stk.map (am_cv g ads))) := K
  rw [Int32.ofInt_add] at K
  exact lv_iadd hx hb hd K
theorem sd_isub {d : Nat} {k : am_M} {rc rs pc : Nat} {ls stk : List AV} {st : am_S} {Q : AV → am_S → Prop} {a b : Int} (hd : decode k.2.1 pc = .ok (.isub, 1)) (hr : am_i32 (a - b)) (h : am_Wp d k rc rs (pc + 1) (ls) (vI (a - b) :: stk) (st) Q) : am_Wp d k rc rs (pc) (ls) (vI b :: vI a :: stk) (st) Q := by
  intro g l p e R s m args below meth c Z ads0 n0 cm sm F O hZ ads H locs cells slots lsA hH he hn hc hs hl hol hos
  obtain ⟨hx, hb, hml, hown, hts, hG, hE, hin⟩ := id F
  have K := h g l p e R s m args below meth c Z ads0 n0 cm sm F O hZ ads H locs cells slots lsA hH he hn hc hs hl hol (am_cns hr (am_tlv (am_tlv hos)))
  have K : W p l e R s m args below meth c H locs cells slots Z (F0 m (pc + 1) lsA (.int (Int32.ofInt (a - b)) :: stk.map (am_cv g ads))) := K
  rw [Int32.ofInt_sub] at K
  exact lv_isub hx hb hd K
theorem sd_imul {d : Nat} {k : am_M} {rc rs pc : Nat} {ls stk : List AV} {st : am_S} {Q : AV → am_S → Prop} {a b : Int} (hd : decode k.2.1 pc = .ok (.imul, 1)) (hr : am_i32 (a * b)) (h : am_Wp d k rc rs (pc + 1) (ls) (vI (a * b) :: stk) (st) Q) : am_Wp d k rc rs (pc) (ls) (vI b :: vI a :: stk) (st) Q := by
  intro g l p e R s m args below meth c Z ads0 n0 cm sm F O hZ ads H locs cells slots lsA hH he hn hc hs hl hol hos
  obtain ⟨hx, hb, hml, hown, hts, hG, hE, hin⟩ := id F
  have K := h g l p e R s m args below meth c Z ads0 n0 cm sm F O hZ ads H locs cells slots lsA hH he hn hc hs hl hol (am_cns hr (am_tlv (am_tlv hos)))
  have K : W p l e R s m args below meth c H locs cells slots Z (F0 m (pc + 1) lsA (.int (Int32.ofInt (a * b)) :: stk.map (am_cv g ads))) := K
  rw [Int32.ofInt_mul] at K
  exact lv_imul hx hb hd K
theorem sd_ladd {d : Nat} {k : am_M} {rc rs pc : Nat} {ls stk : List AV} {st : am_S} {Q : AV → am_S → Prop} {a b : Int} (hd : decode k.2.1 pc = .ok (.ladd, 1)) (hr : am_i64 (a + b)) (h : am_Wp d k rc rs (pc + 1) (ls) (vL (a + b) :: stk) (st) Q) : am_Wp d k rc rs (pc) (ls) (vL b :: vL a :: stk) (st) Q := by
  intro g l p e R s m args below meth c Z ads0 n0 cm sm F O hZ ads H locs cells slots lsA hH he hn hc hs hl hol hos
  obtain ⟨hx, hb, hml, hown, hts, hG, hE, hin⟩ := id F
  have K := h g l p e R s m args below meth c Z ads0 n0 cm sm F O hZ ads H locs cells slots lsA hH he hn hc hs hl hol (am_cns hr (am_tlv (am_tlv hos)))
  have K : W p l e R s m args below meth c H locs cells slots Z (F0 m (pc + 1) lsA (.long (Int64.ofInt (a + b)) :: stk.map (am_cv g ads))) := K
  rw [Int64.ofInt_add] at K
  exact lv_ladd hx hb hd K
theorem sd_lsub {d : Nat} {k : am_M} {rc rs pc : Nat} {ls stk : List AV} {st : am_S} {Q : AV → am_S → Prop} {a b : Int} (hd : decode k.2.1 pc = .ok (.lsub, 1)) (hr : am_i64 (a - b)) (h : am_Wp d k rc rs (pc + 1) (ls) (vL (a - b) :: stk) (st) Q) : am_Wp d k rc rs (pc) (ls) (vL b :: vL a :: stk) (st) Q := by
  intro g l p e R s m args below meth c Z ads0 n0 cm sm F O hZ ads H locs cells slots lsA hH he hn hc hs hl hol hos
  obtain ⟨hx, hb, hml, hown, hts, hG, hE, hin⟩ := id F
  have K := h g l p e R s m args below meth c Z ads0 n0 cm sm F O hZ ads H locs cells slots lsA hH he hn hc hs hl hol (am_cns hr (am_tlv (am_tlv hos)))
  have K : W p l e R s m args below meth c H locs cells slots Z (F0 m (pc + 1) lsA (.long (Int64.ofInt (a - b)) :: stk.map (am_cv g ads))) := K
  rw [Int64.ofInt_sub] at K
  exact lv_lsub hx hb hd K
theorem sd_lmul {d : Nat} {k : am_M} {rc rs pc : Nat} {ls stk : List AV} {st : am_S} {Q : AV → am_S → Prop} {a b : Int} (hd : decode k.2.1 pc = .ok (.lmul, 1)) (hr : am_i64 (a * b)) (h : am_Wp d k rc rs (pc + 1) (ls) (vL (a * b) :: stk) (st) Q) : am_Wp d k rc rs (pc) (ls) (vL b :: vL a :: stk) (st) Q := by
  intro g l p e R s m args below meth c Z ads0 n0 cm sm F O hZ ads H locs cells slots lsA hH he hn hc hs hl hol hos
  obtain ⟨hx, hb, hml, hown, hts, hG, hE, hin⟩ := id F
  have K := h g l p e R s m args below meth c Z ads0 n0 cm sm F O hZ ads H locs cells slots lsA hH he hn hc hs hl hol (am_cns hr (am_tlv (am_tlv hos)))
  have K : W p l e R s m args below meth c H locs cells slots Z (F0 m (pc + 1) lsA (.long (Int64.ofInt (a * b)) :: stk.map (am_cv g ads))) := K
  rw [Int64.ofInt_mul] at K
  exact lv_lmul hx hb hd K
theorem sd_ineg {d : Nat} {k : am_M} {rc rs pc : Nat} {ls stk : List AV} {st : am_S} {Q : AV → am_S → Prop} {a : Int} (hd : decode k.2.1 pc = .ok (.ineg, 1)) (hr : am_i32 (-a)) (h : am_Wp d k rc rs (pc + 1) (ls) (vI (-a) :: stk) (st) Q) : am_Wp d k rc rs (pc) (ls) (vI a :: stk) (st) Q := by
  intro g l p e R s m args below meth c Z ads0 n0 cm sm F O hZ ads H locs cells slots lsA hH he hn hc hs hl hol hos
  obtain ⟨hx, hb, hml, hown, hts, hG, hE, hin⟩ := id F
  have K := h g l p e R s m args below meth c Z ads0 n0 cm sm F O hZ ads H locs cells slots lsA hH he hn hc hs hl hol (am_cns hr (am_tlv hos))
  have K : W p l e R s m args below meth c H locs cells slots Z (F0 m (pc + 1) lsA (.int (Int32.ofInt (-a)) :: stk.map (am_cv g ads))) := K
  rw [Int32.ofInt_neg] at K
  exact lv_ineg hx hb hd K
