/-! the class: acts -/
/-- only the act e has changed -/
def AcF (e : Int) (M M' : Int → Int → Int) : Prop := (∀ o, (o < e ∨ e + 4 < o) → M' o = M o) ∧ ∀ j, j ≤ 3 → M' e j = M e j
theorem AcF.rf (e : Int) (M : Int → Int → Int) : AcF e M M := ⟨fun _ _ => rfl, fun _ _ => rfl⟩
theorem AcF.tr {e : Int} {M M1 M2 : Int → Int → Int} (h1 : AcF e M M1) (h2 : AcF e M1 M2) : AcF e M M2 := ⟨fun o a => (h2.1 o a).trans (h1.1 o a), fun j a => (h2.2 j a).trans (h1.2 j a)⟩
theorem AcF.fld {e : Int} (M : Int → Int → Int) {j : Int} (v : Int) (h : 3 < j) : AcF e M (am_up M e j v) := ⟨fun o a => am_up_o M (by omega), fun i a => am_up_j M (by omega)⟩
theorem AcF.arr {e : Int} (M : Int → Int → Int) {o : Int} (j v : Int) (h : e < o ∧ o ≤ e + 4) : AcF e M (am_up M o j v) := ⟨fun a q => am_up_o M (by omega), fun i a => by rw [am_up_o M (by omega)]⟩
theorem AcF.PC {e : Int} {M M' : Int → Int → Int} (h : AcF e M M') (hA : isA e) (hC : am_PC M) : am_PC M' := hC.eq (fun o j q => by
  by_cases z : o = e
  · have : j ≤ 3 := by unfold pcPl at q; unfold isA at hA; omega
    rw [z]; exact h.2 j this
  · have : o < e ∨ e + 4 < o := by unfold pcPl at q; unfold isA at hA; omega
    rw [h.1 o this])
theorem AcF.fr {e : Int} {M M' : Int → Int → Int} (h : AcF e M M') (hA : isA e) : FrC M M' := fun o a => h.1 o (by unfold isA at hA; omega)
section
variable {M M' D A : Int → Int → Int} {R e : Int} {d : Nat} {Q : AV → am_S → Prop}
theorem k_begin (hC : am_PC M) (hA : isA e) {i t b : Int} (h : ∀ M', AcF e M M' → am_PC M' → CAct M' (nAct i t b) e → M' e 4 = 1 → Q none (am_SH, M')) : am_Call (d + 1) m_Act_begin 0 0 [vR e, vI i, vI t, vI b] (am_SH, M) Q := by
  refine am_go B_Act_begin_0 rfl (Nat.le_of_ble_eq_true rfl) ?_
  simp only [b_Act_begin_0, ka_0 hA, Int.reduceEq, c_const, c_lconst, c_ref, c_iload, c_lload, c_aload, c_istore, c_lstore, c_astore, c_iinc, c_iadd, c_isub, c_imul, c_ladd, c_lsub, c_lmul, c_idiv, c_irem, c_ldiv, c_lrem, c_iand, c_ior, c_ixor, c_ishl, c_ishr, c_ineg, c_i2l, c_l2i, c_i2c, c_lcmp, c_dup, c_pop, c_dup2, c_at, c_icmp_eq, c_icmp_ne, c_icmp_lt, c_icmp_ge, c_icmp_gt, c_icmp_le, c_if_eq, c_if_ne, c_if_lt, c_if_ge, c_if_gt, c_if_le, c_ifnull, c_ifnonnull, am_swK, c_sw, c_iret, c_zret, c_cret, c_bret, c_lret, c_aret, c_vret, c_getI, c_getR, c_putI, c_putZ, c_putR, c_iald, c_zald, c_cald, c_lald, c_oald, c_gald, c_iast, c_zast, c_cast, c_last, c_oast, c_alen, c_callS0, c_callS1, c_callS2, c_callS3, c_callS4, c_callS5, c_callS6, c_callS7, c_callV0, c_callV1, c_callV2, c_callV3, c_callV4, c_callV5, c_callV6, c_callV7, c_callT0, c_callT1, am_nx_eq, am_set, am_set2, am_clr, am_isL, am_push, am_w, am_ent, am_ent1, List.getElem?_cons_zero, List.getElem?_cons_succ, List.set_cons_zero, List.set_cons_succ, List.getD_cons_zero, List.getD_cons_succ, List.cons_append, List.nil_append, List.append_nil, List.replicate_succ, List.replicate_zero, Nat.reduceAdd, Nat.reduceSub, Nat.reduceLeDiff, Bool.false_eq_true, reduceIte, true_and, and_true, true_or, or_true, or_self, am_i32, am_i64, bz_0, bz_01, bz_em, bz_n0, Classical.not_not, am_cmp_lt0, am_cmp_gt0, am_cmp_eq0, am_cmp_ge0, am_cmp_le0, am_cmp_ne0]
  try simp only [Int.reduceEq, Int.reduceLT, Int.reduceLE, Int.reduceNeg, not_true_eq_false, not_false_eq_true, false_implies, true_implies, implies_true, true_and, and_true]
  have s := (AcF.fld (e := e) M 1 (j := 4) (by omega)).tr ((AcF.fld _ 0 (j := 5) (by omega)).tr ((AcF.fld _ i (j := 6) (by omega)).tr ((AcF.fld _ t (j := 7) (by omega)).tr ((AcF.fld _ b (j := 8) (by omega)).tr ((AcF.fld _ 0 (j := 9) (by omega)).tr ((AcF.fld _ (-1) (j := 10) (by omega)).tr (AcF.fld _ (-1) (j := 11) (by omega))))))))
  refine h _ s (s.PC hA hC) ?_ ?_
  · refine ⟨?_, ?_, ?_, ?_, ?_, ?_, ?_, fun j j1 j2 => absurd j2 (by simp [nAct]; omega)⟩
    all_goals simp [am_up_eq, nAct]
  · simp only [am_up_eq, Int.reduceEq, if_true, if_false]
theorem CAct.add (h : CAct M A e) {t k b w : Int} : CAct (am_up (am_up (am_up (am_up (am_up M (e + 1) (A 0 4) t) (e + 2) (A 0 4) k) (e + 3) (A 0 4) b) (e + 4) (A 0 4) w) e 9 (A 0 4 + 1)) (adF A t k b w) e := by
  obtain ⟨a0, a1, a2, a3, a4, a5, a6, a7⟩ := h
  have n : ∀ j : Int, 1 ≤ j → j ≤ 4 → e ≠ e + j ∧ e + j ≠ e := fun j _ _ => by omega
  have up0 : ∀ j : Int, j ≠ 9 → am_up (am_up (am_up (am_up (am_up M (e + 1) (A 0 4) t) (e + 2) (A 0 4) k) (e + 3) (A 0 4) b) (e + 4) (A 0 4) w) e 9 (A 0 4 + 1) e j = M e j := fun j hj => by
    rw [am_up_j _ hj, am_up_o _ (by omega), am_up_o _ (by omega), am_up_o _ (by omega), am_up_o _ (by omega)]
  refine ⟨?_, ?_, ?_, ?_, am_up_s _ _ _ _, ?_, ?_, fun j j1 j2 => ?_⟩
  · rw [up0 5 (by decide)]; exact a0
  · rw [up0 6 (by decide)]; exact a1
  · rw [up0 7 (by decide)]; exact a2
  · rw [up0 8 (by decide)]; exact a3
  · rw [up0 10 (by decide)]; exact a5
  · rw [up0 11 (by decide)]; exact a6
  · rw [adF_04] at j2
    have e1 : am_up (am_up (am_up (am_up (am_up M (e + 1) (A 0 4) t) (e + 2) (A 0 4) k) (e + 3) (A 0 4) b) (e + 4) (A 0 4) w) e 9 (A 0 4 + 1) (e + 1) j = if j = A 0 4 then t else M (e + 1) j := by
      rw [am_up_o _ (by omega), am_up_o _ (by omega), am_up_o _ (by omega), am_up_o _ (by omega), am_up, if_pos rfl]
    have e2 : am_up (am_up (am_up (am_up (am_up M (e + 1) (A 0 4) t) (e + 2) (A 0 4) k) (e + 3) (A 0 4) b) (e + 4) (A 0 4) w) e 9 (A 0 4 + 1) (e + 2) j = if j = A 0 4 then k else M (e + 2) j := by
      rw [am_up_o _ (by omega), am_up_o _ (by omega), am_up_o _ (by omega), am_up, if_pos rfl, am_up_o _ (by omega)]
    have e3 : am_up (am_up (am_up (am_up (am_up M (e + 1) (A 0 4) t) (e + 2) (A 0 4) k) (e + 3) (A 0 4) b) (e + 4) (A 0 4) w) e 9 (A 0 4 + 1) (e + 3) j = if j = A 0 4 then b else M (e + 3) j := by
      rw [am_up_o _ (by omega), am_up_o _ (by omega), am_up, if_pos rfl, am_up_o _ (by omega), am_up_o _ (by omega)]
    have e4 : am_up (am_up (am_up (am_up (am_up M (e + 1) (A 0 4) t) (e + 2) (A 0 4) k) (e + 3) (A 0 4) b) (e + 4) (A 0 4) w) e 9 (A 0 4 + 1) (e + 4) j = if j = A 0 4 then w else M (e + 4) j := by
      rw [am_up_o _ (by omega), am_up, if_pos rfl, am_up_o _ (by omega), am_up_o _ (by omega), am_up_o _ (by omega)]
    rw [e1, e2, e3, e4]
    by_cases z : j = A 0 4
    · rw [z, adF_1, adF_2, adF_3, adF_4, if_pos rfl, if_pos rfl, if_pos rfl, if_pos rfl]
      exact ⟨rfl, rfl, rfl, rfl⟩
    · rw [adF_r (by decide) z, adF_r (by decide) z, adF_r (by decide) z, adF_r (by decide) z, if_neg z, if_neg z, if_neg z, if_neg z]
      exact a7 j j1 (by omega)
theorem k_addFlight (hC : am_PC M) (hA : isA e) (hc : CAct M A e) (h0 : 0 ≤ A 0 4) (h8 : A 0 4 < 8) {t k b w : Int} (h : ∀ M', AcF e M M' → am_PC M' → CAct M' (adF A t k b w) e → M' e 4 = M e 4 → Q none (am_SH, M')) : am_Call (d + 1) m_Act_addFlight 0 0 [vR e, vI t, vI k, vI b, vI w] (am_SH, M) Q := by
  have e9 := hc.2.2.2.2.1
  have n1 : ¬ (e = e + 1) := by omega
  have n2 : ¬ (e = e + 2) := by omega
  have n3 : ¬ (e = e + 3) := by omega
  have n4 : ¬ (e = e + 4) := by omega
  refine am_go B_Act_addFlight_0 rfl (Nat.le_of_ble_eq_true rfl) ?_
  simp only [b_Act_addFlight_60, b_Act_addFlight_0, ka_0 hA, la_1 hA, la_2 hA, la_3 hA, la_4 hA, pa_0 hC hA, pa_1 hC hA, pa_2 hC hA, pa_3 hC hA, e9, am_up_eq, n1, n2, n3, n4, if_false, c_const, c_lconst, c_ref, c_iload, c_lload, c_aload, c_istore, c_lstore, c_astore, c_iinc, c_iadd, c_isub, c_imul, c_ladd, c_lsub, c_lmul, c_idiv, c_irem, c_ldiv, c_lrem, c_iand, c_ior, c_ixor, c_ishl, c_ishr, c_ineg, c_i2l, c_l2i, c_i2c, c_lcmp, c_dup, c_pop, c_dup2, c_at, c_icmp_eq, c_icmp_ne, c_icmp_lt, c_icmp_ge, c_icmp_gt, c_icmp_le, c_if_eq, c_if_ne, c_if_lt, c_if_ge, c_if_gt, c_if_le, c_ifnull, c_ifnonnull, am_swK, c_sw, c_iret, c_zret, c_cret, c_bret, c_lret, c_aret, c_vret, c_getI, c_getR, c_putI, c_putZ, c_putR, c_iald, c_zald, c_cald, c_lald, c_oald, c_gald, c_iast, c_zast, c_cast, c_last, c_oast, c_alen, c_callS0, c_callS1, c_callS2, c_callS3, c_callS4, c_callS5, c_callS6, c_callS7, c_callV0, c_callV1, c_callV2, c_callV3, c_callV4, c_callV5, c_callV6, c_callV7, c_callT0, c_callT1, am_nx_eq, am_set, am_set2, am_clr, am_isL, am_push, am_w, am_ent, am_ent1, List.getElem?_cons_zero, List.getElem?_cons_succ, List.set_cons_zero, List.set_cons_succ, List.getD_cons_zero, List.getD_cons_succ, List.cons_append, List.nil_append, List.append_nil, List.replicate_succ, List.replicate_zero, Nat.reduceAdd, Nat.reduceSub, Nat.reduceLeDiff, Bool.false_eq_true, reduceIte, true_and, and_true, true_or, or_true, or_self, am_i32, am_i64, bz_0, bz_01, bz_em, bz_n0, Classical.not_not, am_cmp_lt0, am_cmp_gt0, am_cmp_eq0, am_cmp_ge0, am_cmp_le0, am_cmp_ne0]
  have s := (AcF.arr M (o := e + 1) (A 0 4) t (by omega)).tr ((AcF.arr _ (o := e + 2) (A 0 4) k (by omega)).tr ((AcF.arr _ (o := e + 3) (A 0 4) b (by omega)).tr ((AcF.arr _ (o := e + 4) (A 0 4) w (by omega)).tr (AcF.fld (e := e) _ (A 0 4 + 1) (j := 9) (by omega)))))
  refine ⟨fun z => by omega, fun _ => ⟨by omega, by omega, by omega, by omega, by omega, by omega, by omega, by omega, by omega, h _ s (s.PC hA hC) hc.add ?_⟩⟩
  rw [am_up_j _ (by decide), am_up_o _ n4, am_up_o _ n3, am_up_o _ n2, am_up_o _ n1]
theorem CAct.fin (h : CAct M A e) {t i : Int} : CAct (am_up (am_up M e 10 t) e 11 i) (fiA A t i) e := by
  obtain ⟨a0, a1, a2, a3, a4, a5, a6, a7⟩ := h
  refine ⟨?_, ?_, ?_, ?_, ?_, ?_, ?_, fun j j1 j2 => ?_⟩
  · simpa [am_up_eq, fiA] using a0
  · simpa [am_up_eq, fiA] using a1
  · simpa [am_up_eq, fiA] using a2
  · simpa [am_up_eq, fiA] using a3
  · simpa [am_up_eq, fiA] using a4
  · simp [am_up_eq, fiA]
  · simp [am_up_eq, fiA]
  · have j3 : j < A 0 4 := by simpa [fiA] using j2
    have := a7 j j1 j3
    rw [am_up_o _ (by omega), am_up_o _ (by omega), am_up_o _ (by omega), am_up_o _ (by omega), am_up_o _ (by omega), am_up_o _ (by omega), am_up_o _ (by omega), am_up_o _ (by omega)]
    simpa [fiA] using this
theorem k_finish (hC : am_PC M) (hA : isA e) (hc : CAct M A e) {t i : Int} (h : ∀ M', AcF e M M' → am_PC M' → CAct M' (fiA A t i) e → M' e 4 = M e 4 → Q none (am_SH, M')) : am_Call (d + 1) m_Act_finish 0 0 [vR e, vI t, vI i] (am_SH, M) Q := by
  refine am_go B_Act_finish_0 rfl (Nat.le_of_ble_eq_true rfl) ?_
  simp only [b_Act_finish_0, ka_0 hA, c_const, c_lconst, c_ref, c_iload, c_lload, c_aload, c_istore, c_lstore, c_astore, c_iinc, c_iadd, c_isub, c_imul, c_ladd, c_lsub, c_lmul, c_idiv, c_irem, c_ldiv, c_lrem, c_iand, c_ior, c_ixor, c_ishl, c_ishr, c_ineg, c_i2l, c_l2i, c_i2c, c_lcmp, c_dup, c_pop, c_dup2, c_at, c_icmp_eq, c_icmp_ne, c_icmp_lt, c_icmp_ge, c_icmp_gt, c_icmp_le, c_if_eq, c_if_ne, c_if_lt, c_if_ge, c_if_gt, c_if_le, c_ifnull, c_ifnonnull, am_swK, c_sw, c_iret, c_zret, c_cret, c_bret, c_lret, c_aret, c_vret, c_getI, c_getR, c_putI, c_putZ, c_putR, c_iald, c_zald, c_cald, c_lald, c_oald, c_gald, c_iast, c_zast, c_cast, c_last, c_oast, c_alen, c_callS0, c_callS1, c_callS2, c_callS3, c_callS4, c_callS5, c_callS6, c_callS7, c_callV0, c_callV1, c_callV2, c_callV3, c_callV4, c_callV5, c_callV6, c_callV7, c_callT0, c_callT1, am_nx_eq, am_set, am_set2, am_clr, am_isL, am_push, am_w, am_ent, am_ent1, List.getElem?_cons_zero, List.getElem?_cons_succ, List.set_cons_zero, List.set_cons_succ, List.getD_cons_zero, List.getD_cons_succ, List.cons_append, List.nil_append, List.append_nil, List.replicate_succ, List.replicate_zero, Nat.reduceAdd, Nat.reduceSub, Nat.reduceLeDiff, Bool.false_eq_true, reduceIte, true_and, and_true, true_or, or_true, or_self, am_i32, am_i64, bz_0, bz_01, bz_em, bz_n0, Classical.not_not, am_cmp_lt0, am_cmp_gt0, am_cmp_eq0, am_cmp_ge0, am_cmp_le0, am_cmp_ne0]
  have s := (AcF.fld (e := e) M t (j := 10) (by omega)).tr (AcF.fld _ i (j := 11) (by omega))
  exact h _ s (s.PC hA hC) hc.fin (by rw [am_up_j _ (by decide), am_up_j _ (by decide)])
theorem k_barBefore (hC : am_PC M) (hA : isA e) (hc : CAct M A e) (h8 : A 0 4 ≤ 8) {i : Int} (hi : 0 ≤ i) (hi2 : i ≤ A 0 4) (h : Q (vI (barB A i)) (am_SH, M)) : am_Call (d + 1) m_Act_barBefore 0 0 [vR e, vI i] (am_SH, M) Q := by
  unfold barB at h
  refine am_go B_Act_barBefore_0 rfl (Nat.le_of_ble_eq_true rfl) ?_
  simp only [b_Act_barBefore_26, b_Act_barBefore_22, b_Act_barBefore_0, ka_0 hA, la_1 hA, la_2 hA, la_3 hA, la_4 hA, pa_0 hC hA, pa_1 hC hA, pa_2 hC hA, pa_3 hC hA, c_const, c_lconst, c_ref, c_iload, c_lload, c_aload, c_istore, c_lstore, c_astore, c_iinc, c_iadd, c_isub, c_imul, c_ladd, c_lsub, c_lmul, c_idiv, c_irem, c_ldiv, c_lrem, c_iand, c_ior, c_ixor, c_ishl, c_ishr, c_ineg, c_i2l, c_l2i, c_i2c, c_lcmp, c_dup, c_pop, c_dup2, c_at, c_icmp_eq, c_icmp_ne, c_icmp_lt, c_icmp_ge, c_icmp_gt, c_icmp_le, c_if_eq, c_if_ne, c_if_lt, c_if_ge, c_if_gt, c_if_le, c_ifnull, c_ifnonnull, am_swK, c_sw, c_iret, c_zret, c_cret, c_bret, c_lret, c_aret, c_vret, c_getI, c_getR, c_putI, c_putZ, c_putR, c_iald, c_zald, c_cald, c_lald, c_oald, c_gald, c_iast, c_zast, c_cast, c_last, c_oast, c_alen, c_callS0, c_callS1, c_callS2, c_callS3, c_callS4, c_callS5, c_callS6, c_callS7, c_callV0, c_callV1, c_callV2, c_callV3, c_callV4, c_callV5, c_callV6, c_callV7, c_callT0, c_callT1, am_nx_eq, am_set, am_set2, am_clr, am_isL, am_push, am_w, am_ent, am_ent1, List.getElem?_cons_zero, List.getElem?_cons_succ, List.set_cons_zero, List.set_cons_succ, List.getD_cons_zero, List.getD_cons_succ, List.cons_append, List.nil_append, List.append_nil, List.replicate_succ, List.replicate_zero, Nat.reduceAdd, Nat.reduceSub, Nat.reduceLeDiff, Bool.false_eq_true, reduceIte, true_and, and_true, true_or, or_true, or_self, am_i32, am_i64, bz_0, bz_01, bz_em, bz_n0, Classical.not_not, am_cmp_lt0, am_cmp_gt0, am_cmp_eq0, am_cmp_ge0, am_cmp_le0, am_cmp_ne0]
  refine ⟨fun q => ?_, fun q => ⟨fun q2 => by omega, fun q2 => ⟨by omega, by omega, by omega, ?_⟩⟩⟩
  · rw [if_pos (by omega)] at h
    rw [hc.2.2.2.1]
    exact h
  · rw [if_neg (by omega)] at h
    rw [(hc.2.2.2.2.2.2.2 (i - 1) (by omega) (by omega)).2.2.1]
    exact h
theorem k_cameTo (hG : CG M D R) (hA : isA e) (hc : CAct M A e) (hW : WA D A) {i : Int} (hi : 0 ≤ i) (hi2 : i ≤ A 0 4) (h : Q (vI (cam D A i)) (am_SH, M)) : am_Call (d + 3) m_Act_cameTo 0 0 [vR e, vR (R + 11), vI i] (am_SH, M) Q := by
  have hC := hG.P
  have hR := hG.r
  have h8 := hW.1.1
  unfold cam at h
  refine am_go B_Act_cameTo_0 rfl (Nat.le_of_ble_eq_true rfl) ?_
  simp only [b_Act_cameTo_39, b_Act_cameTo_35, b_Act_cameTo_0, ka_0 hA, la_1 hA, la_2 hA, la_3 hA, la_4 hA, pa_0 hC hA, pa_1 hC hA, pa_2 hC hA, pa_3 hC hA, kr_11 hR, c_const, c_lconst, c_ref, c_iload, c_lload, c_aload, c_istore, c_lstore, c_astore, c_iinc, c_iadd, c_isub, c_imul, c_ladd, c_lsub, c_lmul, c_idiv, c_irem, c_ldiv, c_lrem, c_iand, c_ior, c_ixor, c_ishl, c_ishr, c_ineg, c_i2l, c_l2i, c_i2c, c_lcmp, c_dup, c_pop, c_dup2, c_at, c_icmp_eq, c_icmp_ne, c_icmp_lt, c_icmp_ge, c_icmp_gt, c_icmp_le, c_if_eq, c_if_ne, c_if_lt, c_if_ge, c_if_gt, c_if_le, c_ifnull, c_ifnonnull, am_swK, c_sw, c_iret, c_zret, c_cret, c_bret, c_lret, c_aret, c_vret, c_getI, c_getR, c_putI, c_putZ, c_putR, c_iald, c_zald, c_cald, c_lald, c_oald, c_gald, c_iast, c_zast, c_cast, c_last, c_oast, c_alen, c_callS0, c_callS1, c_callS2, c_callS3, c_callS4, c_callS5, c_callS6, c_callS7, c_callV0, c_callV1, c_callV2, c_callV3, c_callV4, c_callV5, c_callV6, c_callV7, c_callT0, c_callT1, am_nx_eq, am_set, am_set2, am_clr, am_isL, am_push, am_w, am_ent, am_ent1, List.getElem?_cons_zero, List.getElem?_cons_succ, List.set_cons_zero, List.set_cons_succ, List.getD_cons_zero, List.getD_cons_succ, List.cons_append, List.nil_append, List.append_nil, List.replicate_succ, List.replicate_zero, Nat.reduceAdd, Nat.reduceSub, Nat.reduceLeDiff, Bool.false_eq_true, reduceIte, true_and, and_true, true_or, or_true, or_self, am_i32, am_i64, bz_0, bz_01, bz_em, bz_n0, Classical.not_not, am_cmp_lt0, am_cmp_gt0, am_cmp_eq0, am_cmp_ge0, am_cmp_le0, am_cmp_ne0]
  refine ⟨fun q => ?_, fun q => ⟨fun q2 => by omega, fun q2 => ⟨by omega, by omega, by omega, by omega, by omega, by omega, k_ticksOf hG (fun v hv _ => ?_)⟩⟩⟩
  · rw [if_pos (by omega)] at h
    rw [hc.2.2.1]
    exact h
  · rw [if_neg (by omega)] at h
    have old := hc.2.2.2.2.2.2.2 (i - 1) (by omega) (by omega)
    have fl := fly_0 hG.W hW (i := i - 1) (by omega) (by omega)
    have k1 := (hW.2.1 (i - 1) (by omega) (by omega)).1.2.1
    rw [old.2.1] at hv
    have hv := hv k1
    have w7 := (hG.W.2.2.2.2.2 _ k1.1 k1.2).1
    simp only [b_Act_cameTo_39, b_Act_cameTo_35, b_Act_cameTo_0, c_const, c_lconst, c_ref, c_iload, c_lload, c_aload, c_istore, c_lstore, c_astore, c_iinc, c_iadd, c_isub, c_imul, c_ladd, c_lsub, c_lmul, c_idiv, c_irem, c_ldiv, c_lrem, c_iand, c_ior, c_ixor, c_ishl, c_ishr, c_ineg, c_i2l, c_l2i, c_i2c, c_lcmp, c_dup, c_pop, c_dup2, c_at, c_icmp_eq, c_icmp_ne, c_icmp_lt, c_icmp_ge, c_icmp_gt, c_icmp_le, c_if_eq, c_if_ne, c_if_lt, c_if_ge, c_if_gt, c_if_le, c_ifnull, c_ifnonnull, am_swK, c_sw, c_iret, c_zret, c_cret, c_bret, c_lret, c_aret, c_vret, c_getI, c_getR, c_putI, c_putZ, c_putR, c_iald, c_zald, c_cald, c_lald, c_oald, c_gald, c_iast, c_zast, c_cast, c_last, c_oast, c_alen, c_callS0, c_callS1, c_callS2, c_callS3, c_callS4, c_callS5, c_callS6, c_callS7, c_callV0, c_callV1, c_callV2, c_callV3, c_callV4, c_callV5, c_callV6, c_callV7, c_callT0, c_callT1, am_nx_eq, am_set, am_set2, am_clr, am_isL, am_push, am_w, am_ent, am_ent1, List.getElem?_cons_zero, List.getElem?_cons_succ, List.set_cons_zero, List.set_cons_succ, List.getD_cons_zero, List.getD_cons_succ, List.cons_append, List.nil_append, List.append_nil, List.replicate_succ, List.replicate_zero, Nat.reduceAdd, Nat.reduceSub, Nat.reduceLeDiff, Bool.false_eq_true, reduceIte, true_and, and_true, true_or, or_true, or_self, am_i32, am_i64, bz_0, bz_01, bz_em, bz_n0, Classical.not_not, am_cmp_lt0, am_cmp_gt0, am_cmp_eq0, am_cmp_ge0, am_cmp_le0, am_cmp_ne0]
    rw [old.1, hv]
    exact ⟨by omega, h⟩
theorem k_lastTrick (hC : am_PC M) (hA : isA e) (hc : CAct M A e) (h0 : 0 ≤ A 0 4) (h8 : A 0 4 ≤ 8) (h : Q (vI (if 1 ≤ A 0 4 then A 2 (A 0 4 - 1) else -1)) (am_SH, M)) : am_Call (d + 1) m_Act_lastTrick 0 0 [vR e] (am_SH, M) Q := by
  have e9 := hc.2.2.2.2.1
  refine am_go B_Act_lastTrick_0 rfl (Nat.le_of_ble_eq_true rfl) ?_
  simp only [b_Act_lastTrick_32, b_Act_lastTrick_31, b_Act_lastTrick_0, ka_0 hA, la_1 hA, la_2 hA, la_3 hA, la_4 hA, pa_0 hC hA, pa_1 hC hA, pa_2 hC hA, pa_3 hC hA, e9, c_const, c_lconst, c_ref, c_iload, c_lload, c_aload, c_istore, c_lstore, c_astore, c_iinc, c_iadd, c_isub, c_imul, c_ladd, c_lsub, c_lmul, c_idiv, c_irem, c_ldiv, c_lrem, c_iand, c_ior, c_ixor, c_ishl, c_ishr, c_ineg, c_i2l, c_l2i, c_i2c, c_lcmp, c_dup, c_pop, c_dup2, c_at, c_icmp_eq, c_icmp_ne, c_icmp_lt, c_icmp_ge, c_icmp_gt, c_icmp_le, c_if_eq, c_if_ne, c_if_lt, c_if_ge, c_if_gt, c_if_le, c_ifnull, c_ifnonnull, am_swK, c_sw, c_iret, c_zret, c_cret, c_bret, c_lret, c_aret, c_vret, c_getI, c_getR, c_putI, c_putZ, c_putR, c_iald, c_zald, c_cald, c_lald, c_oald, c_gald, c_iast, c_zast, c_cast, c_last, c_oast, c_alen, c_callS0, c_callS1, c_callS2, c_callS3, c_callS4, c_callS5, c_callS6, c_callS7, c_callV0, c_callV1, c_callV2, c_callV3, c_callV4, c_callV5, c_callV6, c_callV7, c_callT0, c_callT1, am_nx_eq, am_set, am_set2, am_clr, am_isL, am_push, am_w, am_ent, am_ent1, List.getElem?_cons_zero, List.getElem?_cons_succ, List.set_cons_zero, List.set_cons_succ, List.getD_cons_zero, List.getD_cons_succ, List.cons_append, List.nil_append, List.append_nil, List.replicate_succ, List.replicate_zero, Nat.reduceAdd, Nat.reduceSub, Nat.reduceLeDiff, Bool.false_eq_true, reduceIte, true_and, and_true, true_or, or_true, or_self, am_i32, am_i64, bz_0, bz_01, bz_em, bz_n0, Classical.not_not, am_cmp_lt0, am_cmp_gt0, am_cmp_eq0, am_cmp_ge0, am_cmp_le0, am_cmp_ne0]
  refine ⟨fun q => ?_, fun q => ⟨fun q2 => by omega, fun q2 => ⟨by omega, by omega, by omega, ?_⟩⟩⟩
  · rwa [if_neg (by omega)] at h
  · rw [if_pos (by omega)] at h
    rw [(hc.2.2.2.2.2.2.2 (A 0 4 - 1) (by omega) (by omega)).2.1]
    exact h
theorem k_worthTold (hC : am_PC M) (hA : isA e) (hc : CAct M A e) (hW : WA D A) (h : Q (vI (wsum A (A 0 4).toNat)) (am_SH, M)) : am_Call (d + 1) m_Act_worthTold 0 0 [vR e] (am_SH, M) Q := by
  have e9 := hc.2.2.2.2.1
  have h8 := hW.1.1
  have lp : ∀ (m n : Nat), (n : Int) + m = A 0 4 → am_Wp (d + 1) m_Act_worthTold 0 0 4 [vR e, vI (wsum A n), vI n] [] (am_SH, M) Q := by
    intro m
    induction m with
    | zero =>
      intro n hn
      refine B_Act_worthTold_4 _ _ _ _ _ ?_
      simp only [b_Act_worthTold_4, b_Act_worthTold_33, ka_0 hA, la_1 hA, la_2 hA, la_3 hA, la_4 hA, pa_0 hC hA, pa_1 hC hA, pa_2 hC hA, pa_3 hC hA, e9, c_const, c_lconst, c_ref, c_iload, c_lload, c_aload, c_istore, c_lstore, c_astore, c_iinc, c_iadd, c_isub, c_imul, c_ladd, c_lsub, c_lmul, c_idiv, c_irem, c_ldiv, c_lrem, c_iand, c_ior, c_ixor, c_ishl, c_ishr, c_ineg, c_i2l, c_l2i, c_i2c, c_lcmp, c_dup, c_pop, c_dup2, c_at, c_icmp_eq, c_icmp_ne, c_icmp_lt, c_icmp_ge, c_icmp_gt, c_icmp_le, c_if_eq, c_if_ne, c_if_lt, c_if_ge, c_if_gt, c_if_le, c_ifnull, c_ifnonnull, am_swK, c_sw, c_iret, c_zret, c_cret, c_bret, c_lret, c_aret, c_vret, c_getI, c_getR, c_putI, c_putZ, c_putR, c_iald, c_zald, c_cald, c_lald, c_oald, c_gald, c_iast, c_zast, c_cast, c_last, c_oast, c_alen, c_callS0, c_callS1, c_callS2, c_callS3, c_callS4, c_callS5, c_callS6, c_callS7, c_callV0, c_callV1, c_callV2, c_callV3, c_callV4, c_callV5, c_callV6, c_callV7, c_callT0, c_callT1, am_nx_eq, am_set, am_set2, am_clr, am_isL, am_push, am_w, am_ent, am_ent1, List.getElem?_cons_zero, List.getElem?_cons_succ, List.set_cons_zero, List.set_cons_succ, List.getD_cons_zero, List.getD_cons_succ, List.cons_append, List.nil_append, List.append_nil, List.replicate_succ, List.replicate_zero, Nat.reduceAdd, Nat.reduceSub, Nat.reduceLeDiff, Bool.false_eq_true, reduceIte, true_and, and_true, true_or, or_true, or_self, am_i32, am_i64, bz_0, bz_01, bz_em, bz_n0, Classical.not_not, am_cmp_lt0, am_cmp_gt0, am_cmp_eq0, am_cmp_ge0, am_cmp_le0, am_cmp_ne0]
      rw [show (A 0 4).toNat = n by omega] at h
      exact ⟨fun _ => h, fun z => by omega⟩
    | succ m ih =>
      intro n hn
      have ws := wsum_in (A := A) n (fun i i0 i1 => (hW.2.1 i i0 (by omega)).2.2)
      have w4 := (hW.2.1 n (by omega) (by omega)).2.2
      have ew : wsum A (n + 1) = wsum A n + A 4 n := rfl
      have nx := ih (n + 1) (by omega)
      rw [ew] at nx
      refine B_Act_worthTold_4 _ _ _ _ _ ?_
      simp only [b_Act_worthTold_4, ka_0 hA, la_1 hA, la_2 hA, la_3 hA, la_4 hA, pa_0 hC hA, pa_1 hC hA, pa_2 hC hA, pa_3 hC hA, e9, (hc.2.2.2.2.2.2.2 n (by omega) (by omega)).2.2.2, c_const, c_lconst, c_ref, c_iload, c_lload, c_aload, c_istore, c_lstore, c_astore, c_iinc, c_iadd, c_isub, c_imul, c_ladd, c_lsub, c_lmul, c_idiv, c_irem, c_ldiv, c_lrem, c_iand, c_ior, c_ixor, c_ishl, c_ishr, c_ineg, c_i2l, c_l2i, c_i2c, c_lcmp, c_dup, c_pop, c_dup2, c_at, c_icmp_eq, c_icmp_ne, c_icmp_lt, c_icmp_ge, c_icmp_gt, c_icmp_le, c_if_eq, c_if_ne, c_if_lt, c_if_ge, c_if_gt, c_if_le, c_ifnull, c_ifnonnull, am_swK, c_sw, c_iret, c_zret, c_cret, c_bret, c_lret, c_aret, c_vret, c_getI, c_getR, c_putI, c_putZ, c_putR, c_iald, c_zald, c_cald, c_lald, c_oald, c_gald, c_iast, c_zast, c_cast, c_last, c_oast, c_alen, c_callS0, c_callS1, c_callS2, c_callS3, c_callS4, c_callS5, c_callS6, c_callS7, c_callV0, c_callV1, c_callV2, c_callV3, c_callV4, c_callV5, c_callV6, c_callV7, c_callT0, c_callT1, am_nx_eq, am_set, am_set2, am_clr, am_isL, am_push, am_w, am_ent, am_ent1, List.getElem?_cons_zero, List.getElem?_cons_succ, List.set_cons_zero, List.set_cons_succ, List.getD_cons_zero, List.getD_cons_succ, List.cons_append, List.nil_append, List.append_nil, List.replicate_succ, List.replicate_zero, Nat.reduceAdd, Nat.reduceSub, Nat.reduceLeDiff, Bool.false_eq_true, reduceIte, true_and, and_true, true_or, or_true, or_self, am_i32, am_i64, bz_0, bz_01, bz_em, bz_n0, Classical.not_not, am_cmp_lt0, am_cmp_gt0, am_cmp_eq0, am_cmp_ge0, am_cmp_le0, am_cmp_ne0]
      exact ⟨fun z => by omega, fun _ => ⟨fun z => by omega, fun _ => ⟨by omega, by omega, by omega, by omega, nx⟩⟩⟩
  refine am_go B_Act_worthTold_0 rfl (Nat.le_of_ble_eq_true rfl) ?_
  simp only [b_Act_worthTold_0, c_const, c_lconst, c_ref, c_iload, c_lload, c_aload, c_istore, c_lstore, c_astore, c_iinc, c_iadd, c_isub, c_imul, c_ladd, c_lsub, c_lmul, c_idiv, c_irem, c_ldiv, c_lrem, c_iand, c_ior, c_ixor, c_ishl, c_ishr, c_ineg, c_i2l, c_l2i, c_i2c, c_lcmp, c_dup, c_pop, c_dup2, c_at, c_icmp_eq, c_icmp_ne, c_icmp_lt, c_icmp_ge, c_icmp_gt, c_icmp_le, c_if_eq, c_if_ne, c_if_lt, c_if_ge, c_if_gt, c_if_le, c_ifnull, c_ifnonnull, am_swK, c_sw, c_iret, c_zret, c_cret, c_bret, c_lret, c_aret, c_vret, c_getI, c_getR, c_putI, c_putZ, c_putR, c_iald, c_zald, c_cald, c_lald, c_oald, c_gald, c_iast, c_zast, c_cast, c_last, c_oast, c_alen, c_callS0, c_callS1, c_callS2, c_callS3, c_callS4, c_callS5, c_callS6, c_callS7, c_callV0, c_callV1, c_callV2, c_callV3, c_callV4, c_callV5, c_callV6, c_callV7, c_callT0, c_callT1, am_nx_eq, am_set, am_set2, am_clr, am_isL, am_push, am_w, am_ent, am_ent1, List.getElem?_cons_zero, List.getElem?_cons_succ, List.set_cons_zero, List.set_cons_succ, List.getD_cons_zero, List.getD_cons_succ, List.cons_append, List.nil_append, List.append_nil, List.replicate_succ, List.replicate_zero, Nat.reduceAdd, Nat.reduceSub, Nat.reduceLeDiff, Bool.false_eq_true, reduceIte, true_and, and_true, true_or, or_true, or_self, am_i32, am_i64, bz_0, bz_01, bz_em, bz_n0, Classical.not_not, am_cmp_lt0, am_cmp_gt0, am_cmp_eq0, am_cmp_ge0, am_cmp_le0, am_cmp_ne0]
  exact lp (A 0 4).toNat 0 (by omega)
theorem k_fw_l {M0 : Int → Int → Int} {p s : Int} (hA : isA e) (hE : isE p) (hW : WE D A) (hs : 0 ≤ s ∧ s ≤ 1000) (h : ∀ M', CSc p M0 M' → CG M' D R → Q (vI (fwS D A s)) (am_SH, M')) (hfw : fwS D A s = flS D A s (A 0 4).toNat 0) : ∀ (m : Nat) (i : Int) (x5 : AV) (M : Int → Int → Int), CSc p M0 M → CG M D R → CAct M A e → i + m = A 0 4 → 0 ≤ i → flS D A s m i = fwS D A s → am_Wp (d + 5) m_Act_firstWrong 0 0 26 [vR e, vR R, vR p, vI s, vI i, x5] [] (am_SH, M) Q := by
  have h8 := hW.1.1.1
  have ae : isA e ∧ isE p := ⟨hA, hE⟩
  unfold isA isE at ae
  intro m
  induction m with
  | zero =>
    intro i x5 M hS hG hc hi hi0 hf
    have hC := hG.P
    have hR := hG.r
    have e9 := hc.2.2.2.2.1
    have e10 := hc.2.2.2.2.2.1
    have e11 := hc.2.2.2.2.2.2.1
    have ei : i = A 0 4 := by omega
    have cl := cam_lvs hG.W hW h8.1 (Int.le_refl _)
    have w5 := hW.2.1
    unfold flS at hf
    refine B_Act_firstWrong_26 _ _ _ _ _ ?_
    simp only [b_Act_firstWrong_26, b_Act_firstWrong_132, ka_0 hA, la_1 hA, la_2 hA, la_3 hA, la_4 hA, pa_0 hC hA, pa_1 hC hA, pa_2 hC hA, pa_3 hC hA, e9, e10, e11, kr_0 hR, c_const, c_lconst, c_ref, c_iload, c_lload, c_aload, c_istore, c_lstore, c_astore, c_iinc, c_iadd, c_isub, c_imul, c_ladd, c_lsub, c_lmul, c_idiv, c_irem, c_ldiv, c_lrem, c_iand, c_ior, c_ixor, c_ishl, c_ishr, c_ineg, c_i2l, c_l2i, c_i2c, c_lcmp, c_dup, c_pop, c_dup2, c_at, c_icmp_eq, c_icmp_ne, c_icmp_lt, c_icmp_ge, c_icmp_gt, c_icmp_le, c_if_eq, c_if_ne, c_if_lt, c_if_ge, c_if_gt, c_if_le, c_ifnull, c_ifnonnull, am_swK, c_sw, c_iret, c_zret, c_cret, c_bret, c_lret, c_aret, c_vret, c_getI, c_getR, c_putI, c_putZ, c_putR, c_iald, c_zald, c_cald, c_lald, c_oald, c_gald, c_iast, c_zast, c_cast, c_last, c_oast, c_alen, c_callS0, c_callS1, c_callS2, c_callS3, c_callS4, c_callS5, c_callS6, c_callS7, c_callV0, c_callV1, c_callV2, c_callV3, c_callV4, c_callV5, c_callV6, c_callV7, c_callT0, c_callT1, am_nx_eq, am_set, am_set2, am_clr, am_isL, am_push, am_w, am_ent, am_ent1, List.getElem?_cons_zero, List.getElem?_cons_succ, List.set_cons_zero, List.set_cons_succ, List.getD_cons_zero, List.getD_cons_succ, List.cons_append, List.nil_append, List.append_nil, List.replicate_succ, List.replicate_zero, Nat.reduceAdd, Nat.reduceSub, Nat.reduceLeDiff, Bool.false_eq_true, reduceIte, true_and, and_true, true_or, or_true, or_self, am_i32, am_i64, bz_0, bz_01, bz_em, bz_n0, Classical.not_not, am_cmp_lt0, am_cmp_gt0, am_cmp_eq0, am_cmp_ge0, am_cmp_le0, am_cmp_ne0]
    refine ⟨fun _ => k_barBefore hC hA hc h8.2 h8.1 (Int.le_refl _) ?_, fun z => by omega⟩
    simp only [ka_0 hA, la_1 hA, la_2 hA, la_3 hA, la_4 hA, pa_0 hC hA, pa_1 hC hA, pa_2 hC hA, pa_3 hC hA, e9, e10, e11, kr_0 hR, c_const, c_lconst, c_ref, c_iload, c_lload, c_aload, c_istore, c_lstore, c_astore, c_iinc, c_iadd, c_isub, c_imul, c_ladd, c_lsub, c_lmul, c_idiv, c_irem, c_ldiv, c_lrem, c_iand, c_ior, c_ixor, c_ishl, c_ishr, c_ineg, c_i2l, c_l2i, c_i2c, c_lcmp, c_dup, c_pop, c_dup2, c_at, c_icmp_eq, c_icmp_ne, c_icmp_lt, c_icmp_ge, c_icmp_gt, c_icmp_le, c_if_eq, c_if_ne, c_if_lt, c_if_ge, c_if_gt, c_if_le, c_ifnull, c_ifnonnull, am_swK, c_sw, c_iret, c_zret, c_cret, c_bret, c_lret, c_aret, c_vret, c_getI, c_getR, c_putI, c_putZ, c_putR, c_iald, c_zald, c_cald, c_lald, c_oald, c_gald, c_iast, c_zast, c_cast, c_last, c_oast, c_alen, c_callS0, c_callS1, c_callS2, c_callS3, c_callS4, c_callS5, c_callS6, c_callS7, c_callV0, c_callV1, c_callV2, c_callV3, c_callV4, c_callV5, c_callV6, c_callV7, c_callT0, c_callT1, am_nx_eq, am_set, am_set2, am_clr, am_isL, am_push, am_w, am_ent, am_ent1, List.getElem?_cons_zero, List.getElem?_cons_succ, List.set_cons_zero, List.set_cons_succ, List.getD_cons_zero, List.getD_cons_succ, List.cons_append, List.nil_append, List.append_nil, List.replicate_succ, List.replicate_zero, Nat.reduceAdd, Nat.reduceSub, Nat.reduceLeDiff, Bool.false_eq_true, reduceIte, true_and, and_true, true_or, or_true, or_self, am_i32, am_i64, bz_0, bz_01, bz_em, bz_n0, Classical.not_not, am_cmp_lt0, am_cmp_gt0, am_cmp_eq0, am_cmp_ge0, am_cmp_le0, am_cmp_ne0]
    have ce := cam_0 hG.W hW.1 h8.1 (Int.le_refl _)
    have fin := h M hS hG
    refine ⟨by omega, k_isBy hG (by omega) (by omega) (fun w => ?_) (fun w => ?_)⟩
    · simp only [b_Act_firstWrong_161, b_Act_firstWrong_167, c_const, c_lconst, c_ref, c_iload, c_lload, c_aload, c_istore, c_lstore, c_astore, c_iinc, c_iadd, c_isub, c_imul, c_ladd, c_lsub, c_lmul, c_idiv, c_irem, c_ldiv, c_lrem, c_iand, c_ior, c_ixor, c_ishl, c_ishr, c_ineg, c_i2l, c_l2i, c_i2c, c_lcmp, c_dup, c_pop, c_dup2, c_at, c_icmp_eq, c_icmp_ne, c_icmp_lt, c_icmp_ge, c_icmp_gt, c_icmp_le, c_if_eq, c_if_ne, c_if_lt, c_if_ge, c_if_gt, c_if_le, c_ifnull, c_ifnonnull, am_swK, c_sw, c_iret, c_zret, c_cret, c_bret, c_lret, c_aret, c_vret, c_getI, c_getR, c_putI, c_putZ, c_putR, c_iald, c_zald, c_cald, c_lald, c_oald, c_gald, c_iast, c_zast, c_cast, c_last, c_oast, c_alen, c_callS0, c_callS1, c_callS2, c_callS3, c_callS4, c_callS5, c_callS6, c_callS7, c_callV0, c_callV1, c_callV2, c_callV3, c_callV4, c_callV5, c_callV6, c_callV7, c_callT0, c_callT1, am_nx_eq, am_set, am_set2, am_clr, am_isL, am_push, am_w, am_ent, am_ent1, List.getElem?_cons_zero, List.getElem?_cons_succ, List.set_cons_zero, List.set_cons_succ, List.getD_cons_zero, List.getD_cons_succ, List.cons_append, List.nil_append, List.append_nil, List.replicate_succ, List.replicate_zero, Nat.reduceAdd, Nat.reduceSub, Nat.reduceLeDiff, Bool.false_eq_true, reduceIte, true_and, and_true, true_or, or_true, or_self, am_i32, am_i64, bz_0, bz_01, bz_em, bz_n0, Classical.not_not, am_cmp_lt0, am_cmp_gt0, am_cmp_eq0, am_cmp_ge0, am_cmp_le0, am_cmp_ne0]
      try simp only [Int.reduceEq, Int.reduceLT, Int.reduceLE, Int.reduceNeg, not_true_eq_false, not_false_eq_true, false_implies, true_implies, implies_true, true_and, and_true]
      rw [if_pos (by rw [ei]; exact w.2.2)] at hf
      exact am_v fin hf
    · simp only [b_Act_firstWrong_161, b_Act_firstWrong_167, ka_0 hA, la_1 hA, la_2 hA, la_3 hA, la_4 hA, pa_0 hC hA, pa_1 hC hA, pa_2 hC hA, pa_3 hC hA, e9, c_const, c_lconst, c_ref, c_iload, c_lload, c_aload, c_istore, c_lstore, c_astore, c_iinc, c_iadd, c_isub, c_imul, c_ladd, c_lsub, c_lmul, c_idiv, c_irem, c_ldiv, c_lrem, c_iand, c_ior, c_ixor, c_ishl, c_ishr, c_ineg, c_i2l, c_l2i, c_i2c, c_lcmp, c_dup, c_pop, c_dup2, c_at, c_icmp_eq, c_icmp_ne, c_icmp_lt, c_icmp_ge, c_icmp_gt, c_icmp_le, c_if_eq, c_if_ne, c_if_lt, c_if_ge, c_if_gt, c_if_le, c_ifnull, c_ifnonnull, am_swK, c_sw, c_iret, c_zret, c_cret, c_bret, c_lret, c_aret, c_vret, c_getI, c_getR, c_putI, c_putZ, c_putR, c_iald, c_zald, c_cald, c_lald, c_oald, c_gald, c_iast, c_zast, c_cast, c_last, c_oast, c_alen, c_callS0, c_callS1, c_callS2, c_callS3, c_callS4, c_callS5, c_callS6, c_callS7, c_callV0, c_callV1, c_callV2, c_callV3, c_callV4, c_callV5, c_callV6, c_callV7, c_callT0, c_callT1, am_nx_eq, am_set, am_set2, am_clr, am_isL, am_push, am_w, am_ent, am_ent1, List.getElem?_cons_zero, List.getElem?_cons_succ, List.set_cons_zero, List.set_cons_succ, List.getD_cons_zero, List.getD_cons_succ, List.cons_append, List.nil_append, List.append_nil, List.replicate_succ, List.replicate_zero, Nat.reduceAdd, Nat.reduceSub, Nat.reduceLeDiff, Bool.false_eq_true, reduceIte, true_and, and_true, true_or, or_true, or_self, am_i32, am_i64, bz_0, bz_01, bz_em, bz_n0, Classical.not_not, am_cmp_lt0, am_cmp_gt0, am_cmp_eq0, am_cmp_ge0, am_cmp_le0, am_cmp_ne0]
      try simp only [Int.reduceEq, Int.reduceLT, Int.reduceLE, Int.reduceNeg, not_true_eq_false, not_false_eq_true, false_implies, true_implies, implies_true, true_and, and_true]
      rw [if_neg (by rw [ei]; exact fun u => w ⟨bar_in hW.1 h8.1 (Int.le_refl _), hW.2.2, u⟩), ei] at hf
      exact ⟨by omega, am_v fin hf⟩
  | succ m ih =>
    intro i x5 M hS hG hc hi hi0 hf
    have hC := hG.P
    have hR := hG.r
    have e9 := hc.2.2.2.2.1
    have fl := hc.2.2.2.2.2.2.2 i hi0 (by omega)
    have wf := hW.1.2.1 i hi0 (by omega)
    have f0 := fly_0 hG.W hW.1 hi0 (by omega)
    unfold flS at hf
    have go : ∀ g, g = ag A i → b_Act_firstWrong_71 (d + 4) Q 0 0 [vR e, vR R, vR p, vI s, vI i, x5] [vI g] (am_SH, M) := by
      intro g hg
      have gi := ag_in A i
      rw [← hg] at gi hf
      simp only [b_Act_firstWrong_71, b_Act_firstWrong_121, b_Act_firstWrong_126, ka_0 hA, la_1 hA, la_2 hA, la_3 hA, la_4 hA, pa_0 hC hA, pa_1 hC hA, pa_2 hC hA, pa_3 hC hA, kr_0 hR, ke_0 hE, c_const, c_lconst, c_ref, c_iload, c_lload, c_aload, c_istore, c_lstore, c_astore, c_iinc, c_iadd, c_isub, c_imul, c_ladd, c_lsub, c_lmul, c_idiv, c_irem, c_ldiv, c_lrem, c_iand, c_ior, c_ixor, c_ishl, c_ishr, c_ineg, c_i2l, c_l2i, c_i2c, c_lcmp, c_dup, c_pop, c_dup2, c_at, c_icmp_eq, c_icmp_ne, c_icmp_lt, c_icmp_ge, c_icmp_gt, c_icmp_le, c_if_eq, c_if_ne, c_if_lt, c_if_ge, c_if_gt, c_if_le, c_ifnull, c_ifnonnull, am_swK, c_sw, c_iret, c_zret, c_cret, c_bret, c_lret, c_aret, c_vret, c_getI, c_getR, c_putI, c_putZ, c_putR, c_iald, c_zald, c_cald, c_lald, c_oald, c_gald, c_iast, c_zast, c_cast, c_last, c_oast, c_alen, c_callS0, c_callS1, c_callS2, c_callS3, c_callS4, c_callS5, c_callS6, c_callS7, c_callV0, c_callV1, c_callV2, c_callV3, c_callV4, c_callV5, c_callV6, c_callV7, c_callT0, c_callT1, am_nx_eq, am_set, am_set2, am_clr, am_isL, am_push, am_w, am_ent, am_ent1, List.getElem?_cons_zero, List.getElem?_cons_succ, List.set_cons_zero, List.set_cons_succ, List.getD_cons_zero, List.getD_cons_succ, List.cons_append, List.nil_append, List.append_nil, List.replicate_succ, List.replicate_zero, Nat.reduceAdd, Nat.reduceSub, Nat.reduceLeDiff, Bool.false_eq_true, reduceIte, true_and, and_true, true_or, or_true, or_self, am_i32, am_i64, bz_0, bz_01, bz_em, bz_n0, Classical.not_not, am_cmp_lt0, am_cmp_gt0, am_cmp_eq0, am_cmp_ge0, am_cmp_le0, am_cmp_ne0]
      refine k_barBefore hC hA hc h8.2 hi0 (by omega) ?_
      simp only [b_Act_firstWrong_121, b_Act_firstWrong_126, ka_0 hA, la_1 hA, la_2 hA, la_3 hA, la_4 hA, pa_0 hC hA, pa_1 hC hA, pa_2 hC hA, pa_3 hC hA, kr_0 hR, ke_0 hE, fl.1, fl.2.1, fl.2.2.1, c_const, c_lconst, c_ref, c_iload, c_lload, c_aload, c_istore, c_lstore, c_astore, c_iinc, c_iadd, c_isub, c_imul, c_ladd, c_lsub, c_lmul, c_idiv, c_irem, c_ldiv, c_lrem, c_iand, c_ior, c_ixor, c_ishl, c_ishr, c_ineg, c_i2l, c_l2i, c_i2c, c_lcmp, c_dup, c_pop, c_dup2, c_at, c_icmp_eq, c_icmp_ne, c_icmp_lt, c_icmp_ge, c_icmp_gt, c_icmp_le, c_if_eq, c_if_ne, c_if_lt, c_if_ge, c_if_gt, c_if_le, c_ifnull, c_ifnonnull, am_swK, c_sw, c_iret, c_zret, c_cret, c_bret, c_lret, c_aret, c_vret, c_getI, c_getR, c_putI, c_putZ, c_putR, c_iald, c_zald, c_cald, c_lald, c_oald, c_gald, c_iast, c_zast, c_cast, c_last, c_oast, c_alen, c_callS0, c_callS1, c_callS2, c_callS3, c_callS4, c_callS5, c_callS6, c_callS7, c_callV0, c_callV1, c_callV2, c_callV3, c_callV4, c_callV5, c_callV6, c_callV7, c_callT0, c_callT1, am_nx_eq, am_set, am_set2, am_clr, am_isL, am_push, am_w, am_ent, am_ent1, List.getElem?_cons_zero, List.getElem?_cons_succ, List.set_cons_zero, List.set_cons_succ, List.getD_cons_zero, List.getD_cons_succ, List.cons_append, List.nil_append, List.append_nil, List.replicate_succ, List.replicate_zero, Nat.reduceAdd, Nat.reduceSub, Nat.reduceLeDiff, Bool.false_eq_true, reduceIte, true_and, and_true, true_or, or_true, or_self, am_i32, am_i64, bz_0, bz_01, bz_em, bz_n0, Classical.not_not, am_cmp_lt0, am_cmp_gt0, am_cmp_eq0, am_cmp_ge0, am_cmp_le0, am_cmp_ne0]
      repeat (with_reducible refine And.intro (by omega) ?_)
      refine k_aim hG hE (by omega) (by omega) (fun _ M1 s1 g1 a1 => ?_) (fun w => absurd wf.1 w)
      have hc1 : CAct M1 A e := hc.eq (fun o q1 q2 => s1.1 o (by omega) (by omega))
      simp only [b_Act_firstWrong_121, b_Act_firstWrong_126, ke_0 hE, c_const, c_lconst, c_ref, c_iload, c_lload, c_aload, c_istore, c_lstore, c_astore, c_iinc, c_iadd, c_isub, c_imul, c_ladd, c_lsub, c_lmul, c_idiv, c_irem, c_ldiv, c_lrem, c_iand, c_ior, c_ixor, c_ishl, c_ishr, c_ineg, c_i2l, c_l2i, c_i2c, c_lcmp, c_dup, c_pop, c_dup2, c_at, c_icmp_eq, c_icmp_ne, c_icmp_lt, c_icmp_ge, c_icmp_gt, c_icmp_le, c_if_eq, c_if_ne, c_if_lt, c_if_ge, c_if_gt, c_if_le, c_ifnull, c_ifnonnull, am_swK, c_sw, c_iret, c_zret, c_cret, c_bret, c_lret, c_aret, c_vret, c_getI, c_getR, c_putI, c_putZ, c_putR, c_iald, c_zald, c_cald, c_lald, c_oald, c_gald, c_iast, c_zast, c_cast, c_last, c_oast, c_alen, c_callS0, c_callS1, c_callS2, c_callS3, c_callS4, c_callS5, c_callS6, c_callS7, c_callV0, c_callV1, c_callV2, c_callV3, c_callV4, c_callV5, c_callV6, c_callV7, c_callT0, c_callT1, am_nx_eq, am_set, am_set2, am_clr, am_isL, am_push, am_w, am_ent, am_ent1, List.getElem?_cons_zero, List.getElem?_cons_succ, List.set_cons_zero, List.set_cons_succ, List.getD_cons_zero, List.getD_cons_succ, List.cons_append, List.nil_append, List.append_nil, List.replicate_succ, List.replicate_zero, Nat.reduceAdd, Nat.reduceSub, Nat.reduceLeDiff, Bool.false_eq_true, reduceIte, true_and, and_true, true_or, or_true, or_self, am_i32, am_i64, bz_0, bz_01, bz_em, bz_n0, Classical.not_not, am_cmp_lt0, am_cmp_gt0, am_cmp_eq0, am_cmp_ge0, am_cmp_le0, am_cmp_ne0]
      try simp only [Int.reduceEq, Int.reduceLT, Int.reduceLE, Int.reduceNeg, not_true_eq_false, not_false_eq_true, false_implies, true_implies, implies_true, true_and, and_true]
      refine k_isGood g1 hE wf.1.fl a1 (by omega) (by omega) hi0 (by omega) gi.1 gi.2 (fun M2 r s2 g2 a2 hr => ?_)
      have hc2 : CAct M2 A e := hc1.eq (fun o q1 q2 => s2 o (by omega))
      have r2 := gd_in D (barB A i) (A 1 i + s) (A 2 i) (A 3 i) i g
      simp only [b_Act_firstWrong_121, b_Act_firstWrong_126, c_const, c_lconst, c_ref, c_iload, c_lload, c_aload, c_istore, c_lstore, c_astore, c_iinc, c_iadd, c_isub, c_imul, c_ladd, c_lsub, c_lmul, c_idiv, c_irem, c_ldiv, c_lrem, c_iand, c_ior, c_ixor, c_ishl, c_ishr, c_ineg, c_i2l, c_l2i, c_i2c, c_lcmp, c_dup, c_pop, c_dup2, c_at, c_icmp_eq, c_icmp_ne, c_icmp_lt, c_icmp_ge, c_icmp_gt, c_icmp_le, c_if_eq, c_if_ne, c_if_lt, c_if_ge, c_if_gt, c_if_le, c_ifnull, c_ifnonnull, am_swK, c_sw, c_iret, c_zret, c_cret, c_bret, c_lret, c_aret, c_vret, c_getI, c_getR, c_putI, c_putZ, c_putR, c_iald, c_zald, c_cald, c_lald, c_oald, c_gald, c_iast, c_zast, c_cast, c_last, c_oast, c_alen, c_callS0, c_callS1, c_callS2, c_callS3, c_callS4, c_callS5, c_callS6, c_callS7, c_callV0, c_callV1, c_callV2, c_callV3, c_callV4, c_callV5, c_callV6, c_callV7, c_callT0, c_callT1, am_nx_eq, am_set, am_set2, am_clr, am_isL, am_push, am_w, am_ent, am_ent1, List.getElem?_cons_zero, List.getElem?_cons_succ, List.set_cons_zero, List.set_cons_succ, List.getD_cons_zero, List.getD_cons_succ, List.cons_append, List.nil_append, List.append_nil, List.replicate_succ, List.replicate_zero, Nat.reduceAdd, Nat.reduceSub, Nat.reduceLeDiff, Bool.false_eq_true, reduceIte, true_and, and_true, true_or, or_true, or_self, am_i32, am_i64, bz_0, bz_01, bz_em, bz_n0, Classical.not_not, am_cmp_lt0, am_cmp_gt0, am_cmp_eq0, am_cmp_ge0, am_cmp_le0, am_cmp_ne0]
      refine ⟨fun q => ⟨by omega, ih (i + 1) _ M2 (hS.tr (s1.tr s2.sc)) g2 hc2 (by omega) (by omega) ?_⟩, fun q => ⟨by omega, ?_⟩⟩
      · rwa [if_pos (by omega)] at hf
      · rw [if_neg (by omega)] at hf
        exact am_v (h M2 (hS.tr (s1.tr s2.sc)) g2) hf
    refine B_Act_firstWrong_26 _ _ _ _ _ ?_
    simp only [b_Act_firstWrong_26, b_Act_firstWrong_70, ka_0 hA, la_1 hA, la_2 hA, la_3 hA, la_4 hA, pa_0 hC hA, pa_1 hC hA, pa_2 hC hA, pa_3 hC hA, e9, fl.2.1, c_const, c_lconst, c_ref, c_iload, c_lload, c_aload, c_istore, c_lstore, c_astore, c_iinc, c_iadd, c_isub, c_imul, c_ladd, c_lsub, c_lmul, c_idiv, c_irem, c_ldiv, c_lrem, c_iand, c_ior, c_ixor, c_ishl, c_ishr, c_ineg, c_i2l, c_l2i, c_i2c, c_lcmp, c_dup, c_pop, c_dup2, c_at, c_icmp_eq, c_icmp_ne, c_icmp_lt, c_icmp_ge, c_icmp_gt, c_icmp_le, c_if_eq, c_if_ne, c_if_lt, c_if_ge, c_if_gt, c_if_le, c_ifnull, c_ifnonnull, am_swK, c_sw, c_iret, c_zret, c_cret, c_bret, c_lret, c_aret, c_vret, c_getI, c_getR, c_putI, c_putZ, c_putR, c_iald, c_zald, c_cald, c_lald, c_oald, c_gald, c_iast, c_zast, c_cast, c_last, c_oast, c_alen, c_callS0, c_callS1, c_callS2, c_callS3, c_callS4, c_callS5, c_callS6, c_callS7, c_callV0, c_callV1, c_callV2, c_callV3, c_callV4, c_callV5, c_callV6, c_callV7, c_callT0, c_callT1, am_nx_eq, am_set, am_set2, am_clr, am_isL, am_push, am_w, am_ent, am_ent1, List.getElem?_cons_zero, List.getElem?_cons_succ, List.set_cons_zero, List.set_cons_succ, List.getD_cons_zero, List.getD_cons_succ, List.cons_append, List.nil_append, List.append_nil, List.replicate_succ, List.replicate_zero, Nat.reduceAdd, Nat.reduceSub, Nat.reduceLeDiff, Bool.false_eq_true, reduceIte, true_and, and_true, true_or, or_true, or_self, am_i32, am_i64, bz_0, bz_01, bz_em, bz_n0, Classical.not_not, am_cmp_lt0, am_cmp_gt0, am_cmp_eq0, am_cmp_ge0, am_cmp_le0, am_cmp_ne0]
    refine ⟨fun z => by omega, fun _ => ⟨fun z => by omega, fun _ => ⟨fun z => go _ ?_, fun z => ⟨by omega, by omega, by omega, by omega, by omega, ?_⟩⟩⟩⟩
    · unfold ag
      rw [bz_f (by omega)]
    · rw [(hc.2.2.2.2.2.2.2 (i - 1) (by omega) (by omega)).2.1]
      refine ⟨fun z2 => go _ ?_, fun z2 => go _ ?_⟩
      · unfold ag
        rw [bz_f (fun w => z2 w.2.symm)]
      · unfold ag
        rw [bz_t ⟨by omega, z2.symm⟩]
theorem k_firstWrong {p s : Int} (hG : CG M D R) (hA : isA e) (hE : isE p) (hc : CAct M A e) (hW : WE D A) (hs : 0 ≤ s ∧ s ≤ 1000) (h : ∀ M', CSc p M M' → CG M' D R → Q (vI (fwS D A s)) (am_SH, M')) : am_Call (d + 5) m_Act_firstWrong 0 0 [vR e, vR R, vR p, vI s] (am_SH, M) Q := by
  have hC := hG.P
  have hR := hG.r
  have h8 := hW.1.1
  have e6 := hc.2.1
  have e7 := hc.2.2.1
  have e8 := hc.2.2.2.1
  have w2 := hW.1.1.2.2.2.1
  refine am_go B_Act_firstWrong_0 rfl (Nat.le_of_ble_eq_true rfl) ?_
  simp only [b_Act_firstWrong_0, ka_0 hA, la_1 hA, la_2 hA, la_3 hA, la_4 hA, pa_0 hC hA, pa_1 hC hA, pa_2 hC hA, pa_3 hC hA, e6, e7, e8, kr_0 hR, c_const, c_lconst, c_ref, c_iload, c_lload, c_aload, c_istore, c_lstore, c_astore, c_iinc, c_iadd, c_isub, c_imul, c_ladd, c_lsub, c_lmul, c_idiv, c_irem, c_ldiv, c_lrem, c_iand, c_ior, c_ixor, c_ishl, c_ishr, c_ineg, c_i2l, c_l2i, c_i2c, c_lcmp, c_dup, c_pop, c_dup2, c_at, c_icmp_eq, c_icmp_ne, c_icmp_lt, c_icmp_ge, c_icmp_gt, c_icmp_le, c_if_eq, c_if_ne, c_if_lt, c_if_ge, c_if_gt, c_if_le, c_ifnull, c_ifnonnull, am_swK, c_sw, c_iret, c_zret, c_cret, c_bret, c_lret, c_aret, c_vret, c_getI, c_getR, c_putI, c_putZ, c_putR, c_iald, c_zald, c_cald, c_lald, c_oald, c_gald, c_iast, c_zast, c_cast, c_last, c_oast, c_alen, c_callS0, c_callS1, c_callS2, c_callS3, c_callS4, c_callS5, c_callS6, c_callS7, c_callV0, c_callV1, c_callV2, c_callV3, c_callV4, c_callV5, c_callV6, c_callV7, c_callT0, c_callT1, am_nx_eq, am_set, am_set2, am_clr, am_isL, am_push, am_w, am_ent, am_ent1, List.getElem?_cons_zero, List.getElem?_cons_succ, List.set_cons_zero, List.set_cons_succ, List.getD_cons_zero, List.getD_cons_succ, List.cons_append, List.nil_append, List.append_nil, List.replicate_succ, List.replicate_zero, Nat.reduceAdd, Nat.reduceSub, Nat.reduceLeDiff, Bool.false_eq_true, reduceIte, true_and, and_true, true_or, or_true, or_self, am_i32, am_i64, bz_0, bz_01, bz_em, bz_n0, Classical.not_not, am_cmp_lt0, am_cmp_gt0, am_cmp_eq0, am_cmp_ge0, am_cmp_le0, am_cmp_ne0]
  refine ⟨by omega, k_isBy hG (by omega) (by omega) (fun w => ?_) (fun w => ?_)⟩
  · have hfw : fwS D A s = flS D A s (A 0 4).toNat 0 := by unfold fwS; rw [if_pos w.2.2]
    simp only [b_Act_firstWrong_23, c_const, c_lconst, c_ref, c_iload, c_lload, c_aload, c_istore, c_lstore, c_astore, c_iinc, c_iadd, c_isub, c_imul, c_ladd, c_lsub, c_lmul, c_idiv, c_irem, c_ldiv, c_lrem, c_iand, c_ior, c_ixor, c_ishl, c_ishr, c_ineg, c_i2l, c_l2i, c_i2c, c_lcmp, c_dup, c_pop, c_dup2, c_at, c_icmp_eq, c_icmp_ne, c_icmp_lt, c_icmp_ge, c_icmp_gt, c_icmp_le, c_if_eq, c_if_ne, c_if_lt, c_if_ge, c_if_gt, c_if_le, c_ifnull, c_ifnonnull, am_swK, c_sw, c_iret, c_zret, c_cret, c_bret, c_lret, c_aret, c_vret, c_getI, c_getR, c_putI, c_putZ, c_putR, c_iald, c_zald, c_cald, c_lald, c_oald, c_gald, c_iast, c_zast, c_cast, c_last, c_oast, c_alen, c_callS0, c_callS1, c_callS2, c_callS3, c_callS4, c_callS5, c_callS6, c_callS7, c_callV0, c_callV1, c_callV2, c_callV3, c_callV4, c_callV5, c_callV6, c_callV7, c_callT0, c_callT1, am_nx_eq, am_set, am_set2, am_clr, am_isL, am_push, am_w, am_ent, am_ent1, List.getElem?_cons_zero, List.getElem?_cons_succ, List.set_cons_zero, List.set_cons_succ, List.getD_cons_zero, List.getD_cons_succ, List.cons_append, List.nil_append, List.append_nil, List.replicate_succ, List.replicate_zero, Nat.reduceAdd, Nat.reduceSub, Nat.reduceLeDiff, Bool.false_eq_true, reduceIte, true_and, and_true, true_or, or_true, or_self, am_i32, am_i64, bz_0, bz_01, bz_em, bz_n0, Classical.not_not, am_cmp_lt0, am_cmp_gt0, am_cmp_eq0, am_cmp_ge0, am_cmp_le0, am_cmp_ne0]
    try simp only [Int.reduceEq, Int.reduceLT, Int.reduceLE, Int.reduceNeg, not_true_eq_false, not_false_eq_true, false_implies, true_implies, implies_true, true_and, and_true]
    exact k_fw_l (M0 := M) hA hE hW hs h hfw (A 0 4).toNat 0 _ M (CSc.rf _ _) hG hc (by omega) (by omega) hfw.symm
  · simp only [b_Act_firstWrong_23, c_const, c_lconst, c_ref, c_iload, c_lload, c_aload, c_istore, c_lstore, c_astore, c_iinc, c_iadd, c_isub, c_imul, c_ladd, c_lsub, c_lmul, c_idiv, c_irem, c_ldiv, c_lrem, c_iand, c_ior, c_ixor, c_ishl, c_ishr, c_ineg, c_i2l, c_l2i, c_i2c, c_lcmp, c_dup, c_pop, c_dup2, c_at, c_icmp_eq, c_icmp_ne, c_icmp_lt, c_icmp_ge, c_icmp_gt, c_icmp_le, c_if_eq, c_if_ne, c_if_lt, c_if_ge, c_if_gt, c_if_le, c_ifnull, c_ifnonnull, am_swK, c_sw, c_iret, c_zret, c_cret, c_bret, c_lret, c_aret, c_vret, c_getI, c_getR, c_putI, c_putZ, c_putR, c_iald, c_zald, c_cald, c_lald, c_oald, c_gald, c_iast, c_zast, c_cast, c_last, c_oast, c_alen, c_callS0, c_callS1, c_callS2, c_callS3, c_callS4, c_callS5, c_callS6, c_callS7, c_callV0, c_callV1, c_callV2, c_callV3, c_callV4, c_callV5, c_callV6, c_callV7, c_callT0, c_callT1, am_nx_eq, am_set, am_set2, am_clr, am_isL, am_push, am_w, am_ent, am_ent1, List.getElem?_cons_zero, List.getElem?_cons_succ, List.set_cons_zero, List.set_cons_succ, List.getD_cons_zero, List.getD_cons_succ, List.cons_append, List.nil_append, List.append_nil, List.replicate_succ, List.replicate_zero, Nat.reduceAdd, Nat.reduceSub, Nat.reduceLeDiff, Bool.false_eq_true, reduceIte, true_and, and_true, true_or, or_true, or_self, am_i32, am_i64, bz_0, bz_01, bz_em, bz_n0, Classical.not_not, am_cmp_lt0, am_cmp_gt0, am_cmp_eq0, am_cmp_ge0, am_cmp_le0, am_cmp_ne0]
    try simp only [Int.reduceEq, Int.reduceLT, Int.reduceLE, Int.reduceNeg, not_true_eq_false, not_false_eq_true, false_implies, true_implies, implies_true, true_and, and_true]
    have := h M (CSc.rf _ _) hG
    unfold fwS at this
    rw [if_neg (fun u => w ⟨by omega, by omega, u⟩)] at this
    exact this
end
