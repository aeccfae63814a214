/-! the class: pieces of a search -/
theorem mg_cm {g a b : Int} : mg g a b = mg g b a := by
  unfold mg
  split
  · rw [Int.add_comm]
  · split <;> split <;> omega
theorem mg_as {g m a b c : Int} (ha : vO g m a) (hb : vO g m b) (hc : vO g m c) : mg g (mg g a b) c = mg g a (mg g b c) := by
  rcases ha with ⟨rfl, a1, a2⟩ | ⟨rfl, a1⟩
  · have b1 : 0 ≤ b := by rcases hb with w | w <;> omega
    have c1 : 0 ≤ c := by rcases hc with w | w <;> omega
    show (if 1000000000 < (if 1000000000 < a + b then 1000000000 else a + b) + c then 1000000000 else (if 1000000000 < a + b then 1000000000 else a + b) + c) = (if 1000000000 < a + (if 1000000000 < b + c then 1000000000 else b + c) then 1000000000 else a + (if 1000000000 < b + c then 1000000000 else b + c))
    omega
  · show (if (if a < b then b else a) < c then c else (if a < b then b else a)) = (if a < (if b < c then c else b) then (if b < c then c else b) else a)
    omega
theorem xrun_congr {E E' c : Int → Int} {a : Int} : ∀ n : Nat, (∀ i : Nat, i < n → (-8 ≤ c (a + i) ∧ c (a + i) ≤ -1) → E (-(c (a + i))) = E' (-(c (a + i)))) → xrun E c a n = xrun E' c a n
  | 0, _ => rfl
  | n + 1, h => by
    have ih := xrun_congr n (fun i hi => h i (by omega))
    have hn := h n (by omega)
    show xs1 E (c (a + n)) (xrun E c a n) = xs1 E' (c (a + n)) (xrun E' c a n)
    rw [ih]
    unfold xs1
    split
    · rfl
    · split
      · rw [hn (by omega)]
      · rfl
section
variable {M M' D : Int → Int → Int} {W : Int → Int → Int → Int} {R : Int} {d : Nat} {Q : AV → am_S → Prop}
theorem Ev_78 {a t k b n g n' g' j : Int} (h7 : j = 7 → n = n') (h8 : j ≠ 7 → 8 ≤ j → g = g') (h1 : 1 ≤ j) : Ev D a t k b n g j = Ev D a t k b n' g' j := by
  unfold Ev
  split; · rfl
  split; · rfl
  split; · rfl
  split; · rfl
  split; · rfl
  split; · rfl
  split
  · rename_i z; exact h7 z
  · rename_i z1 z2 z3 z4 z5 z6 z7
    exact h8 z7 (by omega)
theorem gd_ind {b t k c n g n' g' : Int} (ha : WFa D) (hV : WFc D) (hk : 0 ≤ k ∧ k < D 0 2) (h16 : D 16 k = 0 ∨ n = n') (h17 : D 17 k = 0 ∨ g = g') : gd D b t k c n g = gd D b t k c n' g' ∧ wth D b t k c n g = wth D b t k c n' g' := by
  have aw := ha k hk.1 hk.2
  have V := hV k hk.1 hk.2
  have key : ∀ a b' : Int, D 9 k ≤ a → b' ≤ D 11 k → a ≤ b' → xval (Ev D b t k c n g) (D 12) a b' = xval (Ev D b t k c n' g') (D 12) a b' := by
    intro a b' h1 h2 h3
    unfold xval
    rw [xrun_congr (E := Ev D b t k c n g) (E' := Ev D b t k c n' g') (b' - a).toNat (fun i hi hr => Ev_78 (fun z => ?_) (fun z z2 => ?_) (by omega))]
    · rcases h16 with w | w
      · exact absurd (show D 12 (a + i) = -7 by omega) (aw.2.2.1 w (a + i) (by omega) (by omega))
      · exact w
    · rcases h17 with w | w
      · exact absurd (show D 12 (a + i) = -8 by omega) (aw.2.2.2 w (a + i) (by omega) (by omega))
      · exact w
  refine ⟨?_, ?_⟩
  · unfold gd tst
    rw [key _ _ (by omega) (Int.le_refl _) (by omega)]
  · unfold wth
    rw [key _ _ (Int.le_refl _) (by omega) (by omega)]
/-- a flight's worth; -1: it is not good -/
def wO (D : Int → Int → Int) (b t k c n g : Int) : Int := if gd D b t k c n g = 1 then wth D b t k c n g else -1
theorem wO_in (D : Int → Int → Int) (b t k c n g : Int) : -1 ≤ wO D b t k c n g ∧ wO D b t k c n g ≤ 1000 ∧ (wO D b t k c n g = -1 ↔ gd D b t k c n g ≠ 1) := by
  have := wth_in D b t k c n g
  unfold wO
  split
  · rename_i z; exact ⟨by omega, by omega, ⟨fun w => by omega, fun w => absurd z w⟩⟩
  · rename_i z; exact ⟨by omega, by omega, ⟨fun _ => z, fun _ => rfl⟩⟩
theorem k_worthOf {b t k c n g : Int} (hG : CG M D R) (hA : CA M D R) (ha : WFa D) (e6 : M 50 6 = R) (hb : 0 ≤ b ∧ b < D 0 0) (ht : 0 ≤ t ∧ t ≤ 80) (hk : 0 ≤ k ∧ k < D 0 2) (hc : 0 ≤ c ∧ c < D 0 0) (ok : okL D b t k c) (hn : 0 ≤ n ∧ n ≤ 8) (hg : 0 ≤ g ∧ g ≤ 1) (h : ∀ M', CSc 51 M M' → CG M' D R → Q (vI (wO D b t k c n g)) (am_SH, M')) : am_Call (d + 5) m_Search_worthOf 0 0 [vR 50, vI (enL D b t k c), vI (81 * b + t), vI n, vI g] (am_SH, M) Q := by
  have hC := hG.P
  have hR := hG.r
  have hd0 := hG.W.1
  have hd2 := hG.W.2.2.1
  have hE : isE 51 := Or.inr rfl
  have en := enL_in (D := D) (b := b) (t := t) (k := k) (c := c) (by omega) (by omega)
  have aw := ha k hk.1 hk.2
  have wi := wth_in D b t k c 0 0
  have e64 : am_shr (enL D b t k c) 6 = enL D b t k c / 64 := am_shr_6 (by unfold am_i32; omega)
  have d81 : (81 * b + t).tdiv 81 = b := by rw [Int.tdiv_eq_ediv_of_nonneg (by omega)]; omega
  have m81 : (81 * b + t).tmod 81 = t := by rw [Int.tmod_eq_emod_of_nonneg (by omega)]; omega
  refine am_go B_Search_worthOf_0 rfl (Nat.le_of_ble_eq_true rfl) ?_
  simp only [b_Search_worthOf_0, kd_1, kd_2, ln_3, ll_3, kd_46, kd_47, ln_48, ll_48, ln_49, ll_49, kd_50, kd_51, ln_52, ll_52, ln_53, ll_53, ln_54, ll_54, ln_55, ll_55, ln_56, ll_56, ln_57, ll_57, ln_58, ll_58, kd_59, ln_60, ll_60, ln_61, ll_61, ln_62, ll_62, ln_63, ll_63, kd_64, ln_127, ll_127, ln_128, ll_128, ln_129, ll_129, ln_130, ll_130, ln_131, ll_131, ln_132, ll_132, ln_133, ll_133, ln_134, ll_134, kd_135, ln_136, ll_136, pc_1_0 hC, pc_1_3 hC, pc_1_4 hC, pc_1_5 hC, pc_1_6 hC, pc_1_7 hC, pc_1_8 hC, pc_2_0 hC, pc_46_0 hC, pc_50_0 hC, pc_50_1 hC, pc_50_2 hC, pc_50_3 hC, pc_50_4 hC, pc_50_5 hC, pc_64_2 hC, pc_64_3 hC, pc_135_0 hC, am_up_eq, Int.reduceEq, Int.reduceLT, Int.reduceLE, Int.reduceNeg, if_true, if_false, c_const, c_lconst, c_ref, c_iload, c_lload, c_aload, c_istore, c_lstore, c_astore, c_iinc, c_iadd, c_isub, c_imul, c_ladd, c_lsub, c_lmul, c_idiv, c_irem, c_ldiv, c_lrem, c_iand, c_ior, c_ixor, c_ishl, c_ishr, c_ineg, c_i2l, c_l2i, c_i2c, c_lcmp, c_dup, c_pop, c_dup2, c_at, c_icmp_eq, c_icmp_ne, c_icmp_lt, c_icmp_ge, c_icmp_gt, c_icmp_le, c_if_eq, c_if_ne, c_if_lt, c_if_ge, c_if_gt, c_if_le, c_ifnull, c_ifnonnull, am_swK, c_sw, c_iret, c_zret, c_cret, c_bret, c_lret, c_aret, c_vret, c_getI, c_getR, c_putI, c_putZ, c_putR, c_iald, c_zald, c_cald, c_lald, c_oald, c_gald, c_iast, c_zast, c_cast, c_last, c_oast, c_alen, c_callS0, c_callS1, c_callS2, c_callS3, c_callS4, c_callS5, c_callS6, c_callS7, c_callV0, c_callV1, c_callV2, c_callV3, c_callV4, c_callV5, c_callV6, c_callV7, c_callT0, c_callT1, am_nx_eq, am_set, am_set2, am_clr, am_isL, am_push, am_w, am_ent, am_ent1, List.getElem?_cons_zero, List.getElem?_cons_succ, List.set_cons_zero, List.set_cons_succ, List.getD_cons_zero, List.getD_cons_succ, List.cons_append, List.nil_append, List.append_nil, List.replicate_succ, List.replicate_zero, Nat.reduceAdd, Nat.reduceSub, Nat.reduceLeDiff, Bool.false_eq_true, reduceIte, true_and, and_true, true_or, or_true, or_self, am_i32, am_i64, bz_0, bz_01, bz_em, bz_n0, Classical.not_not, am_cmp_lt0, am_cmp_gt0, am_cmp_eq0, am_cmp_ge0, am_cmp_le0, am_cmp_ne0]
  rw [e64, en.2.2.2.2]
  refine ⟨fun q => ?_, fun q => ?_⟩
  · simp only [b_Search_worthOf_17, b_Search_worthOf_64, e6, d81, m81, kd_1, kd_2, ln_3, ll_3, kd_46, kd_47, ln_48, ll_48, ln_49, ll_49, kd_50, kd_51, ln_52, ll_52, ln_53, ll_53, ln_54, ll_54, ln_55, ll_55, ln_56, ll_56, ln_57, ll_57, ln_58, ll_58, kd_59, ln_60, ll_60, ln_61, ll_61, ln_62, ll_62, ln_63, ll_63, kd_64, ln_127, ll_127, ln_128, ll_128, ln_129, ll_129, ln_130, ll_130, ln_131, ll_131, ln_132, ll_132, ln_133, ll_133, ln_134, ll_134, kd_135, ln_136, ll_136, pc_1_0 hC, pc_1_3 hC, pc_1_4 hC, pc_1_5 hC, pc_1_6 hC, pc_1_7 hC, pc_1_8 hC, pc_2_0 hC, pc_46_0 hC, pc_50_0 hC, pc_50_1 hC, pc_50_2 hC, pc_50_3 hC, pc_50_4 hC, pc_50_5 hC, pc_64_2 hC, pc_64_3 hC, pc_135_0 hC, am_up_eq, Int.reduceEq, Int.reduceLT, Int.reduceLE, Int.reduceNeg, if_true, if_false, c_const, c_lconst, c_ref, c_iload, c_lload, c_aload, c_istore, c_lstore, c_astore, c_iinc, c_iadd, c_isub, c_imul, c_ladd, c_lsub, c_lmul, c_idiv, c_irem, c_ldiv, c_lrem, c_iand, c_ior, c_ixor, c_ishl, c_ishr, c_ineg, c_i2l, c_l2i, c_i2c, c_lcmp, c_dup, c_pop, c_dup2, c_at, c_icmp_eq, c_icmp_ne, c_icmp_lt, c_icmp_ge, c_icmp_gt, c_icmp_le, c_if_eq, c_if_ne, c_if_lt, c_if_ge, c_if_gt, c_if_le, c_ifnull, c_ifnonnull, am_swK, c_sw, c_iret, c_zret, c_cret, c_bret, c_lret, c_aret, c_vret, c_getI, c_getR, c_putI, c_putZ, c_putR, c_iald, c_zald, c_cald, c_lald, c_oald, c_gald, c_iast, c_zast, c_cast, c_last, c_oast, c_alen, c_callS0, c_callS1, c_callS2, c_callS3, c_callS4, c_callS5, c_callS6, c_callS7, c_callV0, c_callV1, c_callV2, c_callV3, c_callV4, c_callV5, c_callV6, c_callV7, c_callT0, c_callT1, am_nx_eq, am_set, am_set2, am_clr, am_isL, am_push, am_w, am_ent, am_ent1, List.getElem?_cons_zero, List.getElem?_cons_succ, List.set_cons_zero, List.set_cons_succ, List.getD_cons_zero, List.getD_cons_succ, List.cons_append, List.nil_append, List.append_nil, List.replicate_succ, List.replicate_zero, Nat.reduceAdd, Nat.reduceSub, Nat.reduceLeDiff, Bool.false_eq_true, reduceIte, true_and, and_true, true_or, or_true, or_self, am_i32, am_i64, bz_0, bz_01, bz_em, bz_n0, Classical.not_not, am_cmp_lt0, am_cmp_gt0, am_cmp_eq0, am_cmp_ge0, am_cmp_le0, am_cmp_ne0]
    refine ⟨by decide, by omega, by decide, k_trickOf (by omega) ?_⟩
    rw [en.2.2.1]
    simp only [kd_1, kd_2, ln_3, ll_3, kd_46, kd_47, ln_48, ll_48, ln_49, ll_49, kd_50, kd_51, ln_52, ll_52, ln_53, ll_53, ln_54, ll_54, ln_55, ll_55, ln_56, ll_56, ln_57, ll_57, ln_58, ll_58, kd_59, ln_60, ll_60, ln_61, ll_61, ln_62, ll_62, ln_63, ll_63, kd_64, ln_127, ll_127, ln_128, ll_128, ln_129, ll_129, ln_130, ll_130, ln_131, ll_131, ln_132, ll_132, ln_133, ll_133, ln_134, ll_134, kd_135, ln_136, ll_136, pc_1_0 hC, pc_1_3 hC, pc_1_4 hC, pc_1_5 hC, pc_1_6 hC, pc_1_7 hC, pc_1_8 hC, pc_2_0 hC, pc_46_0 hC, pc_50_0 hC, pc_50_1 hC, pc_50_2 hC, pc_50_3 hC, pc_50_4 hC, pc_50_5 hC, pc_64_2 hC, pc_64_3 hC, pc_135_0 hC, am_up_eq, Int.reduceEq, Int.reduceLT, Int.reduceLE, Int.reduceNeg, if_true, if_false, c_const, c_lconst, c_ref, c_iload, c_lload, c_aload, c_istore, c_lstore, c_astore, c_iinc, c_iadd, c_isub, c_imul, c_ladd, c_lsub, c_lmul, c_idiv, c_irem, c_ldiv, c_lrem, c_iand, c_ior, c_ixor, c_ishl, c_ishr, c_ineg, c_i2l, c_l2i, c_i2c, c_lcmp, c_dup, c_pop, c_dup2, c_at, c_icmp_eq, c_icmp_ne, c_icmp_lt, c_icmp_ge, c_icmp_gt, c_icmp_le, c_if_eq, c_if_ne, c_if_lt, c_if_ge, c_if_gt, c_if_le, c_ifnull, c_ifnonnull, am_swK, c_sw, c_iret, c_zret, c_cret, c_bret, c_lret, c_aret, c_vret, c_getI, c_getR, c_putI, c_putZ, c_putR, c_iald, c_zald, c_cald, c_lald, c_oald, c_gald, c_iast, c_zast, c_cast, c_last, c_oast, c_alen, c_callS0, c_callS1, c_callS2, c_callS3, c_callS4, c_callS5, c_callS6, c_callS7, c_callV0, c_callV1, c_callV2, c_callV3, c_callV4, c_callV5, c_callV6, c_callV7, c_callT0, c_callT1, am_nx_eq, am_set, am_set2, am_clr, am_isL, am_push, am_w, am_ent, am_ent1, List.getElem?_cons_zero, List.getElem?_cons_succ, List.set_cons_zero, List.set_cons_succ, List.getD_cons_zero, List.getD_cons_succ, List.cons_append, List.nil_append, List.append_nil, List.replicate_succ, List.replicate_zero, Nat.reduceAdd, Nat.reduceSub, Nat.reduceLeDiff, Bool.false_eq_true, reduceIte, true_and, and_true, true_or, or_true, or_self, am_i32, am_i64, bz_0, bz_01, bz_em, bz_n0, Classical.not_not, am_cmp_lt0, am_cmp_gt0, am_cmp_eq0, am_cmp_ge0, am_cmp_le0, am_cmp_ne0]
    refine k_barOf (by omega) ?_
    rw [en.2.2.2.1]
    simp only [kr_0 hR, kr_1 hR, lr_2 hR, mr_2 hR, lr_3 hR, mr_3 hR, lr_4 hR, mr_4 hR, lr_5 hR, mr_5 hR, lr_6 hR, mr_6 hR, lr_7 hR, mr_7 hR, kr_8 hR, lr_9 hR, mr_9 hR, lr_10 hR, mr_10 hR, kr_11 hR, lr_12 hR, mr_12 hR, lr_13 hR, mr_13 hR, lr_14 hR, mr_14 hR, lr_15 hR, mr_15 hR, lr_16 hR, mr_16 hR, lr_17 hR, mr_17 hR, lr_18 hR, mr_18 hR, lr_19 hR, mr_19 hR, lr_20 hR, mr_20 hR, pr_0 hC hR, pr_1 hC hR, pr_2 hC hR, pr1_0 hC hR, pr1_1 hC hR, pr1_2 hC hR, pr1_3 hC hR, pr1_4 hC hR, pr1_5 hC hR, pr8_0 hC hR, pr8_1 hC hR, prt_0 hC hR, prt_1 hC hR, prt_2 hC hR, prt_3 hC hR, prt_4 hC hR, prt_5 hC hR, prt_6 hC hR, prt_7 hC hR, prt_8 hC hR, kd_1, kd_2, ln_3, ll_3, kd_46, kd_47, ln_48, ll_48, ln_49, ll_49, kd_50, kd_51, ln_52, ll_52, ln_53, ll_53, ln_54, ll_54, ln_55, ll_55, ln_56, ll_56, ln_57, ll_57, ln_58, ll_58, kd_59, ln_60, ll_60, ln_61, ll_61, ln_62, ll_62, ln_63, ll_63, kd_64, ln_127, ll_127, ln_128, ll_128, ln_129, ll_129, ln_130, ll_130, ln_131, ll_131, ln_132, ll_132, ln_133, ll_133, ln_134, ll_134, kd_135, ln_136, ll_136, pc_1_0 hC, pc_1_3 hC, pc_1_4 hC, pc_1_5 hC, pc_1_6 hC, pc_1_7 hC, pc_1_8 hC, pc_2_0 hC, pc_46_0 hC, pc_50_0 hC, pc_50_1 hC, pc_50_2 hC, pc_50_3 hC, pc_50_4 hC, pc_50_5 hC, pc_64_2 hC, pc_64_3 hC, pc_135_0 hC, am_up_eq, Int.reduceEq, Int.reduceLT, Int.reduceLE, Int.reduceNeg, if_true, if_false, c_const, c_lconst, c_ref, c_iload, c_lload, c_aload, c_istore, c_lstore, c_astore, c_iinc, c_iadd, c_isub, c_imul, c_ladd, c_lsub, c_lmul, c_idiv, c_irem, c_ldiv, c_lrem, c_iand, c_ior, c_ixor, c_ishl, c_ishr, c_ineg, c_i2l, c_l2i, c_i2c, c_lcmp, c_dup, c_pop, c_dup2, c_at, c_icmp_eq, c_icmp_ne, c_icmp_lt, c_icmp_ge, c_icmp_gt, c_icmp_le, c_if_eq, c_if_ne, c_if_lt, c_if_ge, c_if_gt, c_if_le, c_ifnull, c_ifnonnull, am_swK, c_sw, c_iret, c_zret, c_cret, c_bret, c_lret, c_aret, c_vret, c_getI, c_getR, c_putI, c_putZ, c_putR, c_iald, c_zald, c_cald, c_lald, c_oald, c_gald, c_iast, c_zast, c_cast, c_last, c_oast, c_alen, c_callS0, c_callS1, c_callS2, c_callS3, c_callS4, c_callS5, c_callS6, c_callS7, c_callV0, c_callV1, c_callV2, c_callV3, c_callV4, c_callV5, c_callV6, c_callV7, c_callT0, c_callT1, am_nx_eq, am_set, am_set2, am_clr, am_isL, am_push, am_w, am_ent, am_ent1, List.getElem?_cons_zero, List.getElem?_cons_succ, List.set_cons_zero, List.set_cons_succ, List.getD_cons_zero, List.getD_cons_succ, List.cons_append, List.nil_append, List.append_nil, List.replicate_succ, List.replicate_zero, Nat.reduceAdd, Nat.reduceSub, Nat.reduceLeDiff, Bool.false_eq_true, reduceIte, true_and, and_true, true_or, or_true, or_self, am_i32, am_i64, bz_0, bz_01, bz_em, bz_n0, Classical.not_not, am_cmp_lt0, am_cmp_gt0, am_cmp_eq0, am_cmp_ge0, am_cmp_le0, am_cmp_ne0]
    refine k_aim hG hE ht.1 (by omega) (fun fl M1 s1 g1 a1 => ?_) (fun fl => absurd ⟨hb, hk, hc, fun w => ok.1 w.symm⟩ fl)
    have hC := g1.P
    simp only [b_Search_worthOf_64, kd_1, kd_2, ln_3, ll_3, kd_46, kd_47, ln_48, ll_48, ln_49, ll_49, kd_50, kd_51, ln_52, ll_52, ln_53, ll_53, ln_54, ll_54, ln_55, ll_55, ln_56, ll_56, ln_57, ll_57, ln_58, ll_58, kd_59, ln_60, ll_60, ln_61, ll_61, ln_62, ll_62, ln_63, ll_63, kd_64, ln_127, ll_127, ln_128, ll_128, ln_129, ll_129, ln_130, ll_130, ln_131, ll_131, ln_132, ll_132, ln_133, ll_133, ln_134, ll_134, kd_135, ln_136, ll_136, pc_1_0 hC, pc_1_3 hC, pc_1_4 hC, pc_1_5 hC, pc_1_6 hC, pc_1_7 hC, pc_1_8 hC, pc_2_0 hC, pc_46_0 hC, pc_50_0 hC, pc_50_1 hC, pc_50_2 hC, pc_50_3 hC, pc_50_4 hC, pc_50_5 hC, pc_64_2 hC, pc_64_3 hC, pc_135_0 hC, am_up_eq, Int.reduceEq, Int.reduceLT, Int.reduceLE, Int.reduceNeg, if_true, if_false, c_const, c_lconst, c_ref, c_iload, c_lload, c_aload, c_istore, c_lstore, c_astore, c_iinc, c_iadd, c_isub, c_imul, c_ladd, c_lsub, c_lmul, c_idiv, c_irem, c_ldiv, c_lrem, c_iand, c_ior, c_ixor, c_ishl, c_ishr, c_ineg, c_i2l, c_l2i, c_i2c, c_lcmp, c_dup, c_pop, c_dup2, c_at, c_icmp_eq, c_icmp_ne, c_icmp_lt, c_icmp_ge, c_icmp_gt, c_icmp_le, c_if_eq, c_if_ne, c_if_lt, c_if_ge, c_if_gt, c_if_le, c_ifnull, c_ifnonnull, am_swK, c_sw, c_iret, c_zret, c_cret, c_bret, c_lret, c_aret, c_vret, c_getI, c_getR, c_putI, c_putZ, c_putR, c_iald, c_zald, c_cald, c_lald, c_oald, c_gald, c_iast, c_zast, c_cast, c_last, c_oast, c_alen, c_callS0, c_callS1, c_callS2, c_callS3, c_callS4, c_callS5, c_callS6, c_callS7, c_callV0, c_callV1, c_callV2, c_callV3, c_callV4, c_callV5, c_callV6, c_callV7, c_callT0, c_callT1, am_nx_eq, am_set, am_set2, am_clr, am_isL, am_push, am_w, am_ent, am_ent1, List.getElem?_cons_zero, List.getElem?_cons_succ, List.set_cons_zero, List.set_cons_succ, List.getD_cons_zero, List.getD_cons_succ, List.cons_append, List.nil_append, List.append_nil, List.replicate_succ, List.replicate_zero, Nat.reduceAdd, Nat.reduceSub, Nat.reduceLeDiff, Bool.false_eq_true, reduceIte, true_and, and_true, true_or, or_true, or_self, am_i32, am_i64, bz_0, bz_01, bz_em, bz_n0, Classical.not_not, am_cmp_lt0, am_cmp_gt0, am_cmp_eq0, am_cmp_ge0, am_cmp_le0, am_cmp_ne0]
    try simp only [Int.reduceEq, Int.reduceLT, Int.reduceLE, Int.reduceNeg, not_true_eq_false, not_false_eq_true, false_implies, true_implies, implies_true, true_and, and_true]
    refine k_isGood g1 hE fl.fl a1 ht.1 (by omega) hn.1 hn.2 hg.1 hg.2 (fun M2 r s2 g2 a2 hr => ?_)
    have hC := g2.P
    have r2 := gd_in D b t k c n g
    rw [← hr] at r2
    simp only [b_Search_worthOf_64, b_Search_worthOf_65, b_Search_worthOf_85, b_Search_worthOf_86, kd_1, kd_2, ln_3, ll_3, kd_46, kd_47, ln_48, ll_48, ln_49, ll_49, kd_50, kd_51, ln_52, ll_52, ln_53, ll_53, ln_54, ll_54, ln_55, ll_55, ln_56, ll_56, ln_57, ll_57, ln_58, ll_58, kd_59, ln_60, ll_60, ln_61, ll_61, ln_62, ll_62, ln_63, ll_63, kd_64, ln_127, ll_127, ln_128, ll_128, ln_129, ll_129, ln_130, ll_130, ln_131, ll_131, ln_132, ll_132, ln_133, ll_133, ln_134, ll_134, kd_135, ln_136, ll_136, pc_1_0 hC, pc_1_3 hC, pc_1_4 hC, pc_1_5 hC, pc_1_6 hC, pc_1_7 hC, pc_1_8 hC, pc_2_0 hC, pc_46_0 hC, pc_50_0 hC, pc_50_1 hC, pc_50_2 hC, pc_50_3 hC, pc_50_4 hC, pc_50_5 hC, pc_64_2 hC, pc_64_3 hC, pc_135_0 hC, am_up_eq, Int.reduceEq, Int.reduceLT, Int.reduceLE, Int.reduceNeg, if_true, if_false, c_const, c_lconst, c_ref, c_iload, c_lload, c_aload, c_istore, c_lstore, c_astore, c_iinc, c_iadd, c_isub, c_imul, c_ladd, c_lsub, c_lmul, c_idiv, c_irem, c_ldiv, c_lrem, c_iand, c_ior, c_ixor, c_ishl, c_ishr, c_ineg, c_i2l, c_l2i, c_i2c, c_lcmp, c_dup, c_pop, c_dup2, c_at, c_icmp_eq, c_icmp_ne, c_icmp_lt, c_icmp_ge, c_icmp_gt, c_icmp_le, c_if_eq, c_if_ne, c_if_lt, c_if_ge, c_if_gt, c_if_le, c_ifnull, c_ifnonnull, am_swK, c_sw, c_iret, c_zret, c_cret, c_bret, c_lret, c_aret, c_vret, c_getI, c_getR, c_putI, c_putZ, c_putR, c_iald, c_zald, c_cald, c_lald, c_oald, c_gald, c_iast, c_zast, c_cast, c_last, c_oast, c_alen, c_callS0, c_callS1, c_callS2, c_callS3, c_callS4, c_callS5, c_callS6, c_callS7, c_callV0, c_callV1, c_callV2, c_callV3, c_callV4, c_callV5, c_callV6, c_callV7, c_callT0, c_callT1, am_nx_eq, am_set, am_set2, am_clr, am_isL, am_push, am_w, am_ent, am_ent1, List.getElem?_cons_zero, List.getElem?_cons_succ, List.set_cons_zero, List.set_cons_succ, List.getD_cons_zero, List.getD_cons_succ, List.cons_append, List.nil_append, List.append_nil, List.replicate_succ, List.replicate_zero, Nat.reduceAdd, Nat.reduceSub, Nat.reduceLeDiff, Bool.false_eq_true, reduceIte, true_and, and_true, true_or, or_true, or_self, am_i32, am_i64, bz_0, bz_01, bz_em, bz_n0, Classical.not_not, am_cmp_lt0, am_cmp_gt0, am_cmp_eq0, am_cmp_ge0, am_cmp_le0, am_cmp_ne0]
    try simp only [Int.reduceEq, Int.reduceLT, Int.reduceLE, Int.reduceNeg, not_true_eq_false, not_false_eq_true, false_implies, true_implies, implies_true, true_and, and_true]
    refine ⟨fun z => ?_, fun z => k_worthBy g2 hE fl.fl a2 ht.1 (by omega) hn.1 hn.2 hg.1 hg.2 (fun M3 s3 g3 a3 => ?_)⟩
    · refine am_v (h M2 (s1.tr s2.sc) g2) ?_
      unfold wO
      rw [if_neg (by omega)]
    · simp only [b_Search_worthOf_86, kd_1, kd_2, ln_3, ll_3, kd_46, kd_47, ln_48, ll_48, ln_49, ll_49, kd_50, kd_51, ln_52, ll_52, ln_53, ll_53, ln_54, ll_54, ln_55, ll_55, ln_56, ll_56, ln_57, ll_57, ln_58, ll_58, kd_59, ln_60, ll_60, ln_61, ll_61, ln_62, ll_62, ln_63, ll_63, kd_64, ln_127, ll_127, ln_128, ll_128, ln_129, ll_129, ln_130, ll_130, ln_131, ll_131, ln_132, ll_132, ln_133, ll_133, ln_134, ll_134, kd_135, ln_136, ll_136, pc_1_0 hC, pc_1_3 hC, pc_1_4 hC, pc_1_5 hC, pc_1_6 hC, pc_1_7 hC, pc_1_8 hC, pc_2_0 hC, pc_46_0 hC, pc_50_0 hC, pc_50_1 hC, pc_50_2 hC, pc_50_3 hC, pc_50_4 hC, pc_50_5 hC, pc_64_2 hC, pc_64_3 hC, pc_135_0 hC, am_up_eq, Int.reduceEq, Int.reduceLT, Int.reduceLE, Int.reduceNeg, if_true, if_false, c_const, c_lconst, c_ref, c_iload, c_lload, c_aload, c_istore, c_lstore, c_astore, c_iinc, c_iadd, c_isub, c_imul, c_ladd, c_lsub, c_lmul, c_idiv, c_irem, c_ldiv, c_lrem, c_iand, c_ior, c_ixor, c_ishl, c_ishr, c_ineg, c_i2l, c_l2i, c_i2c, c_lcmp, c_dup, c_pop, c_dup2, c_at, c_icmp_eq, c_icmp_ne, c_icmp_lt, c_icmp_ge, c_icmp_gt, c_icmp_le, c_if_eq, c_if_ne, c_if_lt, c_if_ge, c_if_gt, c_if_le, c_ifnull, c_ifnonnull, am_swK, c_sw, c_iret, c_zret, c_cret, c_bret, c_lret, c_aret, c_vret, c_getI, c_getR, c_putI, c_putZ, c_putR, c_iald, c_zald, c_cald, c_lald, c_oald, c_gald, c_iast, c_zast, c_cast, c_last, c_oast, c_alen, c_callS0, c_callS1, c_callS2, c_callS3, c_callS4, c_callS5, c_callS6, c_callS7, c_callV0, c_callV1, c_callV2, c_callV3, c_callV4, c_callV5, c_callV6, c_callV7, c_callT0, c_callT1, am_nx_eq, am_set, am_set2, am_clr, am_isL, am_push, am_w, am_ent, am_ent1, List.getElem?_cons_zero, List.getElem?_cons_succ, List.set_cons_zero, List.set_cons_succ, List.getD_cons_zero, List.getD_cons_succ, List.cons_append, List.nil_append, List.append_nil, List.replicate_succ, List.replicate_zero, Nat.reduceAdd, Nat.reduceSub, Nat.reduceLeDiff, Bool.false_eq_true, reduceIte, true_and, and_true, true_or, or_true, or_self, am_i32, am_i64, bz_0, bz_01, bz_em, bz_n0, Classical.not_not, am_cmp_lt0, am_cmp_gt0, am_cmp_eq0, am_cmp_ge0, am_cmp_le0, am_cmp_ne0]
      refine am_v (h M3 (s1.tr (s2.sc.tr s3.sc)) g3) ?_
      unfold wO
      rw [if_pos (by omega)]
  · have nv : ¬ (D 16 k = 1 ∨ D 17 k = 1) := fun w => q (by rw [if_pos w])
    rw [if_neg nv]
    have gi := gd_ind (b := b) (t := t) (c := c) (n := n) (g := g) (n' := 0) (g' := 0) ha hG.V hk (Or.inl (by omega)) (Or.inl (by omega))
    refine am_v (h M (CSc.rf _ _) hG) ?_
    unfold wO
    rw [gi.1, gi.2, if_pos (by have := ok.2.2.2; omega)]
theorem k_landing {b t k c nb nt y : Int} (hG : CG M D R) (e6 : M 50 6 = R) (e11 : M 50 11 = y) (e12 : M 50 12 = nb) (e13 : M 50 13 = nt) (hb : 0 ≤ b ∧ b < D 0 0) (ht : 0 ≤ t ∧ t ≤ 80) (hk : 0 ≤ k ∧ k < D 0 2) (hc : 0 ≤ c ∧ c < D 0 0) (h : Q (vI (if k = nt ∨ c = nb ∨ y < t + D 7 k then -1 else 81 * c + (t + D 7 k))) (am_SH, M)) : am_Call (d + 3) m_Search_landing 0 0 [vR 50, vI (enL D b t k c), vI (81 * b + t)] (am_SH, M) Q := by
  have hC := hG.P
  have hR := hG.r
  have hd0 := hG.W.1
  have hd2 := hG.W.2.2.1
  have w7 := (hG.W.2.2.2.2.2 k hk.1 hk.2).1
  have en := enL_in (D := D) (b := b) (t := t) (k := k) (c := c) (by omega) (by omega)
  have m81 : (81 * b + t).tmod 81 = t := by rw [Int.tmod_eq_emod_of_nonneg (by omega)]; omega
  refine am_go B_Search_landing_0 rfl (Nat.le_of_ble_eq_true rfl) ?_
  simp only [b_Search_landing_0, b_Search_landing_51, kd_1, kd_2, ln_3, ll_3, kd_46, kd_47, ln_48, ll_48, ln_49, ll_49, kd_50, kd_51, ln_52, ll_52, ln_53, ll_53, ln_54, ll_54, ln_55, ll_55, ln_56, ll_56, ln_57, ll_57, ln_58, ll_58, kd_59, ln_60, ll_60, ln_61, ll_61, ln_62, ll_62, ln_63, ll_63, kd_64, ln_127, ll_127, ln_128, ll_128, ln_129, ll_129, ln_130, ll_130, ln_131, ll_131, ln_132, ll_132, ln_133, ll_133, ln_134, ll_134, kd_135, ln_136, ll_136, pc_1_0 hC, pc_1_3 hC, pc_1_4 hC, pc_1_5 hC, pc_1_6 hC, pc_1_7 hC, pc_1_8 hC, pc_2_0 hC, pc_46_0 hC, pc_50_0 hC, pc_50_1 hC, pc_50_2 hC, pc_50_3 hC, pc_50_4 hC, pc_50_5 hC, pc_64_2 hC, pc_64_3 hC, pc_135_0 hC, am_up_eq, Int.reduceEq, Int.reduceLT, Int.reduceLE, Int.reduceNeg, if_true, if_false, c_const, c_lconst, c_ref, c_iload, c_lload, c_aload, c_istore, c_lstore, c_astore, c_iinc, c_iadd, c_isub, c_imul, c_ladd, c_lsub, c_lmul, c_idiv, c_irem, c_ldiv, c_lrem, c_iand, c_ior, c_ixor, c_ishl, c_ishr, c_ineg, c_i2l, c_l2i, c_i2c, c_lcmp, c_dup, c_pop, c_dup2, c_at, c_icmp_eq, c_icmp_ne, c_icmp_lt, c_icmp_ge, c_icmp_gt, c_icmp_le, c_if_eq, c_if_ne, c_if_lt, c_if_ge, c_if_gt, c_if_le, c_ifnull, c_ifnonnull, am_swK, c_sw, c_iret, c_zret, c_cret, c_bret, c_lret, c_aret, c_vret, c_getI, c_getR, c_putI, c_putZ, c_putR, c_iald, c_zald, c_cald, c_lald, c_oald, c_gald, c_iast, c_zast, c_cast, c_last, c_oast, c_alen, c_callS0, c_callS1, c_callS2, c_callS3, c_callS4, c_callS5, c_callS6, c_callS7, c_callV0, c_callV1, c_callV2, c_callV3, c_callV4, c_callV5, c_callV6, c_callV7, c_callT0, c_callT1, am_nx_eq, am_set, am_set2, am_clr, am_isL, am_push, am_w, am_ent, am_ent1, List.getElem?_cons_zero, List.getElem?_cons_succ, List.set_cons_zero, List.set_cons_succ, List.getD_cons_zero, List.getD_cons_succ, List.cons_append, List.nil_append, List.append_nil, List.replicate_succ, List.replicate_zero, Nat.reduceAdd, Nat.reduceSub, Nat.reduceLeDiff, Bool.false_eq_true, reduceIte, true_and, and_true, true_or, or_true, or_self, am_i32, am_i64, bz_0, bz_01, bz_em, bz_n0, Classical.not_not, am_cmp_lt0, am_cmp_gt0, am_cmp_eq0, am_cmp_ge0, am_cmp_le0, am_cmp_ne0]
  refine k_trickOf (by omega) ?_
  rw [en.2.2.1]
  simp only [b_Search_landing_51, e6, m81, kr_0 hR, kr_1 hR, lr_2 hR, mr_2 hR, lr_3 hR, mr_3 hR, lr_4 hR, mr_4 hR, lr_5 hR, mr_5 hR, lr_6 hR, mr_6 hR, lr_7 hR, mr_7 hR, kr_8 hR, lr_9 hR, mr_9 hR, lr_10 hR, mr_10 hR, kr_11 hR, lr_12 hR, mr_12 hR, lr_13 hR, mr_13 hR, lr_14 hR, mr_14 hR, lr_15 hR, mr_15 hR, lr_16 hR, mr_16 hR, lr_17 hR, mr_17 hR, lr_18 hR, mr_18 hR, lr_19 hR, mr_19 hR, lr_20 hR, mr_20 hR, pr_0 hC hR, pr_1 hC hR, pr_2 hC hR, pr1_0 hC hR, pr1_1 hC hR, pr1_2 hC hR, pr1_3 hC hR, pr1_4 hC hR, pr1_5 hC hR, pr8_0 hC hR, pr8_1 hC hR, prt_0 hC hR, prt_1 hC hR, prt_2 hC hR, prt_3 hC hR, prt_4 hC hR, prt_5 hC hR, prt_6 hC hR, prt_7 hC hR, prt_8 hC hR, kd_1, kd_2, ln_3, ll_3, kd_46, kd_47, ln_48, ll_48, ln_49, ll_49, kd_50, kd_51, ln_52, ll_52, ln_53, ll_53, ln_54, ll_54, ln_55, ll_55, ln_56, ll_56, ln_57, ll_57, ln_58, ll_58, kd_59, ln_60, ll_60, ln_61, ll_61, ln_62, ll_62, ln_63, ll_63, kd_64, ln_127, ll_127, ln_128, ll_128, ln_129, ll_129, ln_130, ll_130, ln_131, ll_131, ln_132, ll_132, ln_133, ll_133, ln_134, ll_134, kd_135, ln_136, ll_136, pc_1_0 hC, pc_1_3 hC, pc_1_4 hC, pc_1_5 hC, pc_1_6 hC, pc_1_7 hC, pc_1_8 hC, pc_2_0 hC, pc_46_0 hC, pc_50_0 hC, pc_50_1 hC, pc_50_2 hC, pc_50_3 hC, pc_50_4 hC, pc_50_5 hC, pc_64_2 hC, pc_64_3 hC, pc_135_0 hC, am_up_eq, Int.reduceEq, Int.reduceLT, Int.reduceLE, Int.reduceNeg, if_true, if_false, c_const, c_lconst, c_ref, c_iload, c_lload, c_aload, c_istore, c_lstore, c_astore, c_iinc, c_iadd, c_isub, c_imul, c_ladd, c_lsub, c_lmul, c_idiv, c_irem, c_ldiv, c_lrem, c_iand, c_ior, c_ixor, c_ishl, c_ishr, c_ineg, c_i2l, c_l2i, c_i2c, c_lcmp, c_dup, c_pop, c_dup2, c_at, c_icmp_eq, c_icmp_ne, c_icmp_lt, c_icmp_ge, c_icmp_gt, c_icmp_le, c_if_eq, c_if_ne, c_if_lt, c_if_ge, c_if_gt, c_if_le, c_ifnull, c_ifnonnull, am_swK, c_sw, c_iret, c_zret, c_cret, c_bret, c_lret, c_aret, c_vret, c_getI, c_getR, c_putI, c_putZ, c_putR, c_iald, c_zald, c_cald, c_lald, c_oald, c_gald, c_iast, c_zast, c_cast, c_last, c_oast, c_alen, c_callS0, c_callS1, c_callS2, c_callS3, c_callS4, c_callS5, c_callS6, c_callS7, c_callV0, c_callV1, c_callV2, c_callV3, c_callV4, c_callV5, c_callV6, c_callV7, c_callT0, c_callT1, am_nx_eq, am_set, am_set2, am_clr, am_isL, am_push, am_w, am_ent, am_ent1, List.getElem?_cons_zero, List.getElem?_cons_succ, List.set_cons_zero, List.set_cons_succ, List.getD_cons_zero, List.getD_cons_succ, List.cons_append, List.nil_append, List.append_nil, List.replicate_succ, List.replicate_zero, Nat.reduceAdd, Nat.reduceSub, Nat.reduceLeDiff, Bool.false_eq_true, reduceIte, true_and, and_true, true_or, or_true, or_self, am_i32, am_i64, bz_0, bz_01, bz_em, bz_n0, Classical.not_not, am_cmp_lt0, am_cmp_gt0, am_cmp_eq0, am_cmp_ge0, am_cmp_le0, am_cmp_ne0]
  refine ⟨by decide, k_ticksOf hG (fun v hv _ => ?_)⟩
  have hv := hv hk
  subst hv
  simp only [b_Search_landing_51, e13, kd_1, kd_2, ln_3, ll_3, kd_46, kd_47, ln_48, ll_48, ln_49, ll_49, kd_50, kd_51, ln_52, ll_52, ln_53, ll_53, ln_54, ll_54, ln_55, ll_55, ln_56, ll_56, ln_57, ll_57, ln_58, ll_58, kd_59, ln_60, ll_60, ln_61, ll_61, ln_62, ll_62, ln_63, ll_63, kd_64, ln_127, ll_127, ln_128, ll_128, ln_129, ll_129, ln_130, ll_130, ln_131, ll_131, ln_132, ll_132, ln_133, ll_133, ln_134, ll_134, kd_135, ln_136, ll_136, pc_1_0 hC, pc_1_3 hC, pc_1_4 hC, pc_1_5 hC, pc_1_6 hC, pc_1_7 hC, pc_1_8 hC, pc_2_0 hC, pc_46_0 hC, pc_50_0 hC, pc_50_1 hC, pc_50_2 hC, pc_50_3 hC, pc_50_4 hC, pc_50_5 hC, pc_64_2 hC, pc_64_3 hC, pc_135_0 hC, am_up_eq, Int.reduceEq, Int.reduceLT, Int.reduceLE, Int.reduceNeg, if_true, if_false, c_const, c_lconst, c_ref, c_iload, c_lload, c_aload, c_istore, c_lstore, c_astore, c_iinc, c_iadd, c_isub, c_imul, c_ladd, c_lsub, c_lmul, c_idiv, c_irem, c_ldiv, c_lrem, c_iand, c_ior, c_ixor, c_ishl, c_ishr, c_ineg, c_i2l, c_l2i, c_i2c, c_lcmp, c_dup, c_pop, c_dup2, c_at, c_icmp_eq, c_icmp_ne, c_icmp_lt, c_icmp_ge, c_icmp_gt, c_icmp_le, c_if_eq, c_if_ne, c_if_lt, c_if_ge, c_if_gt, c_if_le, c_ifnull, c_ifnonnull, am_swK, c_sw, c_iret, c_zret, c_cret, c_bret, c_lret, c_aret, c_vret, c_getI, c_getR, c_putI, c_putZ, c_putR, c_iald, c_zald, c_cald, c_lald, c_oald, c_gald, c_iast, c_zast, c_cast, c_last, c_oast, c_alen, c_callS0, c_callS1, c_callS2, c_callS3, c_callS4, c_callS5, c_callS6, c_callS7, c_callV0, c_callV1, c_callV2, c_callV3, c_callV4, c_callV5, c_callV6, c_callV7, c_callT0, c_callT1, am_nx_eq, am_set, am_set2, am_clr, am_isL, am_push, am_w, am_ent, am_ent1, List.getElem?_cons_zero, List.getElem?_cons_succ, List.set_cons_zero, List.set_cons_succ, List.getD_cons_zero, List.getD_cons_succ, List.cons_append, List.nil_append, List.append_nil, List.replicate_succ, List.replicate_zero, Nat.reduceAdd, Nat.reduceSub, Nat.reduceLeDiff, Bool.false_eq_true, reduceIte, true_and, and_true, true_or, or_true, or_self, am_i32, am_i64, bz_0, bz_01, bz_em, bz_n0, Classical.not_not, am_cmp_lt0, am_cmp_gt0, am_cmp_eq0, am_cmp_ge0, am_cmp_le0, am_cmp_ne0]
  refine ⟨by omega, fun z => ?_, fun z => k_barOf (by omega) ?_⟩
  · rwa [if_pos (Or.inl z)] at h
  · rw [en.2.2.2.1]
    simp only [b_Search_landing_51, b_Search_landing_53, e11, e12, kd_1, kd_2, ln_3, ll_3, kd_46, kd_47, ln_48, ll_48, ln_49, ll_49, kd_50, kd_51, ln_52, ll_52, ln_53, ll_53, ln_54, ll_54, ln_55, ll_55, ln_56, ll_56, ln_57, ll_57, ln_58, ll_58, kd_59, ln_60, ll_60, ln_61, ll_61, ln_62, ll_62, ln_63, ll_63, kd_64, ln_127, ll_127, ln_128, ll_128, ln_129, ll_129, ln_130, ll_130, ln_131, ll_131, ln_132, ll_132, ln_133, ll_133, ln_134, ll_134, kd_135, ln_136, ll_136, pc_1_0 hC, pc_1_3 hC, pc_1_4 hC, pc_1_5 hC, pc_1_6 hC, pc_1_7 hC, pc_1_8 hC, pc_2_0 hC, pc_46_0 hC, pc_50_0 hC, pc_50_1 hC, pc_50_2 hC, pc_50_3 hC, pc_50_4 hC, pc_50_5 hC, pc_64_2 hC, pc_64_3 hC, pc_135_0 hC, am_up_eq, Int.reduceEq, Int.reduceLT, Int.reduceLE, Int.reduceNeg, if_true, if_false, c_const, c_lconst, c_ref, c_iload, c_lload, c_aload, c_istore, c_lstore, c_astore, c_iinc, c_iadd, c_isub, c_imul, c_ladd, c_lsub, c_lmul, c_idiv, c_irem, c_ldiv, c_lrem, c_iand, c_ior, c_ixor, c_ishl, c_ishr, c_ineg, c_i2l, c_l2i, c_i2c, c_lcmp, c_dup, c_pop, c_dup2, c_at, c_icmp_eq, c_icmp_ne, c_icmp_lt, c_icmp_ge, c_icmp_gt, c_icmp_le, c_if_eq, c_if_ne, c_if_lt, c_if_ge, c_if_gt, c_if_le, c_ifnull, c_ifnonnull, am_swK, c_sw, c_iret, c_zret, c_cret, c_bret, c_lret, c_aret, c_vret, c_getI, c_getR, c_putI, c_putZ, c_putR, c_iald, c_zald, c_cald, c_lald, c_oald, c_gald, c_iast, c_zast, c_cast, c_last, c_oast, c_alen, c_callS0, c_callS1, c_callS2, c_callS3, c_callS4, c_callS5, c_callS6, c_callS7, c_callV0, c_callV1, c_callV2, c_callV3, c_callV4, c_callV5, c_callV6, c_callV7, c_callT0, c_callT1, am_nx_eq, am_set, am_set2, am_clr, am_isL, am_push, am_w, am_ent, am_ent1, List.getElem?_cons_zero, List.getElem?_cons_succ, List.set_cons_zero, List.set_cons_succ, List.getD_cons_zero, List.getD_cons_succ, List.cons_append, List.nil_append, List.append_nil, List.replicate_succ, List.replicate_zero, Nat.reduceAdd, Nat.reduceSub, Nat.reduceLeDiff, Bool.false_eq_true, reduceIte, true_and, and_true, true_or, or_true, or_self, am_i32, am_i64, bz_0, bz_01, bz_em, bz_n0, Classical.not_not, am_cmp_lt0, am_cmp_gt0, am_cmp_eq0, am_cmp_ge0, am_cmp_le0, am_cmp_ne0]
    refine ⟨fun z2 => ?_, fun z2 => ⟨fun z3 => k_barOf (by omega) ?_, fun z3 => ?_⟩⟩
    · rwa [if_pos (Or.inr (Or.inl z2))] at h
    · rw [en.2.2.2.1]
      simp only [kd_1, kd_2, ln_3, ll_3, kd_46, kd_47, ln_48, ll_48, ln_49, ll_49, kd_50, kd_51, ln_52, ll_52, ln_53, ll_53, ln_54, ll_54, ln_55, ll_55, ln_56, ll_56, ln_57, ll_57, ln_58, ll_58, kd_59, ln_60, ll_60, ln_61, ll_61, ln_62, ll_62, ln_63, ll_63, kd_64, ln_127, ll_127, ln_128, ll_128, ln_129, ll_129, ln_130, ll_130, ln_131, ll_131, ln_132, ll_132, ln_133, ll_133, ln_134, ll_134, kd_135, ln_136, ll_136, pc_1_0 hC, pc_1_3 hC, pc_1_4 hC, pc_1_5 hC, pc_1_6 hC, pc_1_7 hC, pc_1_8 hC, pc_2_0 hC, pc_46_0 hC, pc_50_0 hC, pc_50_1 hC, pc_50_2 hC, pc_50_3 hC, pc_50_4 hC, pc_50_5 hC, pc_64_2 hC, pc_64_3 hC, pc_135_0 hC, am_up_eq, Int.reduceEq, Int.reduceLT, Int.reduceLE, Int.reduceNeg, if_true, if_false, c_const, c_lconst, c_ref, c_iload, c_lload, c_aload, c_istore, c_lstore, c_astore, c_iinc, c_iadd, c_isub, c_imul, c_ladd, c_lsub, c_lmul, c_idiv, c_irem, c_ldiv, c_lrem, c_iand, c_ior, c_ixor, c_ishl, c_ishr, c_ineg, c_i2l, c_l2i, c_i2c, c_lcmp, c_dup, c_pop, c_dup2, c_at, c_icmp_eq, c_icmp_ne, c_icmp_lt, c_icmp_ge, c_icmp_gt, c_icmp_le, c_if_eq, c_if_ne, c_if_lt, c_if_ge, c_if_gt, c_if_le, c_ifnull, c_ifnonnull, am_swK, c_sw, c_iret, c_zret, c_cret, c_bret, c_lret, c_aret, c_vret, c_getI, c_getR, c_putI, c_putZ, c_putR, c_iald, c_zald, c_cald, c_lald, c_oald, c_gald, c_iast, c_zast, c_cast, c_last, c_oast, c_alen, c_callS0, c_callS1, c_callS2, c_callS3, c_callS4, c_callS5, c_callS6, c_callS7, c_callV0, c_callV1, c_callV2, c_callV3, c_callV4, c_callV5, c_callV6, c_callV7, c_callT0, c_callT1, am_nx_eq, am_set, am_set2, am_clr, am_isL, am_push, am_w, am_ent, am_ent1, List.getElem?_cons_zero, List.getElem?_cons_succ, List.set_cons_zero, List.set_cons_succ, List.getD_cons_zero, List.getD_cons_succ, List.cons_append, List.nil_append, List.append_nil, List.replicate_succ, List.replicate_zero, Nat.reduceAdd, Nat.reduceSub, Nat.reduceLeDiff, Bool.false_eq_true, reduceIte, true_and, and_true, true_or, or_true, or_self, am_i32, am_i64, bz_0, bz_01, bz_em, bz_n0, Classical.not_not, am_cmp_lt0, am_cmp_gt0, am_cmp_eq0, am_cmp_ge0, am_cmp_le0, am_cmp_ne0]
      refine k_spotOf (by omega) (by omega) ?_
      simp only [kd_1, kd_2, ln_3, ll_3, kd_46, kd_47, ln_48, ll_48, ln_49, ll_49, kd_50, kd_51, ln_52, ll_52, ln_53, ll_53, ln_54, ll_54, ln_55, ll_55, ln_56, ll_56, ln_57, ll_57, ln_58, ll_58, kd_59, ln_60, ll_60, ln_61, ll_61, ln_62, ll_62, ln_63, ll_63, kd_64, ln_127, ll_127, ln_128, ll_128, ln_129, ll_129, ln_130, ll_130, ln_131, ll_131, ln_132, ll_132, ln_133, ll_133, ln_134, ll_134, kd_135, ln_136, ll_136, pc_1_0 hC, pc_1_3 hC, pc_1_4 hC, pc_1_5 hC, pc_1_6 hC, pc_1_7 hC, pc_1_8 hC, pc_2_0 hC, pc_46_0 hC, pc_50_0 hC, pc_50_1 hC, pc_50_2 hC, pc_50_3 hC, pc_50_4 hC, pc_50_5 hC, pc_64_2 hC, pc_64_3 hC, pc_135_0 hC, am_up_eq, Int.reduceEq, Int.reduceLT, Int.reduceLE, Int.reduceNeg, if_true, if_false, c_const, c_lconst, c_ref, c_iload, c_lload, c_aload, c_istore, c_lstore, c_astore, c_iinc, c_iadd, c_isub, c_imul, c_ladd, c_lsub, c_lmul, c_idiv, c_irem, c_ldiv, c_lrem, c_iand, c_ior, c_ixor, c_ishl, c_ishr, c_ineg, c_i2l, c_l2i, c_i2c, c_lcmp, c_dup, c_pop, c_dup2, c_at, c_icmp_eq, c_icmp_ne, c_icmp_lt, c_icmp_ge, c_icmp_gt, c_icmp_le, c_if_eq, c_if_ne, c_if_lt, c_if_ge, c_if_gt, c_if_le, c_ifnull, c_ifnonnull, am_swK, c_sw, c_iret, c_zret, c_cret, c_bret, c_lret, c_aret, c_vret, c_getI, c_getR, c_putI, c_putZ, c_putR, c_iald, c_zald, c_cald, c_lald, c_oald, c_gald, c_iast, c_zast, c_cast, c_last, c_oast, c_alen, c_callS0, c_callS1, c_callS2, c_callS3, c_callS4, c_callS5, c_callS6, c_callS7, c_callV0, c_callV1, c_callV2, c_callV3, c_callV4, c_callV5, c_callV6, c_callV7, c_callT0, c_callT1, am_nx_eq, am_set, am_set2, am_clr, am_isL, am_push, am_w, am_ent, am_ent1, List.getElem?_cons_zero, List.getElem?_cons_succ, List.set_cons_zero, List.set_cons_succ, List.getD_cons_zero, List.getD_cons_succ, List.cons_append, List.nil_append, List.append_nil, List.replicate_succ, List.replicate_zero, Nat.reduceAdd, Nat.reduceSub, Nat.reduceLeDiff, Bool.false_eq_true, reduceIte, true_and, and_true, true_or, or_true, or_self, am_i32, am_i64, bz_0, bz_01, bz_em, bz_n0, Classical.not_not, am_cmp_lt0, am_cmp_gt0, am_cmp_eq0, am_cmp_ge0, am_cmp_le0, am_cmp_ne0]
      rwa [if_neg (by omega)] at h
    · rwa [if_pos (Or.inr (Or.inr (by omega)))] at h
theorem k_nothing {g : Int} (hg : g = 0 ∨ g = 1) (e9 : M 50 9 = g) (h : Q (vI (zr g)) (am_SH, M)) : am_Call (d + 1) m_Search_nothing 0 0 [vR 50] (am_SH, M) Q := by
  unfold zr at h
  refine am_go B_Search_nothing_0 rfl (Nat.le_of_ble_eq_true rfl) ?_
  simp only [b_Search_nothing_13, b_Search_nothing_11, b_Search_nothing_0, kd_50, e9, c_const, c_lconst, c_ref, c_iload, c_lload, c_aload, c_istore, c_lstore, c_astore, c_iinc, c_iadd, c_isub, c_imul, c_ladd, c_lsub, c_lmul, c_idiv, c_irem, c_ldiv, c_lrem, c_iand, c_ior, c_ixor, c_ishl, c_ishr, c_ineg, c_i2l, c_l2i, c_i2c, c_lcmp, c_dup, c_pop, c_dup2, c_at, c_icmp_eq, c_icmp_ne, c_icmp_lt, c_icmp_ge, c_icmp_gt, c_icmp_le, c_if_eq, c_if_ne, c_if_lt, c_if_ge, c_if_gt, c_if_le, c_ifnull, c_ifnonnull, am_swK, c_sw, c_iret, c_zret, c_cret, c_bret, c_lret, c_aret, c_vret, c_getI, c_getR, c_putI, c_putZ, c_putR, c_iald, c_zald, c_cald, c_lald, c_oald, c_gald, c_iast, c_zast, c_cast, c_last, c_oast, c_alen, c_callS0, c_callS1, c_callS2, c_callS3, c_callS4, c_callS5, c_callS6, c_callS7, c_callV0, c_callV1, c_callV2, c_callV3, c_callV4, c_callV5, c_callV6, c_callV7, c_callT0, c_callT1, am_nx_eq, am_set, am_set2, am_clr, am_isL, am_push, am_w, am_ent, am_ent1, List.getElem?_cons_zero, List.getElem?_cons_succ, List.set_cons_zero, List.set_cons_succ, List.getD_cons_zero, List.getD_cons_succ, List.cons_append, List.nil_append, List.append_nil, List.replicate_succ, List.replicate_zero, Nat.reduceAdd, Nat.reduceSub, Nat.reduceLeDiff, Bool.false_eq_true, reduceIte, true_and, and_true, true_or, or_true, or_self, am_i32, am_i64, bz_0, bz_01, bz_em, bz_n0, Classical.not_not, am_cmp_lt0, am_cmp_gt0, am_cmp_eq0, am_cmp_ge0, am_cmp_le0, am_cmp_ne0]
  refine ⟨fun z => ?_, fun z => ?_⟩
  · rwa [if_neg (by omega)] at h
  · rwa [if_pos (by omega)] at h
theorem vO_rng {g m a : Int} (hm : m ≤ 8) (h : vO g m a) : -1001000 ≤ a ∧ a ≤ 1000000000 := by
  rcases h with ⟨_, a1, a2⟩ | ⟨_, a1⟩
  · omega
  · unfold vB at a1; omega
theorem k_merge {g m a b : Int} (hg : g = 0 ∨ g = 1) (e9 : M 50 9 = g) (hm : m ≤ 8) (ha : vO g m a) (hb : vO g m b) (h : Q (vI (mg g a b)) (am_SH, M)) : am_Call (d + 2) m_Search_merge 0 0 [vR 50, vI a, vI b] (am_SH, M) Q := by
  have r1 := vO_rng hm ha
  have r2 := vO_rng hm hb
  unfold mg at h
  refine am_go B_Search_merge_0 rfl (Nat.le_of_ble_eq_true rfl) ?_
  simp only [b_Search_merge_23, b_Search_merge_18, b_Search_merge_0, kd_50, e9, c_const, c_lconst, c_ref, c_iload, c_lload, c_aload, c_istore, c_lstore, c_astore, c_iinc, c_iadd, c_isub, c_imul, c_ladd, c_lsub, c_lmul, c_idiv, c_irem, c_ldiv, c_lrem, c_iand, c_ior, c_ixor, c_ishl, c_ishr, c_ineg, c_i2l, c_l2i, c_i2c, c_lcmp, c_dup, c_pop, c_dup2, c_at, c_icmp_eq, c_icmp_ne, c_icmp_lt, c_icmp_ge, c_icmp_gt, c_icmp_le, c_if_eq, c_if_ne, c_if_lt, c_if_ge, c_if_gt, c_if_le, c_ifnull, c_ifnonnull, am_swK, c_sw, c_iret, c_zret, c_cret, c_bret, c_lret, c_aret, c_vret, c_getI, c_getR, c_putI, c_putZ, c_putR, c_iald, c_zald, c_cald, c_lald, c_oald, c_gald, c_iast, c_zast, c_cast, c_last, c_oast, c_alen, c_callS0, c_callS1, c_callS2, c_callS3, c_callS4, c_callS5, c_callS6, c_callS7, c_callV0, c_callV1, c_callV2, c_callV3, c_callV4, c_callV5, c_callV6, c_callV7, c_callT0, c_callT1, am_nx_eq, am_set, am_set2, am_clr, am_isL, am_push, am_w, am_ent, am_ent1, List.getElem?_cons_zero, List.getElem?_cons_succ, List.set_cons_zero, List.set_cons_succ, List.getD_cons_zero, List.getD_cons_succ, List.cons_append, List.nil_append, List.append_nil, List.replicate_succ, List.replicate_zero, Nat.reduceAdd, Nat.reduceSub, Nat.reduceLeDiff, Bool.false_eq_true, reduceIte, true_and, and_true, true_or, or_true, or_self, am_i32, am_i64, bz_0, bz_01, bz_em, bz_n0, Classical.not_not, am_cmp_lt0, am_cmp_gt0, am_cmp_eq0, am_cmp_ge0, am_cmp_le0, am_cmp_ne0]
  refine ⟨fun z => k_max ?_, fun z => ⟨by omega, k_min ?_⟩⟩
  · simp only [b_Search_merge_23, b_Search_merge_18, b_Search_merge_0, c_const, c_lconst, c_ref, c_iload, c_lload, c_aload, c_istore, c_lstore, c_astore, c_iinc, c_iadd, c_isub, c_imul, c_ladd, c_lsub, c_lmul, c_idiv, c_irem, c_ldiv, c_lrem, c_iand, c_ior, c_ixor, c_ishl, c_ishr, c_ineg, c_i2l, c_l2i, c_i2c, c_lcmp, c_dup, c_pop, c_dup2, c_at, c_icmp_eq, c_icmp_ne, c_icmp_lt, c_icmp_ge, c_icmp_gt, c_icmp_le, c_if_eq, c_if_ne, c_if_lt, c_if_ge, c_if_gt, c_if_le, c_ifnull, c_ifnonnull, am_swK, c_sw, c_iret, c_zret, c_cret, c_bret, c_lret, c_aret, c_vret, c_getI, c_getR, c_putI, c_putZ, c_putR, c_iald, c_zald, c_cald, c_lald, c_oald, c_gald, c_iast, c_zast, c_cast, c_last, c_oast, c_alen, c_callS0, c_callS1, c_callS2, c_callS3, c_callS4, c_callS5, c_callS6, c_callS7, c_callV0, c_callV1, c_callV2, c_callV3, c_callV4, c_callV5, c_callV6, c_callV7, c_callT0, c_callT1, am_nx_eq, am_set, am_set2, am_clr, am_isL, am_push, am_w, am_ent, am_ent1, List.getElem?_cons_zero, List.getElem?_cons_succ, List.set_cons_zero, List.set_cons_succ, List.getD_cons_zero, List.getD_cons_succ, List.cons_append, List.nil_append, List.append_nil, List.replicate_succ, List.replicate_zero, Nat.reduceAdd, Nat.reduceSub, Nat.reduceLeDiff, Bool.false_eq_true, reduceIte, true_and, and_true, true_or, or_true, or_self, am_i32, am_i64, bz_0, bz_01, bz_em, bz_n0, Classical.not_not, am_cmp_lt0, am_cmp_gt0, am_cmp_eq0, am_cmp_ge0, am_cmp_le0, am_cmp_ne0]
    rw [if_neg (by omega)] at h
    exact h
  · simp only [b_Search_merge_23, b_Search_merge_18, b_Search_merge_0, c_const, c_lconst, c_ref, c_iload, c_lload, c_aload, c_istore, c_lstore, c_astore, c_iinc, c_iadd, c_isub, c_imul, c_ladd, c_lsub, c_lmul, c_idiv, c_irem, c_ldiv, c_lrem, c_iand, c_ior, c_ixor, c_ishl, c_ishr, c_ineg, c_i2l, c_l2i, c_i2c, c_lcmp, c_dup, c_pop, c_dup2, c_at, c_icmp_eq, c_icmp_ne, c_icmp_lt, c_icmp_ge, c_icmp_gt, c_icmp_le, c_if_eq, c_if_ne, c_if_lt, c_if_ge, c_if_gt, c_if_le, c_ifnull, c_ifnonnull, am_swK, c_sw, c_iret, c_zret, c_cret, c_bret, c_lret, c_aret, c_vret, c_getI, c_getR, c_putI, c_putZ, c_putR, c_iald, c_zald, c_cald, c_lald, c_oald, c_gald, c_iast, c_zast, c_cast, c_last, c_oast, c_alen, c_callS0, c_callS1, c_callS2, c_callS3, c_callS4, c_callS5, c_callS6, c_callS7, c_callV0, c_callV1, c_callV2, c_callV3, c_callV4, c_callV5, c_callV6, c_callV7, c_callT0, c_callT1, am_nx_eq, am_set, am_set2, am_clr, am_isL, am_push, am_w, am_ent, am_ent1, List.getElem?_cons_zero, List.getElem?_cons_succ, List.set_cons_zero, List.set_cons_succ, List.getD_cons_zero, List.getD_cons_succ, List.cons_append, List.nil_append, List.append_nil, List.replicate_succ, List.replicate_zero, Nat.reduceAdd, Nat.reduceSub, Nat.reduceLeDiff, Bool.false_eq_true, reduceIte, true_and, and_true, true_or, or_true, or_self, am_i32, am_i64, bz_0, bz_01, bz_em, bz_n0, Classical.not_not, am_cmp_lt0, am_cmp_gt0, am_cmp_eq0, am_cmp_ge0, am_cmp_le0, am_cmp_ne0]
    rw [if_pos (by omega)] at h
    refine am_v h ?_
    unfold mn9
    split <;> split <;> omega
theorem k_withF {g r w : Int} (hg : g = 0 ∨ g = 1) (e9 : M 50 9 = g) (hr : -1001000 ≤ r ∧ r ≤ 1000000000) (hw : 0 ≤ w ∧ w ≤ 1000) (h : Q (vI (gf g r w)) (am_SH, M)) : am_Call (d + 1) m_Search_withFlight 0 0 [vR 50, vI r, vI w] (am_SH, M) Q := by
  unfold gf at h
  refine am_go B_Search_withFlight_0 rfl (Nat.le_of_ble_eq_true rfl) ?_
  simp only [b_Search_withFlight_20, b_Search_withFlight_11, b_Search_withFlight_0, kd_50, e9, c_const, c_lconst, c_ref, c_iload, c_lload, c_aload, c_istore, c_lstore, c_astore, c_iinc, c_iadd, c_isub, c_imul, c_ladd, c_lsub, c_lmul, c_idiv, c_irem, c_ldiv, c_lrem, c_iand, c_ior, c_ixor, c_ishl, c_ishr, c_ineg, c_i2l, c_l2i, c_i2c, c_lcmp, c_dup, c_pop, c_dup2, c_at, c_icmp_eq, c_icmp_ne, c_icmp_lt, c_icmp_ge, c_icmp_gt, c_icmp_le, c_if_eq, c_if_ne, c_if_lt, c_if_ge, c_if_gt, c_if_le, c_ifnull, c_ifnonnull, am_swK, c_sw, c_iret, c_zret, c_cret, c_bret, c_lret, c_aret, c_vret, c_getI, c_getR, c_putI, c_putZ, c_putR, c_iald, c_zald, c_cald, c_lald, c_oald, c_gald, c_iast, c_zast, c_cast, c_last, c_oast, c_alen, c_callS0, c_callS1, c_callS2, c_callS3, c_callS4, c_callS5, c_callS6, c_callS7, c_callV0, c_callV1, c_callV2, c_callV3, c_callV4, c_callV5, c_callV6, c_callV7, c_callT0, c_callT1, am_nx_eq, am_set, am_set2, am_clr, am_isL, am_push, am_w, am_ent, am_ent1, List.getElem?_cons_zero, List.getElem?_cons_succ, List.set_cons_zero, List.set_cons_succ, List.getD_cons_zero, List.getD_cons_succ, List.cons_append, List.nil_append, List.append_nil, List.replicate_succ, List.replicate_zero, Nat.reduceAdd, Nat.reduceSub, Nat.reduceLeDiff, Bool.false_eq_true, reduceIte, true_and, and_true, true_or, or_true, or_self, am_i32, am_i64, bz_0, bz_01, bz_em, bz_n0, Classical.not_not, am_cmp_lt0, am_cmp_gt0, am_cmp_eq0, am_cmp_ge0, am_cmp_le0, am_cmp_ne0]
  refine ⟨fun z => ⟨by omega, by omega, by omega, ?_⟩, fun z => ?_⟩
  · rw [if_neg (by omega)] at h
    exact am_v h (by omega)
  · rwa [if_pos (by omega)] at h
/-- an entry of the list joined to v -/
def bE (g : Int) (D : Int → Int → Int) (W : Int → Int → Int → Int) (nb nt y dn l b t e v : Int) : Int := if e / 8 % 8 = nt ∨ y < t + D 7 (e / 8 % 8) then v else bC g D W nb dn l b t (e / 8 % 8) (e % 8) v
theorem bE_en {g nb nt y dn l b t k c v : Int} (hk : 0 ≤ k ∧ k < 8) (hc : 0 ≤ c ∧ c < 8) : bE g D W nb nt y dn l b t (enL D b t k c) v = if k = nt ∨ y < t + D 7 k then v else bC g D W nb dn l b t k c v := by
  have en := enL_in (D := D) (b := b) (t := t) (k := k) (c := c) hk hc
  unfold bE
  rw [en.2.2.1, en.2.2.2.1]
theorem LLc_fold {g nb nt y dn l b t k : Int} (hD : WF D) (ha : WFa D) (hV : WFc D) (hb : 0 ≤ b ∧ b < D 0 0) (ht : 0 ≤ t) (hy : y ≤ 80) (hk : 0 ≤ k ∧ k < D 0 2) (hz : ¬ (k = nt ∨ y < t + D 7 k)) : ∀ (m : Nat) (c v : Int), 0 ≤ c → c + m ≤ D 0 0 → (LLc D b t k m c).foldl (fun v e => bE g D W nb nt y dn l b t e v) v = iter (bC g D W nb dn l b t k) m c v
  | 0, c, v, _, _ => rfl
  | m + 1, c, v, h0, h1 => by
    have hd0 := hD.1
    have hd2 := hD.2.2.1
    have aw := ha k hk.1 hk.2
    show ((if okL D b t k c then [enL D b t k c] else []) ++ LLc D b t k m (c + 1)).foldl _ v = iter (bC g D W nb dn l b t k) m (c + 1) (bC g D W nb dn l b t k c v)
    rw [List.foldl_append]
    by_cases z : okL D b t k c
    · rw [if_pos z]
      show (LLc D b t k m (c + 1)).foldl _ (bE g D W nb nt y dn l b t (enL D b t k c) v) = _
      rw [bE_en (by omega) (by omega), if_neg hz]
      exact LLc_fold hD ha hV hb ht hy hk hz m (c + 1) _ (by omega) (by omega)
    · rw [if_neg z]
      show (LLc D b t k m (c + 1)).foldl _ v = _
      have e : bC g D W nb dn l b t k c v = v := by
        unfold bC
        by_cases w : c = b
        · rw [if_pos (Or.inl w)]
        · have : gd D b t k c dn (bz (l = k)) ≠ 1 := by
            intro u
            apply z
            have near : msF D b t k c ≤ D 8 k := by
              unfold gd at u
              by_cases q : msF D b t k c ≤ D 8 k ∧ tst D b t k c dn (bz (l = k)) = 1
              · exact q.1
              · rw [bz_f q] at u; omega
            refine ⟨w, by omega, near, ?_⟩
            by_cases q1 : D 16 k = 1
            · exact Or.inl q1
            · by_cases q2 : D 17 k = 1
              · exact Or.inr (Or.inl q2)
              · have gi := gd_ind (b := b) (t := t) (c := c) (n := dn) (g := bz (l = k)) (n' := 0) (g' := 0) ha hV hk (Or.inl (by omega)) (Or.inl (by omega))
                exact Or.inr (Or.inr (by rw [← gi.1]; exact u))
          rw [if_pos (Or.inr (Or.inr (Or.inl this)))]
      rw [e]
      exact LLc_fold hD ha hV hb ht hy hk hz m (c + 1) v (by omega) (by omega)
theorem LLc_skip {g nb nt y dn l b t k : Int} (hD : WF D) (hk : 0 ≤ k ∧ k < D 0 2) (hz : k = nt ∨ y < t + D 7 k) : ∀ (m : Nat) (c v : Int), 0 ≤ c → c + m ≤ D 0 0 → (LLc D b t k m c).foldl (fun v e => bE g D W nb nt y dn l b t e v) v = v
  | 0, c, v, _, _ => rfl
  | m + 1, c, v, h0, h1 => by
    have hd0 := hD.1
    have hd2 := hD.2.2.1
    show ((if okL D b t k c then [enL D b t k c] else []) ++ LLc D b t k m (c + 1)).foldl _ v = v
    rw [List.foldl_append]
    by_cases z : okL D b t k c
    · rw [if_pos z]
      show (LLc D b t k m (c + 1)).foldl _ (bE g D W nb nt y dn l b t (enL D b t k c) v) = _
      rw [bE_en (by omega) (by omega), if_pos hz]
      exact LLc_skip hD hk hz m (c + 1) _ (by omega) (by omega)
    · rw [if_neg z]
      exact LLc_skip hD hk hz m (c + 1) v (by omega) (by omega)
theorem LLk_fold {g nb nt y dn l b t : Int} (hD : WF D) (ha : WFa D) (hV : WFc D) (hb : 0 ≤ b ∧ b < D 0 0) (ht : 0 ≤ t) (hy : y ≤ 80) : ∀ (m : Nat) (k v : Int), 0 ≤ k → k + m ≤ D 0 2 → (LLk D b t m k).foldl (fun v e => bE g D W nb nt y dn l b t e v) v = iter (bK g D W nb nt y dn l b t) m k v
  | 0, k, v, _, _ => rfl
  | m + 1, k, v, h0, h1 => by
    have hd0 := hD.1
    show (LLc D b t k (D 0 0).toNat 0 ++ LLk D b t m (k + 1)).foldl _ v = iter (bK g D W nb nt y dn l b t) m (k + 1) (bK g D W nb nt y dn l b t k v)
    rw [List.foldl_append, LLk_fold hD ha hV hb ht hy m (k + 1) _ (by omega) (by omega)]
    congr 1
    unfold bK
    by_cases z : k = nt ∨ y < t + D 7 k
    · rw [if_pos z, LLc_skip hD ⟨h0, by omega⟩ z _ _ _ (by omega) (by omega)]
    · rw [if_neg z, LLc_fold hD ha hV hb ht hy ⟨h0, by omega⟩ z _ _ _ (by omega) (by omega)]
theorem LL_fold {g nb nt y dn l b t : Int} (hD : WF D) (ha : WFa D) (hV : WFc D) (hb : 0 ≤ b ∧ b < D 0 0) (ht : 0 ≤ t) (hy : y ≤ 80) : (LL D b t).foldl (fun v e => bE g D W nb nt y dn l b t e v) (zr g) = bF g D W nb nt y dn l b t := LLk_fold hD ha hV hb ht hy (D 0 2).toNat 0 (zr g) (by omega) (by have := hD.2.2.1; omega)
/-- what stands in the list -/
theorem LLc_mem {b t k e : Int} : ∀ (m : Nat) (c : Int), e ∈ LLc D b t k m c → ∃ c', c ≤ c' ∧ c' < c + m ∧ okL D b t k c' ∧ e = enL D b t k c'
  | 0, c, h => by simp [LLc] at h
  | m + 1, c, h => by
    have h : e ∈ (if okL D b t k c then [enL D b t k c] else []) ++ LLc D b t k m (c + 1) := h
    rcases List.mem_append.mp h with h | h
    · by_cases z : okL D b t k c
      · rw [if_pos z] at h
        simp at h
        exact ⟨c, by omega, by omega, z, h⟩
      · rw [if_neg z] at h
        simp at h
    · obtain ⟨c', a, b', c'', d'⟩ := LLc_mem m (c + 1) h
      exact ⟨c', by omega, by omega, c'', d'⟩
theorem LLk_mem {b t e : Int} (hd : 0 ≤ D 0 0) : ∀ (m : Nat) (k : Int), e ∈ LLk D b t m k → ∃ k' c', (k ≤ k' ∧ k' < k + m) ∧ (0 ≤ c' ∧ c' < D 0 0) ∧ okL D b t k' c' ∧ e = enL D b t k' c'
  | 0, k, h => by simp [LLk] at h
  | m + 1, k, h => by
    have h : e ∈ LLc D b t k (D 0 0).toNat 0 ++ LLk D b t m (k + 1) := h
    rcases List.mem_append.mp h with h | h
    · obtain ⟨c', a, b', c'', d'⟩ := LLc_mem _ _ h
      exact ⟨k, c', by omega, by omega, c'', d'⟩
    · obtain ⟨k', c', a, b', c'', d'⟩ := LLk_mem hd m (k + 1) h
      exact ⟨k', c', by omega, b', c'', d'⟩
theorem LL_mem {b t e : Int} (hD : WF D) (h : e ∈ LL D b t) : ∃ k c, (0 ≤ k ∧ k < D 0 2) ∧ (0 ≤ c ∧ c < D 0 0) ∧ okL D b t k c ∧ e = enL D b t k c := by
  have hd2 := hD.2.2.1
  obtain ⟨k, c, a, b', c', d'⟩ := LLk_mem hD.1.1 _ _ h
  exact ⟨k, c, by omega, b', c', d'⟩
end
