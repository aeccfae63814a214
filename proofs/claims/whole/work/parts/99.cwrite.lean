/-! the class: the best act is written -/
def lt2 (k c k' c' : Int) : Prop := k < k' ∨ (k = k' ∧ c < c')
def oE (e e' : Int) : Prop := lt2 (e / 8 % 8) (e % 8) (e' / 8 % 8) (e' % 8)
section
variable {M M' D : Int → Int → Int} {T F : Int → Int} {P : Int → Int → Int} {B : Int → Int → Int → Int} {O : Int → Int} {R G : Int} {d : Nat} {Q : AV → am_S → Prop} {W : Int → Int → Int → Int} {A : Int → Int → Int}
theorem LLc_has {b t k c : Int} (ok : okL D b t k c) : ∀ (m : Nat) (c0 : Int), c0 ≤ c → c < c0 + m → enL D b t k c ∈ LLc D b t k m c0
  | 0, c0, h1, h2 => by omega
  | m + 1, c0, h1, h2 => by
    show _ ∈ (if okL D b t k c0 then [enL D b t k c0] else []) ++ LLc D b t k m (c0 + 1)
    by_cases z : c = c0
    · subst z
      rw [if_pos ok]
      exact List.mem_append.mpr (Or.inl (List.mem_singleton.mpr rfl))
    · exact List.mem_append.mpr (Or.inr (LLc_has ok m (c0 + 1) (by omega) (by omega)))
theorem LLk_has {b t k c : Int} (ok : okL D b t k c) (hc : 0 ≤ c ∧ c < D 0 0) : ∀ (m : Nat) (k0 : Int), k0 ≤ k → k < k0 + m → enL D b t k c ∈ LLk D b t m k0
  | 0, k0, h1, h2 => by omega
  | m + 1, k0, h1, h2 => by
    show _ ∈ LLc D b t k0 (D 0 0).toNat 0 ++ LLk D b t m (k0 + 1)
    by_cases z : k = k0
    · subst z
      exact List.mem_append.mpr (Or.inl (LLc_has ok _ 0 hc.1 (by omega)))
    · exact List.mem_append.mpr (Or.inr (LLk_has ok hc m (k0 + 1) (by omega) (by omega)))
theorem LL_has {b t k c : Int} (ok : okL D b t k c) (hk : 0 ≤ k ∧ k < D 0 2) (hc : 0 ≤ c ∧ c < D 0 0) : enL D b t k c ∈ LL D b t := LLk_has ok hc _ 0 hk.1 (by omega)
theorem oE_en {b t k c k' c' : Int} (hk : 0 ≤ k ∧ k < 8) (hc : 0 ≤ c ∧ c < 8) (hk' : 0 ≤ k' ∧ k' < 8) (hc' : 0 ≤ c' ∧ c' < 8) : oE (enL D b t k c) (enL D b t k' c') ↔ lt2 k c k' c' := by
  have e1 := enL_in (D := D) (b := b) (t := t) hk hc
  have e2 := enL_in (D := D) (b := b) (t := t) hk' hc'
  unfold oE
  rw [e1.2.2.1, e1.2.2.2.1, e2.2.2.1, e2.2.2.2.1]
theorem LLc_ord {b t k : Int} (hk : 0 ≤ k ∧ k < 8) : ∀ (m : Nat) (c : Int), 0 ≤ c → c + m ≤ 8 → (LLc D b t k m c).Pairwise oE
  | 0, c, _, _ => List.Pairwise.nil
  | m + 1, c, h0, h1 => by
    show ((if okL D b t k c then [enL D b t k c] else []) ++ LLc D b t k m (c + 1)).Pairwise oE
    refine List.pairwise_append.mpr ⟨?_, LLc_ord hk m (c + 1) (by omega) (by omega), fun e he e' he' => ?_⟩
    · split
      · exact List.pairwise_singleton _ _
      · exact List.Pairwise.nil
    · split at he
      · have := List.mem_singleton.mp he
        subst this
        obtain ⟨c', a1, a2, a3, rfl⟩ := LLc_mem m (c + 1) he'
        exact (oE_en hk (by omega) hk (by omega)).mpr (Or.inr ⟨rfl, by omega⟩)
      · cases he
theorem LLk_ord {b t : Int} (hd : 0 ≤ D 0 0 ∧ D 0 0 ≤ 8) : ∀ (m : Nat) (k : Int), 0 ≤ k → k + m ≤ 8 → (LLk D b t m k).Pairwise oE
  | 0, k, _, _ => List.Pairwise.nil
  | m + 1, k, h0, h1 => by
    show (LLc D b t k (D 0 0).toNat 0 ++ LLk D b t m (k + 1)).Pairwise oE
    refine List.pairwise_append.mpr ⟨LLc_ord ⟨h0, by omega⟩ _ 0 (Int.le_refl _) (by omega), LLk_ord hd m (k + 1) (by omega) (by omega), fun e he e' he' => ?_⟩
    obtain ⟨c, a1, a2, a3, rfl⟩ := LLc_mem _ _ he
    obtain ⟨k', c', b1, b2, b3, rfl⟩ := LLk_mem hd.1 _ _ he'
    exact (oE_en ⟨h0, by omega⟩ (by omega) (by omega) (by omega)).mpr (Or.inl (by omega))
theorem LL_ord {b t : Int} (hD : WF D) : (LL D b t).Pairwise oE := by
  have := hD.1
  have := hD.2.2.1
  exact LLk_ord (by omega) _ 0 (Int.le_refl _) (by omega)
theorem cnd_ok {y dn l b t left u k c : Int} (ha : WFa D) (hV : WFc D) (hy : y ≤ 80) (h : cnd D W y dn l b t left u k c) : okL D b u k c := by
  obtain ⟨h1, h2, h3, h4, h5, h6, h7, h8⟩ := h
  have aw := ha k h2.1 h2.2
  have near : msF D b u k c ≤ D 8 k := by
    unfold gd at h6
    by_cases q : msF D b u k c ≤ D 8 k ∧ tst D b u k c dn (bz (l = k)) = 1
    · exact q.1
    · rw [bz_f q] at h6; omega
  refine ⟨h5, by omega, near, ?_⟩
  by_cases q1 : D 16 k = 1
  · exact Or.inl q1
  · by_cases q2 : D 17 k = 1
    · exact Or.inr (Or.inl q2)
    · have gi := gd_ind (b := b) (t := u) (c := c) (n := dn) (g := bz (l = k)) (n' := 0) (g' := 0) ha hV h2 (Or.inl (by omega)) (Or.inl (by omega))
      exact Or.inr (Or.inr (by rw [← gi.1]; exact h6))
theorem LL_at {b t k c : Int} (ok : okL D b t k c) (hk : 0 ≤ k ∧ k < D 0 2) (hc : 0 ≤ c ∧ c < D 0 0) : ∃ j, j < (LL D b t).length ∧ (LL D b t).getD j 0 = enL D b t k c := by
  obtain ⟨j, hj, e⟩ := List.getElem_of_mem (LL_has ok hk hc)
  exact ⟨j, hj, by simp [List.getD, hj, e]⟩
theorem LL_lt {b t : Int} {i j : Nat} (hD : WF D) (hij : i < j) (hj : j < (LL D b t).length) : oE ((LL D b t).getD i 0) ((LL D b t).getD j 0) := by
  have := List.pairwise_iff_getElem.mp (LL_ord (b := b) (t := t) hD) i j (by omega) hj hij
  simpa [List.getD, hj, show i < (LL D b t).length by omega] using this
theorem k_wn_l {M0 : Int → Int → Int} {to n y dn l l9 b t u left : Int} (hV : SV M0 D R 0 to n y (-1) (-1)) (hAc : CAct M0 A 59) (hdn : 0 ≤ dn ∧ dn < n) (h4 : A 0 4 = dn) (hl : ∀ k, 0 ≤ k → k < D 0 2 → (l9 = k ↔ l = k)) (hb : 0 ≤ b ∧ b < D 0 0) (hu : 0 ≤ t ∧ t ≤ u ∧ u ≤ y) (hW : ∀ k c u, 0 ≤ k → k < D 0 2 → 0 ≤ c → c < D 0 0 → 0 ≤ u → u ≤ y → M0 57 (5184 * (dn + 1) + 8 * (81 * c + u) + (if M0 50 8 = 1 then k else 0)) = W k c u ∧ vO 0 (n - (dn + 1)) (W k c u)) (hnu : ∀ u' k c, u' < u → ¬ cnd D W y dn l b t left u' k c)
    (h1 : ∀ k c M1 M', fst3 (cnd D W y dn l b t left) u k c → CSc 51 M0 M1 → AcF 59 M1 M' → am_PC M' → CAct M' (adF A u k c (wth D b u k c dn (bz (l = k)))) 59 → M' 59 4 = M0 59 4 → Q (vI (81 * c + (u + D 7 k))) (am_SH, M'))
    (h0 : ∀ (x7 x8 x9 x10 x11 : AV) M', CSc 51 M0 M' → am_PC M' → (∀ k c, ¬ cnd D W y dn l b t left u k c) → b_Search_writeNext_230 (d + 5) Q 0 0 [vR 50, vR 59, vI (81 * b + t), vI left, vI dn, vI l9, vI (81 * b + u), x7, x8, x9, x10, x11] [] (am_SH, M')) :
    ∀ (m q : Nat) (x8 x9 x10 x11 : AV) (M : Int → Int → Int), q + m = (LL D b u).length → CSc 51 M0 M → am_PC M → (∀ j k c, j < q → (LL D b u).getD j 0 = enL D b u k c → ¬ cnd D W y dn l b t left u k c) → am_Wp (d + 6) m_Search_writeNext 0 0 48 [vR 50, vR 59, vI (81 * b + t), vI left, vI dn, vI l9, vI (81 * b + u), vI (M0 54 (81 * b + u) + (q : Int)), x8, x9, x10, x11] [] (am_SH, M) Q := by
  have hy := hV.2.2.2.2.2.1
  have hn := hV.2.2.2.2.1
  have hU := hV.1
  have hD := hU.1.W
  have hWc := hU.1.V
  have hd0 := hD.1
  have hd2 := hD.2.2.1
  have ha := hU.2.2.1
  have L := hU.2.2.2.1.1 b u hb.1 hb.2 (by omega) (by omega)
  have h8 := hU.2.2.2.1.2.1
  intro m
  induction m with
  | zero =>
    intro q x8 x9 x10 x11 M hm hs hC hno
    have hU1 := hU.vf hs.vf
    have e10 : M 50 10 = n := hU1.2.2.2.2.2.1
    have e54 : M 54 = M0 54 := hs.1 54 (by decide) (by decide)
    have fin : ∀ (x7 : AV), b_Search_writeNext_230 (d + 5) Q 0 0 [vR 50, vR 59, vI (81 * b + t), vI left, vI dn, vI l9, vI (81 * b + u), x7, x8, x9, x10, x11] [] (am_SH, M) := fun x7 => h0 _ _ _ _ _ M hs hC (fun k c w => by
      obtain ⟨j, j1, j2⟩ := LL_at (cnd_ok ha hWc hy.2 w) w.2.1 w.2.2.1
      exact hno j k c (by omega) j2 w)
    refine B_Search_writeNext_48 _ _ _ _ _ ?_
    simp only [b_Search_writeNext_48, e10, e54, L.2.1, kd_1, kd_2, ln_3, ll_3, kd_46, kd_47, ln_48, ll_48, ln_49, ll_49, kd_50, kd_51, ln_52, ll_52, ln_53, ll_53, ln_54, ll_54, ln_55, ll_55, ln_56, ll_56, ln_57, ll_57, ln_58, ll_58, kd_59, ln_60, ll_60, ln_61, ll_61, ln_62, ll_62, ln_63, ll_63, kd_64, ln_127, ll_127, ln_128, ll_128, ln_129, ll_129, ln_130, ll_130, ln_131, ll_131, ln_132, ll_132, ln_133, ll_133, ln_134, ll_134, kd_135, ln_136, ll_136, pc_1_0 hC, pc_1_3 hC, pc_1_4 hC, pc_1_5 hC, pc_1_6 hC, pc_1_7 hC, pc_1_8 hC, pc_2_0 hC, pc_46_0 hC, pc_50_0 hC, pc_50_1 hC, pc_50_2 hC, pc_50_3 hC, pc_50_4 hC, pc_50_5 hC, pc_64_2 hC, pc_64_3 hC, pc_135_0 hC, am_up_eq, Int.reduceEq, Int.reduceLT, Int.reduceLE, Int.reduceNeg, if_true, if_false, c_const, c_lconst, c_ref, c_iload, c_lload, c_aload, c_istore, c_lstore, c_astore, c_iinc, c_iadd, c_isub, c_imul, c_ladd, c_lsub, c_lmul, c_idiv, c_irem, c_ldiv, c_lrem, c_iand, c_ior, c_ixor, c_ishl, c_ishr, c_ineg, c_i2l, c_l2i, c_i2c, c_lcmp, c_dup, c_pop, c_dup2, c_at, c_icmp_eq, c_icmp_ne, c_icmp_lt, c_icmp_ge, c_icmp_gt, c_icmp_le, c_if_eq, c_if_ne, c_if_lt, c_if_ge, c_if_gt, c_if_le, c_ifnull, c_ifnonnull, am_swK, c_sw, c_iret, c_zret, c_cret, c_bret, c_lret, c_aret, c_vret, c_getI, c_getR, c_putI, c_putZ, c_putR, c_iald, c_zald, c_cald, c_lald, c_oald, c_gald, c_iast, c_zast, c_cast, c_last, c_oast, c_alen, c_callS0, c_callS1, c_callS2, c_callS3, c_callS4, c_callS5, c_callS6, c_callS7, c_callV0, c_callV1, c_callV2, c_callV3, c_callV4, c_callV5, c_callV6, c_callV7, c_callT0, c_callT1, am_nx_eq, am_set, am_set2, am_clr, am_isL, am_push, am_w, am_ent, am_ent1, List.getElem?_cons_zero, List.getElem?_cons_succ, List.set_cons_zero, List.set_cons_succ, List.getD_cons_zero, List.getD_cons_succ, List.cons_append, List.nil_append, List.append_nil, List.replicate_succ, List.replicate_zero, Nat.reduceAdd, Nat.reduceSub, Nat.reduceLeDiff, Bool.false_eq_true, reduceIte, true_and, and_true, true_or, or_true, or_self, am_i32, am_i64, bz_0, bz_01, bz_em, bz_n0, Classical.not_not, am_cmp_lt0, am_cmp_gt0, am_cmp_eq0, am_cmp_ge0, am_cmp_le0, am_cmp_ne0]
    refine ⟨fun z => by omega, fun _ => ⟨by omega, by omega, by omega, fun _ => fin _, fun z => by omega⟩⟩
  | succ m ih =>
    intro q x8 x9 x10 x11 M hm hs hC hno
    have hU1 := hU.vf hs.vf
    have hG := hU1.1
    have hA := hU1.2.1
    have hR := hG.r
    have e6 : M 50 6 = R := hU1.2.2.2.2.1
    have e10 : M 50 10 = n := hU1.2.2.2.2.2.1
    have e11 : M 50 11 = y := hU1.2.2.2.2.2.2.1
    have e12 : M 50 12 = -1 := hU1.2.2.2.2.2.2.2.1
    have e13 : M 50 13 = -1 := hU1.2.2.2.2.2.2.2.2
    have e9 : M 50 9 = 0 := by rw [hs.1 50 (by decide) (by decide)]; exact hV.2.1
    have e8 : M 50 8 = M0 50 8 := by rw [hs.1 50 (by decide) (by decide)]
    have e54 : M 54 = M0 54 := hs.1 54 (by decide) (by decide)
    have e55 : M 55 (M0 54 (81 * b + u) + q) = (LL D b u).getD q 0 := by
      rw [hs.1 55 (by decide) (by decide)]
      exact L.2.2.2 q (by omega)
    have mem : (LL D b u).getD q 0 ∈ LL D b u := by
      rw [show (LL D b u).getD q 0 = (LL D b u)[q] by simp [List.getD, show q < (LL D b u).length by omega]]
      exact List.getElem_mem _
    obtain ⟨k, c, k1, c1, ok, ee⟩ := LL_mem hD mem
    have en := enL_in (D := D) (b := b) (t := u) (k := k) (c := c) (by omega) (by omega)
    have w7 := (hD.2.2.2.2.2 k k1.1 k1.2).1
    have skip : ∀ (x8 x9 x10 x11 : AV) M1, CSc 51 M M1 → am_PC M1 → ¬ cnd D W y dn l b t left u k c → b_Search_writeNext_224 (d + 5) Q 0 0 [vR 50, vR 59, vI (81 * b + t), vI left, vI dn, vI l9, vI (81 * b + u), vI (M0 54 (81 * b + u) + (q : Int)), x8, x9, x10, x11] [] (am_SH, M1) := by
      intro x8 x9 x10 x11 M1 w1 w2 w3
      have nx := ih (q + 1) x8 x9 x10 x11 M1 (by omega) (hs.tr w1) w2 (fun j k' c' j1 j2 => by
        by_cases z : j = q
        · rw [z, ee] at j2
          intro w
          have en' := enL_in (D := D) (b := b) (t := u) (k := k') (c := c') (by have := w.2.1; omega) (by have := w.2.2.1; omega)
          have a1 := en.2.2.1
          have a2 := en.2.2.2.1
          rw [j2, en'.2.2.1] at a1
          rw [j2, en'.2.2.2.1] at a2
          rw [a1, a2] at w
          exact w3 w
        · exact hno j k' c' (by omega) j2)
      simp only [b_Search_writeNext_224, c_const, c_lconst, c_ref, c_iload, c_lload, c_aload, c_istore, c_lstore, c_astore, c_iinc, c_iadd, c_isub, c_imul, c_ladd, c_lsub, c_lmul, c_idiv, c_irem, c_ldiv, c_lrem, c_iand, c_ior, c_ixor, c_ishl, c_ishr, c_ineg, c_i2l, c_l2i, c_i2c, c_lcmp, c_dup, c_pop, c_dup2, c_at, c_icmp_eq, c_icmp_ne, c_icmp_lt, c_icmp_ge, c_icmp_gt, c_icmp_le, c_if_eq, c_if_ne, c_if_lt, c_if_ge, c_if_gt, c_if_le, c_ifnull, c_ifnonnull, am_swK, c_sw, c_iret, c_zret, c_cret, c_bret, c_lret, c_aret, c_vret, c_getI, c_getR, c_putI, c_putZ, c_putR, c_iald, c_zald, c_cald, c_lald, c_oald, c_gald, c_iast, c_zast, c_cast, c_last, c_oast, c_alen, c_callS0, c_callS1, c_callS2, c_callS3, c_callS4, c_callS5, c_callS6, c_callS7, c_callV0, c_callV1, c_callV2, c_callV3, c_callV4, c_callV5, c_callV6, c_callV7, c_callT0, c_callT1, am_nx_eq, am_set, am_set2, am_clr, am_isL, am_push, am_w, am_ent, am_ent1, List.getElem?_cons_zero, List.getElem?_cons_succ, List.set_cons_zero, List.set_cons_succ, List.getD_cons_zero, List.getD_cons_succ, List.cons_append, List.nil_append, List.append_nil, List.replicate_succ, List.replicate_zero, Nat.reduceAdd, Nat.reduceSub, Nat.reduceLeDiff, Bool.false_eq_true, reduceIte, true_and, and_true, true_or, or_true, or_self, am_i32, am_i64, bz_0, bz_01, bz_em, bz_n0, Classical.not_not, am_cmp_lt0, am_cmp_gt0, am_cmp_eq0, am_cmp_ge0, am_cmp_le0, am_cmp_ne0]
      rw [show M0 54 (81 * b + u) + (q : Int) + 1 = M0 54 (81 * b + u) + ((q + 1 : Nat) : Int) by omega]
      exact ⟨by omega, nx⟩
    have tr9 : ∀ Q' : AV → am_S → Prop, Q' (vI k) (am_SH, M) → am_Call (d + 5) m_Search_trickOf 0 0 [vI (enL D b u k c)] (am_SH, M) Q' := fun Q' hq => k_trickOf (by omega) (by rw [en.2.2.1]; exact hq)
    refine B_Search_writeNext_48 _ _ _ _ _ ?_
    simp only [b_Search_writeNext_48, e10, e54, L.2.1, e55, ee, kd_1, kd_2, ln_3, ll_3, kd_46, kd_47, ln_48, ll_48, ln_49, ll_49, kd_50, kd_51, ln_52, ll_52, ln_53, ll_53, ln_54, ll_54, ln_55, ll_55, ln_56, ll_56, ln_57, ll_57, ln_58, ll_58, kd_59, ln_60, ll_60, ln_61, ll_61, ln_62, ll_62, ln_63, ll_63, kd_64, ln_127, ll_127, ln_128, ll_128, ln_129, ll_129, ln_130, ll_130, ln_131, ll_131, ln_132, ll_132, ln_133, ll_133, ln_134, ll_134, kd_135, ln_136, ll_136, pc_1_0 hC, pc_1_3 hC, pc_1_4 hC, pc_1_5 hC, pc_1_6 hC, pc_1_7 hC, pc_1_8 hC, pc_2_0 hC, pc_46_0 hC, pc_50_0 hC, pc_50_1 hC, pc_50_2 hC, pc_50_3 hC, pc_50_4 hC, pc_50_5 hC, pc_64_2 hC, pc_64_3 hC, pc_135_0 hC, am_up_eq, Int.reduceEq, Int.reduceLT, Int.reduceLE, Int.reduceNeg, if_true, if_false, c_const, c_lconst, c_ref, c_iload, c_lload, c_aload, c_istore, c_lstore, c_astore, c_iinc, c_iadd, c_isub, c_imul, c_ladd, c_lsub, c_lmul, c_idiv, c_irem, c_ldiv, c_lrem, c_iand, c_ior, c_ixor, c_ishl, c_ishr, c_ineg, c_i2l, c_l2i, c_i2c, c_lcmp, c_dup, c_pop, c_dup2, c_at, c_icmp_eq, c_icmp_ne, c_icmp_lt, c_icmp_ge, c_icmp_gt, c_icmp_le, c_if_eq, c_if_ne, c_if_lt, c_if_ge, c_if_gt, c_if_le, c_ifnull, c_ifnonnull, am_swK, c_sw, c_iret, c_zret, c_cret, c_bret, c_lret, c_aret, c_vret, c_getI, c_getR, c_putI, c_putZ, c_putR, c_iald, c_zald, c_cald, c_lald, c_oald, c_gald, c_iast, c_zast, c_cast, c_last, c_oast, c_alen, c_callS0, c_callS1, c_callS2, c_callS3, c_callS4, c_callS5, c_callS6, c_callS7, c_callV0, c_callV1, c_callV2, c_callV3, c_callV4, c_callV5, c_callV6, c_callV7, c_callT0, c_callT1, am_nx_eq, am_set, am_set2, am_clr, am_isL, am_push, am_w, am_ent, am_ent1, List.getElem?_cons_zero, List.getElem?_cons_succ, List.set_cons_zero, List.set_cons_succ, List.getD_cons_zero, List.getD_cons_succ, List.cons_append, List.nil_append, List.append_nil, List.replicate_succ, List.replicate_zero, Nat.reduceAdd, Nat.reduceSub, Nat.reduceLeDiff, Bool.false_eq_true, reduceIte, true_and, and_true, true_or, or_true, or_self, am_i32, am_i64, bz_0, bz_01, bz_em, bz_n0, Classical.not_not, am_cmp_lt0, am_cmp_gt0, am_cmp_eq0, am_cmp_ge0, am_cmp_le0, am_cmp_ne0]
    refine ⟨fun z => by omega, fun _ => ⟨by omega, by omega, by omega, fun z => by omega, fun _ => ⟨fun z => by omega, fun _ => ⟨by omega, by omega, tr9 _ ?_⟩⟩⟩⟩
    simp only [e55, ee, kd_1, kd_2, ln_3, ll_3, kd_46, kd_47, ln_48, ll_48, ln_49, ll_49, kd_50, kd_51, ln_52, ll_52, ln_53, ll_53, ln_54, ll_54, ln_55, ll_55, ln_56, ll_56, ln_57, ll_57, ln_58, ll_58, kd_59, ln_60, ll_60, ln_61, ll_61, ln_62, ll_62, ln_63, ll_63, kd_64, ln_127, ll_127, ln_128, ll_128, ln_129, ll_129, ln_130, ll_130, ln_131, ll_131, ln_132, ll_132, ln_133, ll_133, ln_134, ll_134, kd_135, ln_136, ll_136, pc_1_0 hC, pc_1_3 hC, pc_1_4 hC, pc_1_5 hC, pc_1_6 hC, pc_1_7 hC, pc_1_8 hC, pc_2_0 hC, pc_46_0 hC, pc_50_0 hC, pc_50_1 hC, pc_50_2 hC, pc_50_3 hC, pc_50_4 hC, pc_50_5 hC, pc_64_2 hC, pc_64_3 hC, pc_135_0 hC, am_up_eq, Int.reduceEq, Int.reduceLT, Int.reduceLE, Int.reduceNeg, if_true, if_false, c_const, c_lconst, c_ref, c_iload, c_lload, c_aload, c_istore, c_lstore, c_astore, c_iinc, c_iadd, c_isub, c_imul, c_ladd, c_lsub, c_lmul, c_idiv, c_irem, c_ldiv, c_lrem, c_iand, c_ior, c_ixor, c_ishl, c_ishr, c_ineg, c_i2l, c_l2i, c_i2c, c_lcmp, c_dup, c_pop, c_dup2, c_at, c_icmp_eq, c_icmp_ne, c_icmp_lt, c_icmp_ge, c_icmp_gt, c_icmp_le, c_if_eq, c_if_ne, c_if_lt, c_if_ge, c_if_gt, c_if_le, c_ifnull, c_ifnonnull, am_swK, c_sw, c_iret, c_zret, c_cret, c_bret, c_lret, c_aret, c_vret, c_getI, c_getR, c_putI, c_putZ, c_putR, c_iald, c_zald, c_cald, c_lald, c_oald, c_gald, c_iast, c_zast, c_cast, c_last, c_oast, c_alen, c_callS0, c_callS1, c_callS2, c_callS3, c_callS4, c_callS5, c_callS6, c_callS7, c_callV0, c_callV1, c_callV2, c_callV3, c_callV4, c_callV5, c_callV6, c_callV7, c_callT0, c_callT1, am_nx_eq, am_set, am_set2, am_clr, am_isL, am_push, am_w, am_ent, am_ent1, List.getElem?_cons_zero, List.getElem?_cons_succ, List.set_cons_zero, List.set_cons_succ, List.getD_cons_zero, List.getD_cons_succ, List.cons_append, List.nil_append, List.append_nil, List.replicate_succ, List.replicate_zero, Nat.reduceAdd, Nat.reduceSub, Nat.reduceLeDiff, Bool.false_eq_true, reduceIte, true_and, and_true, true_or, or_true, or_self, am_i32, am_i64, bz_0, bz_01, bz_em, bz_n0, Classical.not_not, am_cmp_lt0, am_cmp_gt0, am_cmp_eq0, am_cmp_ge0, am_cmp_le0, am_cmp_ne0]
    repeat (with_reducible refine And.intro (by omega) ?_)
    refine k_landing hG e6 e11 e12 e13 hb (by omega) k1 c1 ?_
    by_cases zl : k = -1 ∨ c = -1 ∨ y < u + D 7 k
    · rw [if_pos zl]
      simp only [b_Search_writeNext_139, kd_1, kd_2, ln_3, ll_3, kd_46, kd_47, ln_48, ll_48, ln_49, ll_49, kd_50, kd_51, ln_52, ll_52, ln_53, ll_53, ln_54, ll_54, ln_55, ll_55, ln_56, ll_56, ln_57, ll_57, ln_58, ll_58, kd_59, ln_60, ll_60, ln_61, ll_61, ln_62, ll_62, ln_63, ll_63, kd_64, ln_127, ll_127, ln_128, ll_128, ln_129, ll_129, ln_130, ll_130, ln_131, ll_131, ln_132, ll_132, ln_133, ll_133, ln_134, ll_134, kd_135, ln_136, ll_136, pc_1_0 hC, pc_1_3 hC, pc_1_4 hC, pc_1_5 hC, pc_1_6 hC, pc_1_7 hC, pc_1_8 hC, pc_2_0 hC, pc_46_0 hC, pc_50_0 hC, pc_50_1 hC, pc_50_2 hC, pc_50_3 hC, pc_50_4 hC, pc_50_5 hC, pc_64_2 hC, pc_64_3 hC, pc_135_0 hC, am_up_eq, Int.reduceEq, Int.reduceLT, Int.reduceLE, Int.reduceNeg, if_true, if_false, c_const, c_lconst, c_ref, c_iload, c_lload, c_aload, c_istore, c_lstore, c_astore, c_iinc, c_iadd, c_isub, c_imul, c_ladd, c_lsub, c_lmul, c_idiv, c_irem, c_ldiv, c_lrem, c_iand, c_ior, c_ixor, c_ishl, c_ishr, c_ineg, c_i2l, c_l2i, c_i2c, c_lcmp, c_dup, c_pop, c_dup2, c_at, c_icmp_eq, c_icmp_ne, c_icmp_lt, c_icmp_ge, c_icmp_gt, c_icmp_le, c_if_eq, c_if_ne, c_if_lt, c_if_ge, c_if_gt, c_if_le, c_ifnull, c_ifnonnull, am_swK, c_sw, c_iret, c_zret, c_cret, c_bret, c_lret, c_aret, c_vret, c_getI, c_getR, c_putI, c_putZ, c_putR, c_iald, c_zald, c_cald, c_lald, c_oald, c_gald, c_iast, c_zast, c_cast, c_last, c_oast, c_alen, c_callS0, c_callS1, c_callS2, c_callS3, c_callS4, c_callS5, c_callS6, c_callS7, c_callV0, c_callV1, c_callV2, c_callV3, c_callV4, c_callV5, c_callV6, c_callV7, c_callT0, c_callT1, am_nx_eq, am_set, am_set2, am_clr, am_isL, am_push, am_w, am_ent, am_ent1, List.getElem?_cons_zero, List.getElem?_cons_succ, List.set_cons_zero, List.set_cons_succ, List.getD_cons_zero, List.getD_cons_succ, List.cons_append, List.nil_append, List.append_nil, List.replicate_succ, List.replicate_zero, Nat.reduceAdd, Nat.reduceSub, Nat.reduceLeDiff, Bool.false_eq_true, reduceIte, true_and, and_true, true_or, or_true, or_self, am_i32, am_i64, bz_0, bz_01, bz_em, bz_n0, Classical.not_not, am_cmp_lt0, am_cmp_gt0, am_cmp_eq0, am_cmp_ge0, am_cmp_le0, am_cmp_ne0]
      try simp only [Int.reduceEq, Int.reduceLT, Int.reduceLE, Int.reduceNeg, not_true_eq_false, not_false_eq_true, false_implies, true_implies, implies_true, true_and, and_true]
      exact skip _ _ _ _ M (CSc.rf _ _) hC (fun w => by have := w.2.2.2.1; omega)
    · rw [if_neg zl]
      have yk : u + D 7 k ≤ y := by omega
      have hv := hW k c (u + D 7 k) k1.1 k1.2 c1.1 c1.2 (by omega) yk
      have v57 : M 57 (5184 * (dn + 1) + 8 * (81 * c + (u + D 7 k)) + (if M0 50 8 = 1 then k else 0)) = W k c (u + D 7 k) := by
        rw [hs.1 57 (by decide) (by decide)]
        exact hv.1
      have rr := vO_rng (by omega) hv.2
      have sl : 0 ≤ (if M0 50 8 = 1 then k else 0) ∧ (if M0 50 8 = 1 then k else 0) ≤ 10 := by split <;> omega
      simp only [b_Search_writeNext_119, kd_1, kd_2, ln_3, ll_3, kd_46, kd_47, ln_48, ll_48, ln_49, ll_49, kd_50, kd_51, ln_52, ll_52, ln_53, ll_53, ln_54, ll_54, ln_55, ll_55, ln_56, ll_56, ln_57, ll_57, ln_58, ll_58, kd_59, ln_60, ll_60, ln_61, ll_61, ln_62, ll_62, ln_63, ll_63, kd_64, ln_127, ll_127, ln_128, ll_128, ln_129, ll_129, ln_130, ll_130, ln_131, ll_131, ln_132, ll_132, ln_133, ll_133, ln_134, ll_134, kd_135, ln_136, ll_136, pc_1_0 hC, pc_1_3 hC, pc_1_4 hC, pc_1_5 hC, pc_1_6 hC, pc_1_7 hC, pc_1_8 hC, pc_2_0 hC, pc_46_0 hC, pc_50_0 hC, pc_50_1 hC, pc_50_2 hC, pc_50_3 hC, pc_50_4 hC, pc_50_5 hC, pc_64_2 hC, pc_64_3 hC, pc_135_0 hC, am_up_eq, Int.reduceEq, Int.reduceLT, Int.reduceLE, Int.reduceNeg, if_true, if_false, c_const, c_lconst, c_ref, c_iload, c_lload, c_aload, c_istore, c_lstore, c_astore, c_iinc, c_iadd, c_isub, c_imul, c_ladd, c_lsub, c_lmul, c_idiv, c_irem, c_ldiv, c_lrem, c_iand, c_ior, c_ixor, c_ishl, c_ishr, c_ineg, c_i2l, c_l2i, c_i2c, c_lcmp, c_dup, c_pop, c_dup2, c_at, c_icmp_eq, c_icmp_ne, c_icmp_lt, c_icmp_ge, c_icmp_gt, c_icmp_le, c_if_eq, c_if_ne, c_if_lt, c_if_ge, c_if_gt, c_if_le, c_ifnull, c_ifnonnull, am_swK, c_sw, c_iret, c_zret, c_cret, c_bret, c_lret, c_aret, c_vret, c_getI, c_getR, c_putI, c_putZ, c_putR, c_iald, c_zald, c_cald, c_lald, c_oald, c_gald, c_iast, c_zast, c_cast, c_last, c_oast, c_alen, c_callS0, c_callS1, c_callS2, c_callS3, c_callS4, c_callS5, c_callS6, c_callS7, c_callV0, c_callV1, c_callV2, c_callV3, c_callV4, c_callV5, c_callV6, c_callV7, c_callT0, c_callT1, am_nx_eq, am_set, am_set2, am_clr, am_isL, am_push, am_w, am_ent, am_ent1, List.getElem?_cons_zero, List.getElem?_cons_succ, List.set_cons_zero, List.set_cons_succ, List.getD_cons_zero, List.getD_cons_succ, List.cons_append, List.nil_append, List.append_nil, List.replicate_succ, List.replicate_zero, Nat.reduceAdd, Nat.reduceSub, Nat.reduceLeDiff, Bool.false_eq_true, reduceIte, true_and, and_true, true_or, or_true, or_self, am_i32, am_i64, bz_0, bz_01, bz_em, bz_n0, Classical.not_not, am_cmp_lt0, am_cmp_gt0, am_cmp_eq0, am_cmp_ge0, am_cmp_le0, am_cmp_ne0]
      refine ⟨fun _ => ⟨by omega, k_slotOf (by rw [e8]; exact h8) ?_⟩, fun z => by omega⟩
      rw [e8]
      simp only [kd_1, kd_2, ln_3, ll_3, kd_46, kd_47, ln_48, ll_48, ln_49, ll_49, kd_50, kd_51, ln_52, ll_52, ln_53, ll_53, ln_54, ll_54, ln_55, ll_55, ln_56, ll_56, ln_57, ll_57, ln_58, ll_58, kd_59, ln_60, ll_60, ln_61, ll_61, ln_62, ll_62, ln_63, ll_63, kd_64, ln_127, ll_127, ln_128, ll_128, ln_129, ll_129, ln_130, ll_130, ln_131, ll_131, ln_132, ll_132, ln_133, ll_133, ln_134, ll_134, kd_135, ln_136, ll_136, pc_1_0 hC, pc_1_3 hC, pc_1_4 hC, pc_1_5 hC, pc_1_6 hC, pc_1_7 hC, pc_1_8 hC, pc_2_0 hC, pc_46_0 hC, pc_50_0 hC, pc_50_1 hC, pc_50_2 hC, pc_50_3 hC, pc_50_4 hC, pc_50_5 hC, pc_64_2 hC, pc_64_3 hC, pc_135_0 hC, am_up_eq, Int.reduceEq, Int.reduceLT, Int.reduceLE, Int.reduceNeg, if_true, if_false, c_const, c_lconst, c_ref, c_iload, c_lload, c_aload, c_istore, c_lstore, c_astore, c_iinc, c_iadd, c_isub, c_imul, c_ladd, c_lsub, c_lmul, c_idiv, c_irem, c_ldiv, c_lrem, c_iand, c_ior, c_ixor, c_ishl, c_ishr, c_ineg, c_i2l, c_l2i, c_i2c, c_lcmp, c_dup, c_pop, c_dup2, c_at, c_icmp_eq, c_icmp_ne, c_icmp_lt, c_icmp_ge, c_icmp_gt, c_icmp_le, c_if_eq, c_if_ne, c_if_lt, c_if_ge, c_if_gt, c_if_le, c_ifnull, c_ifnonnull, am_swK, c_sw, c_iret, c_zret, c_cret, c_bret, c_lret, c_aret, c_vret, c_getI, c_getR, c_putI, c_putZ, c_putR, c_iald, c_zald, c_cald, c_lald, c_oald, c_gald, c_iast, c_zast, c_cast, c_last, c_oast, c_alen, c_callS0, c_callS1, c_callS2, c_callS3, c_callS4, c_callS5, c_callS6, c_callS7, c_callV0, c_callV1, c_callV2, c_callV3, c_callV4, c_callV5, c_callV6, c_callV7, c_callT0, c_callT1, am_nx_eq, am_set, am_set2, am_clr, am_isL, am_push, am_w, am_ent, am_ent1, List.getElem?_cons_zero, List.getElem?_cons_succ, List.set_cons_zero, List.set_cons_succ, List.getD_cons_zero, List.getD_cons_succ, List.cons_append, List.nil_append, List.append_nil, List.replicate_succ, List.replicate_zero, Nat.reduceAdd, Nat.reduceSub, Nat.reduceLeDiff, Bool.false_eq_true, reduceIte, true_and, and_true, true_or, or_true, or_self, am_i32, am_i64, bz_0, bz_01, bz_em, bz_n0, Classical.not_not, am_cmp_lt0, am_cmp_gt0, am_cmp_eq0, am_cmp_ge0, am_cmp_le0, am_cmp_ne0]
      refine k_stateOf (by omega) (by omega) sl ?_
      simp only [v57, b_Search_writeNext_139, b_Search_writeNext_151, b_Search_writeNext_174, e54, e55, ee, kd_1, kd_2, ln_3, ll_3, kd_46, kd_47, ln_48, ll_48, ln_49, ll_49, kd_50, kd_51, ln_52, ll_52, ln_53, ll_53, ln_54, ll_54, ln_55, ll_55, ln_56, ll_56, ln_57, ll_57, ln_58, ll_58, kd_59, ln_60, ll_60, ln_61, ll_61, ln_62, ll_62, ln_63, ll_63, kd_64, ln_127, ll_127, ln_128, ll_128, ln_129, ll_129, ln_130, ll_130, ln_131, ll_131, ln_132, ll_132, ln_133, ll_133, ln_134, ll_134, kd_135, ln_136, ll_136, pc_1_0 hC, pc_1_3 hC, pc_1_4 hC, pc_1_5 hC, pc_1_6 hC, pc_1_7 hC, pc_1_8 hC, pc_2_0 hC, pc_46_0 hC, pc_50_0 hC, pc_50_1 hC, pc_50_2 hC, pc_50_3 hC, pc_50_4 hC, pc_50_5 hC, pc_64_2 hC, pc_64_3 hC, pc_135_0 hC, am_up_eq, Int.reduceEq, Int.reduceLT, Int.reduceLE, Int.reduceNeg, if_true, if_false, c_const, c_lconst, c_ref, c_iload, c_lload, c_aload, c_istore, c_lstore, c_astore, c_iinc, c_iadd, c_isub, c_imul, c_ladd, c_lsub, c_lmul, c_idiv, c_irem, c_ldiv, c_lrem, c_iand, c_ior, c_ixor, c_ishl, c_ishr, c_ineg, c_i2l, c_l2i, c_i2c, c_lcmp, c_dup, c_pop, c_dup2, c_at, c_icmp_eq, c_icmp_ne, c_icmp_lt, c_icmp_ge, c_icmp_gt, c_icmp_le, c_if_eq, c_if_ne, c_if_lt, c_if_ge, c_if_gt, c_if_le, c_ifnull, c_ifnonnull, am_swK, c_sw, c_iret, c_zret, c_cret, c_bret, c_lret, c_aret, c_vret, c_getI, c_getR, c_putI, c_putZ, c_putR, c_iald, c_zald, c_cald, c_lald, c_oald, c_gald, c_iast, c_zast, c_cast, c_last, c_oast, c_alen, c_callS0, c_callS1, c_callS2, c_callS3, c_callS4, c_callS5, c_callS6, c_callS7, c_callV0, c_callV1, c_callV2, c_callV3, c_callV4, c_callV5, c_callV6, c_callV7, c_callT0, c_callT1, am_nx_eq, am_set, am_set2, am_clr, am_isL, am_push, am_w, am_ent, am_ent1, List.getElem?_cons_zero, List.getElem?_cons_succ, List.set_cons_zero, List.set_cons_succ, List.getD_cons_zero, List.getD_cons_succ, List.cons_append, List.nil_append, List.append_nil, List.replicate_succ, List.replicate_zero, Nat.reduceAdd, Nat.reduceSub, Nat.reduceLeDiff, Bool.false_eq_true, reduceIte, true_and, and_true, true_or, or_true, or_self, am_i32, am_i64, bz_0, bz_01, bz_em, bz_n0, Classical.not_not, am_cmp_lt0, am_cmp_gt0, am_cmp_eq0, am_cmp_ge0, am_cmp_le0, am_cmp_ne0]
      repeat (with_reducible refine And.intro (by omega) ?_)
      refine ⟨fun zr9 => ?_, fun zr9 => skip _ _ _ _ M (CSc.rf _ _) hC (fun w => w.2.2.2.2.2.2.1 zr9)⟩
      have body : ∀ g9, g9 = bz (l = k) → b_Search_writeNext_175 (d + 5) Q 0 0 [vR 50, vR 59, vI (81 * b + t), vI left, vI dn, vI l9, vI (81 * b + u), vI (M0 54 (81 * b + u) + (q : Int)), vI k, vI (81 * c + (u + D 7 k)), vI (W k c (u + D 7 k)), x11] [vI g9, vI dn, vI (81 * b + u), vI (enL D b u k c), vR 50] (am_SH, M) := by
        intro g9 hg9
        have g01 : 0 ≤ g9 ∧ g9 ≤ 1 := by rw [hg9]; unfold bz; split <;> omega
        simp only [b_Search_writeNext_175, kd_1, kd_2, ln_3, ll_3, kd_46, kd_47, ln_48, ll_48, ln_49, ll_49, kd_50, kd_51, ln_52, ll_52, ln_53, ll_53, ln_54, ll_54, ln_55, ll_55, ln_56, ll_56, ln_57, ll_57, ln_58, ll_58, kd_59, ln_60, ll_60, ln_61, ll_61, ln_62, ll_62, ln_63, ll_63, kd_64, ln_127, ll_127, ln_128, ll_128, ln_129, ll_129, ln_130, ll_130, ln_131, ll_131, ln_132, ll_132, ln_133, ll_133, ln_134, ll_134, kd_135, ln_136, ll_136, pc_1_0 hC, pc_1_3 hC, pc_1_4 hC, pc_1_5 hC, pc_1_6 hC, pc_1_7 hC, pc_1_8 hC, pc_2_0 hC, pc_46_0 hC, pc_50_0 hC, pc_50_1 hC, pc_50_2 hC, pc_50_3 hC, pc_50_4 hC, pc_50_5 hC, pc_64_2 hC, pc_64_3 hC, pc_135_0 hC, am_up_eq, Int.reduceEq, Int.reduceLT, Int.reduceLE, Int.reduceNeg, if_true, if_false, c_const, c_lconst, c_ref, c_iload, c_lload, c_aload, c_istore, c_lstore, c_astore, c_iinc, c_iadd, c_isub, c_imul, c_ladd, c_lsub, c_lmul, c_idiv, c_irem, c_ldiv, c_lrem, c_iand, c_ior, c_ixor, c_ishl, c_ishr, c_ineg, c_i2l, c_l2i, c_i2c, c_lcmp, c_dup, c_pop, c_dup2, c_at, c_icmp_eq, c_icmp_ne, c_icmp_lt, c_icmp_ge, c_icmp_gt, c_icmp_le, c_if_eq, c_if_ne, c_if_lt, c_if_ge, c_if_gt, c_if_le, c_ifnull, c_ifnonnull, am_swK, c_sw, c_iret, c_zret, c_cret, c_bret, c_lret, c_aret, c_vret, c_getI, c_getR, c_putI, c_putZ, c_putR, c_iald, c_zald, c_cald, c_lald, c_oald, c_gald, c_iast, c_zast, c_cast, c_last, c_oast, c_alen, c_callS0, c_callS1, c_callS2, c_callS3, c_callS4, c_callS5, c_callS6, c_callS7, c_callV0, c_callV1, c_callV2, c_callV3, c_callV4, c_callV5, c_callV6, c_callV7, c_callT0, c_callT1, am_nx_eq, am_set, am_set2, am_clr, am_isL, am_push, am_w, am_ent, am_ent1, List.getElem?_cons_zero, List.getElem?_cons_succ, List.set_cons_zero, List.set_cons_succ, List.getD_cons_zero, List.getD_cons_succ, List.cons_append, List.nil_append, List.append_nil, List.replicate_succ, List.replicate_zero, Nat.reduceAdd, Nat.reduceSub, Nat.reduceLeDiff, Bool.false_eq_true, reduceIte, true_and, and_true, true_or, or_true, or_self, am_i32, am_i64, bz_0, bz_01, bz_em, bz_n0, Classical.not_not, am_cmp_lt0, am_cmp_gt0, am_cmp_eq0, am_cmp_ge0, am_cmp_le0, am_cmp_ne0]
        refine k_worthOf hG hA ha e6 hb (by omega) k1 c1 ok (by omega) g01 (fun M1 s1 gg => ?_)
        have hC1 := gg.P
        have wi := wO_in D b u k c dn g9
        rw [hg9] at wi ⊢
        have e9' : M1 50 9 = 0 := by rw [s1.1 50 (by decide) (by decide)]; exact e9
        have e55' : M1 55 (M0 54 (81 * b + u) + q) = enL D b u k c := by rw [s1.1 55 (by decide) (by decide), e55, ee]
        have hC := hC1
        simp only [kd_1, kd_2, ln_3, ll_3, kd_46, kd_47, ln_48, ll_48, ln_49, ll_49, kd_50, kd_51, ln_52, ll_52, ln_53, ll_53, ln_54, ll_54, ln_55, ll_55, ln_56, ll_56, ln_57, ll_57, ln_58, ll_58, kd_59, ln_60, ll_60, ln_61, ll_61, ln_62, ll_62, ln_63, ll_63, kd_64, ln_127, ll_127, ln_128, ll_128, ln_129, ll_129, ln_130, ll_130, ln_131, ll_131, ln_132, ll_132, ln_133, ll_133, ln_134, ll_134, kd_135, ln_136, ll_136, pc_1_0 hC, pc_1_3 hC, pc_1_4 hC, pc_1_5 hC, pc_1_6 hC, pc_1_7 hC, pc_1_8 hC, pc_2_0 hC, pc_46_0 hC, pc_50_0 hC, pc_50_1 hC, pc_50_2 hC, pc_50_3 hC, pc_50_4 hC, pc_50_5 hC, pc_64_2 hC, pc_64_3 hC, pc_135_0 hC, am_up_eq, Int.reduceEq, Int.reduceLT, Int.reduceLE, Int.reduceNeg, if_true, if_false, c_const, c_lconst, c_ref, c_iload, c_lload, c_aload, c_istore, c_lstore, c_astore, c_iinc, c_iadd, c_isub, c_imul, c_ladd, c_lsub, c_lmul, c_idiv, c_irem, c_ldiv, c_lrem, c_iand, c_ior, c_ixor, c_ishl, c_ishr, c_ineg, c_i2l, c_l2i, c_i2c, c_lcmp, c_dup, c_pop, c_dup2, c_at, c_icmp_eq, c_icmp_ne, c_icmp_lt, c_icmp_ge, c_icmp_gt, c_icmp_le, c_if_eq, c_if_ne, c_if_lt, c_if_ge, c_if_gt, c_if_le, c_ifnull, c_ifnonnull, am_swK, c_sw, c_iret, c_zret, c_cret, c_bret, c_lret, c_aret, c_vret, c_getI, c_getR, c_putI, c_putZ, c_putR, c_iald, c_zald, c_cald, c_lald, c_oald, c_gald, c_iast, c_zast, c_cast, c_last, c_oast, c_alen, c_callS0, c_callS1, c_callS2, c_callS3, c_callS4, c_callS5, c_callS6, c_callS7, c_callV0, c_callV1, c_callV2, c_callV3, c_callV4, c_callV5, c_callV6, c_callV7, c_callT0, c_callT1, am_nx_eq, am_set, am_set2, am_clr, am_isL, am_push, am_w, am_ent, am_ent1, List.getElem?_cons_zero, List.getElem?_cons_succ, List.set_cons_zero, List.set_cons_succ, List.getD_cons_zero, List.getD_cons_succ, List.cons_append, List.nil_append, List.append_nil, List.replicate_succ, List.replicate_zero, Nat.reduceAdd, Nat.reduceSub, Nat.reduceLeDiff, Bool.false_eq_true, reduceIte, true_and, and_true, true_or, or_true, or_self, am_i32, am_i64, bz_0, bz_01, bz_em, bz_n0, Classical.not_not, am_cmp_lt0, am_cmp_gt0, am_cmp_eq0, am_cmp_ge0, am_cmp_le0, am_cmp_ne0]
        refine ⟨fun z => skip _ _ _ _ M1 s1 hC1 (fun w => wi.2.2.mp z w.2.2.2.2.2.1), fun z => k_withF (Or.inl rfl) e9' rr (by omega) ?_⟩
        have egd : gd D b u k c dn (bz (l = k)) = 1 := by
          by_cases w : gd D b u k c dn (bz (l = k)) = 1
          · exact w
          · exact absurd (wi.2.2.mpr w) z
        have ewO : wO D b u k c dn (bz (l = k)) = wth D b u k c dn (bz (l = k)) := by unfold wO; rw [if_pos egd]
        rw [ewO]
        have egf : gf 0 (W k c (u + D 7 k)) (wth D b u k c dn (bz (l = k))) = W k c (u + D 7 k) + 1000 * wth D b u k c dn (bz (l = k)) - 1 := by unfold gf; rw [if_neg (by decide)]
        have m81 : (81 * b + u).tmod 81 = u := by rw [Int.tmod_eq_emod_of_nonneg (by omega)]; omega
        have ba9 : ∀ Q' : AV → am_S → Prop, Q' (vI c) (am_SH, M1) → am_Call (d + 5) m_Search_barOf 0 0 [vI (enL D b u k c)] (am_SH, M1) Q' := fun Q' hq => k_barOf (by omega) (by rw [en.2.2.2.1]; exact hq)
        simp only [egf, m81, e55', kd_1, kd_2, ln_3, ll_3, kd_46, kd_47, ln_48, ll_48, ln_49, ll_49, kd_50, kd_51, ln_52, ll_52, ln_53, ll_53, ln_54, ll_54, ln_55, ll_55, ln_56, ll_56, ln_57, ll_57, ln_58, ll_58, kd_59, ln_60, ll_60, ln_61, ll_61, ln_62, ll_62, ln_63, ll_63, kd_64, ln_127, ll_127, ln_128, ll_128, ln_129, ll_129, ln_130, ll_130, ln_131, ll_131, ln_132, ll_132, ln_133, ll_133, ln_134, ll_134, kd_135, ln_136, ll_136, pc_1_0 hC, pc_1_3 hC, pc_1_4 hC, pc_1_5 hC, pc_1_6 hC, pc_1_7 hC, pc_1_8 hC, pc_2_0 hC, pc_46_0 hC, pc_50_0 hC, pc_50_1 hC, pc_50_2 hC, pc_50_3 hC, pc_50_4 hC, pc_50_5 hC, pc_64_2 hC, pc_64_3 hC, pc_135_0 hC, am_up_eq, Int.reduceEq, Int.reduceLT, Int.reduceLE, Int.reduceNeg, if_true, if_false, c_const, c_lconst, c_ref, c_iload, c_lload, c_aload, c_istore, c_lstore, c_astore, c_iinc, c_iadd, c_isub, c_imul, c_ladd, c_lsub, c_lmul, c_idiv, c_irem, c_ldiv, c_lrem, c_iand, c_ior, c_ixor, c_ishl, c_ishr, c_ineg, c_i2l, c_l2i, c_i2c, c_lcmp, c_dup, c_pop, c_dup2, c_at, c_icmp_eq, c_icmp_ne, c_icmp_lt, c_icmp_ge, c_icmp_gt, c_icmp_le, c_if_eq, c_if_ne, c_if_lt, c_if_ge, c_if_gt, c_if_le, c_ifnull, c_ifnonnull, am_swK, c_sw, c_iret, c_zret, c_cret, c_bret, c_lret, c_aret, c_vret, c_getI, c_getR, c_putI, c_putZ, c_putR, c_iald, c_zald, c_cald, c_lald, c_oald, c_gald, c_iast, c_zast, c_cast, c_last, c_oast, c_alen, c_callS0, c_callS1, c_callS2, c_callS3, c_callS4, c_callS5, c_callS6, c_callS7, c_callV0, c_callV1, c_callV2, c_callV3, c_callV4, c_callV5, c_callV6, c_callV7, c_callT0, c_callT1, am_nx_eq, am_set, am_set2, am_clr, am_isL, am_push, am_w, am_ent, am_ent1, List.getElem?_cons_zero, List.getElem?_cons_succ, List.set_cons_zero, List.set_cons_succ, List.getD_cons_zero, List.getD_cons_succ, List.cons_append, List.nil_append, List.append_nil, List.replicate_succ, List.replicate_zero, Nat.reduceAdd, Nat.reduceSub, Nat.reduceLeDiff, Bool.false_eq_true, reduceIte, true_and, and_true, true_or, or_true, or_self, am_i32, am_i64, bz_0, bz_01, bz_em, bz_n0, Classical.not_not, am_cmp_lt0, am_cmp_gt0, am_cmp_eq0, am_cmp_ge0, am_cmp_le0, am_cmp_ne0]
        refine ⟨fun z2 => skip _ _ _ _ M1 s1 hC1 (fun w => z2 w.2.2.2.2.2.2.2), fun z2 => ?_⟩
        repeat (with_reducible refine And.intro (by omega) ?_)
        refine ba9 _ ?_
        have hAc1 : CAct M1 A 59 := hAc.eq (fun o a b => (hs.tr s1).1 o (by omega) (by omega))
        simp only [kd_1, kd_2, ln_3, ll_3, kd_46, kd_47, ln_48, ll_48, ln_49, ll_49, kd_50, kd_51, ln_52, ll_52, ln_53, ll_53, ln_54, ll_54, ln_55, ll_55, ln_56, ll_56, ln_57, ll_57, ln_58, ll_58, kd_59, ln_60, ll_60, ln_61, ll_61, ln_62, ll_62, ln_63, ll_63, kd_64, ln_127, ll_127, ln_128, ll_128, ln_129, ll_129, ln_130, ll_130, ln_131, ll_131, ln_132, ll_132, ln_133, ll_133, ln_134, ll_134, kd_135, ln_136, ll_136, pc_1_0 hC, pc_1_3 hC, pc_1_4 hC, pc_1_5 hC, pc_1_6 hC, pc_1_7 hC, pc_1_8 hC, pc_2_0 hC, pc_46_0 hC, pc_50_0 hC, pc_50_1 hC, pc_50_2 hC, pc_50_3 hC, pc_50_4 hC, pc_50_5 hC, pc_64_2 hC, pc_64_3 hC, pc_135_0 hC, am_up_eq, Int.reduceEq, Int.reduceLT, Int.reduceLE, Int.reduceNeg, if_true, if_false, c_const, c_lconst, c_ref, c_iload, c_lload, c_aload, c_istore, c_lstore, c_astore, c_iinc, c_iadd, c_isub, c_imul, c_ladd, c_lsub, c_lmul, c_idiv, c_irem, c_ldiv, c_lrem, c_iand, c_ior, c_ixor, c_ishl, c_ishr, c_ineg, c_i2l, c_l2i, c_i2c, c_lcmp, c_dup, c_pop, c_dup2, c_at, c_icmp_eq, c_icmp_ne, c_icmp_lt, c_icmp_ge, c_icmp_gt, c_icmp_le, c_if_eq, c_if_ne, c_if_lt, c_if_ge, c_if_gt, c_if_le, c_ifnull, c_ifnonnull, am_swK, c_sw, c_iret, c_zret, c_cret, c_bret, c_lret, c_aret, c_vret, c_getI, c_getR, c_putI, c_putZ, c_putR, c_iald, c_zald, c_cald, c_lald, c_oald, c_gald, c_iast, c_zast, c_cast, c_last, c_oast, c_alen, c_callS0, c_callS1, c_callS2, c_callS3, c_callS4, c_callS5, c_callS6, c_callS7, c_callV0, c_callV1, c_callV2, c_callV3, c_callV4, c_callV5, c_callV6, c_callV7, c_callT0, c_callT1, am_nx_eq, am_set, am_set2, am_clr, am_isL, am_push, am_w, am_ent, am_ent1, List.getElem?_cons_zero, List.getElem?_cons_succ, List.set_cons_zero, List.set_cons_succ, List.getD_cons_zero, List.getD_cons_succ, List.cons_append, List.nil_append, List.append_nil, List.replicate_succ, List.replicate_zero, Nat.reduceAdd, Nat.reduceSub, Nat.reduceLeDiff, Bool.false_eq_true, reduceIte, true_and, and_true, true_or, or_true, or_self, am_i32, am_i64, bz_0, bz_01, bz_em, bz_n0, Classical.not_not, am_cmp_lt0, am_cmp_gt0, am_cmp_eq0, am_cmp_ge0, am_cmp_le0, am_cmp_ne0]
        refine k_addFlight hC1 isA59 hAc1 (by omega) (by omega) (fun M2 s2 p2 a2 f2 => ?_)
        simp only [c_const, c_lconst, c_ref, c_iload, c_lload, c_aload, c_istore, c_lstore, c_astore, c_iinc, c_iadd, c_isub, c_imul, c_ladd, c_lsub, c_lmul, c_idiv, c_irem, c_ldiv, c_lrem, c_iand, c_ior, c_ixor, c_ishl, c_ishr, c_ineg, c_i2l, c_l2i, c_i2c, c_lcmp, c_dup, c_pop, c_dup2, c_at, c_icmp_eq, c_icmp_ne, c_icmp_lt, c_icmp_ge, c_icmp_gt, c_icmp_le, c_if_eq, c_if_ne, c_if_lt, c_if_ge, c_if_gt, c_if_le, c_ifnull, c_ifnonnull, am_swK, c_sw, c_iret, c_zret, c_cret, c_bret, c_lret, c_aret, c_vret, c_getI, c_getR, c_putI, c_putZ, c_putR, c_iald, c_zald, c_cald, c_lald, c_oald, c_gald, c_iast, c_zast, c_cast, c_last, c_oast, c_alen, c_callS0, c_callS1, c_callS2, c_callS3, c_callS4, c_callS5, c_callS6, c_callS7, c_callV0, c_callV1, c_callV2, c_callV3, c_callV4, c_callV5, c_callV6, c_callV7, c_callT0, c_callT1, am_nx_eq, am_set, am_set2, am_clr, am_isL, am_push, am_w, am_ent, am_ent1, List.getElem?_cons_zero, List.getElem?_cons_succ, List.set_cons_zero, List.set_cons_succ, List.getD_cons_zero, List.getD_cons_succ, List.cons_append, List.nil_append, List.append_nil, List.replicate_succ, List.replicate_zero, Nat.reduceAdd, Nat.reduceSub, Nat.reduceLeDiff, Bool.false_eq_true, reduceIte, true_and, and_true, true_or, or_true, or_self, am_i32, am_i64, bz_0, bz_01, bz_em, bz_n0, Classical.not_not, am_cmp_lt0, am_cmp_gt0, am_cmp_eq0, am_cmp_ge0, am_cmp_le0, am_cmp_ne0]
        refine h1 k c M1 M2 ⟨⟨hu.2.1, k1, c1, yk, ok.1, egd, zr9, z2⟩, fun u' k' c' w lx => ?_⟩ (hs.tr s1) s2 p2 a2 (by rw [f2, (hs.tr s1).1 59 (by decide) (by decide)])
        rcases lx with lx | ⟨rfl, lx⟩
        · exact hnu u' k' c' lx w
        · obtain ⟨j, j1, j2⟩ := LL_at (cnd_ok ha hWc hy.2 w) w.2.1 w.2.2.1
          have k8 : 0 ≤ k' ∧ k' < 8 := by have := w.2.1; omega
          have c8 : 0 ≤ c' ∧ c' < 8 := by have := w.2.2.1; omega
          rcases Nat.lt_trichotomy j q with z3 | z3 | z3
          · exact hno j k' c' z3 j2 w
          · rw [z3, ee] at j2
            have en' := enL_in (D := D) (b := b) (t := u') k8 c8
            have a1 := en.2.2.1
            have a2 := en.2.2.2.1
            rw [j2, en'.2.2.1] at a1
            rw [j2, en'.2.2.2.1] at a2
            omega
          · have o := LL_lt hD z3 j1
            rw [j2, ee, oE_en (by omega) (by omega) k8 c8] at o
            unfold lt2 at o
            omega
      repeat (with_reducible refine And.intro (by omega) ?_)
      refine ⟨fun z => body 0 (by rw [bz_f (fun w => z ((hl k k1.1 k1.2).mpr w))]), fun z => body 1 (by rw [bz_t ((hl k k1.1 k1.2).mp z)])⟩
end
