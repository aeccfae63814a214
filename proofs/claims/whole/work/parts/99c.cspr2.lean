/-! the class: the spread -/
section
variable {M M' D : Int → Int → Int} {T F : Int → Int} {P : Int → Int → Int} {B : Int → Int → Int → Int} {O : Int → Int} {R G : Int} {d : Nat} {Q : AV → am_S → Prop}
theorem k_spreadFlights {n y dn b u v : Int} {H : Int → Prop} {Z : Int → Int → Int → Prop} (hU : SU M D R n y (-1) (-1)) (hn : 0 ≤ n ∧ n ≤ 8) (hy : 0 ≤ y ∧ y ≤ 80) (hdn : 0 ≤ dn ∧ dn < n) (hb : 0 ≤ b ∧ b < D 0 0) (hu : 0 ≤ u ∧ u ≤ y) (hv : bs v H) (hZ : LZ M D y (dn + 1) Z)
    (h : ∀ M', SG9 M M' → (∀ j, (j < 648 * (dn + 1) ∨ 648 * (dn + 2) ≤ j) → M' 58 j = M 58 j) → LZ M' D y (dn + 1) (fun k c t => Z k c t ∨ nwS D y dn H b u k c t) → Q none (am_SH, M')) : am_Call (d + 6) m_Search_spreadFlights 0 0 [vR 50, vI dn, vI (81 * b + u), vI v] (am_SH, M) Q := by
  have hC := hU.1.P
  have hd0 := hU.1.W.1
  have go := k_sf_l (d := d) (Q := Q) (M0 := M) (Z := Z) hU hn hy hdn hb hu hv h (LL D b u).length 0 none none none M (by omega) (SG9.rf M) (fun _ _ => rfl) (fun c t c0 c1 t0 t1 => (hZ c t c0 c1 t0 t1).cg (fun k k0 => ⟨Or.inl, fun w => w.elim id (fun w => by obtain ⟨_, j, j1, _⟩ := w; omega)⟩))
  rw [show M 54 (81 * b + u) + ((0 : Nat) : Int) = M 54 (81 * b + u) by omega] at go
  refine am_go B_Search_spreadFlights_0 rfl (Nat.le_of_ble_eq_true rfl) ?_
  simp only [b_Search_spreadFlights_0, kd_1, kd_2, ln_3, ll_3, kd_46, kd_47, ln_48, ll_48, ln_49, ll_49, kd_50, kd_51, ln_52, ll_52, ln_53, ll_53, ln_54, ll_54, ln_55, ll_55, ln_56, ll_56, ln_57, ll_57, ln_58, ll_58, kd_59, ln_60, ll_60, ln_61, ll_61, ln_62, ll_62, ln_63, ll_63, kd_64, ln_127, ll_127, ln_128, ll_128, ln_129, ll_129, ln_130, ll_130, ln_131, ll_131, ln_132, ll_132, ln_133, ll_133, ln_134, ll_134, kd_135, ln_136, ll_136, pc_1_0 hC, pc_1_3 hC, pc_1_4 hC, pc_1_5 hC, pc_1_6 hC, pc_1_7 hC, pc_1_8 hC, pc_2_0 hC, pc_46_0 hC, pc_50_0 hC, pc_50_1 hC, pc_50_2 hC, pc_50_3 hC, pc_50_4 hC, pc_50_5 hC, pc_64_2 hC, pc_64_3 hC, pc_135_0 hC, am_up_eq, Int.reduceEq, Int.reduceLT, Int.reduceLE, Int.reduceNeg, if_true, if_false, c_const, c_lconst, c_ref, c_iload, c_lload, c_aload, c_istore, c_lstore, c_astore, c_iinc, c_iadd, c_isub, c_imul, c_ladd, c_lsub, c_lmul, c_idiv, c_irem, c_ldiv, c_lrem, c_iand, c_ior, c_ixor, c_ishl, c_ishr, c_ineg, c_i2l, c_l2i, c_i2c, c_lcmp, c_dup, c_pop, c_dup2, c_at, c_icmp_eq, c_icmp_ne, c_icmp_lt, c_icmp_ge, c_icmp_gt, c_icmp_le, c_if_eq, c_if_ne, c_if_lt, c_if_ge, c_if_gt, c_if_le, c_ifnull, c_ifnonnull, am_swK, c_sw, c_iret, c_zret, c_cret, c_bret, c_lret, c_aret, c_vret, c_getI, c_getR, c_putI, c_putZ, c_putR, c_iald, c_zald, c_cald, c_lald, c_oald, c_gald, c_iast, c_zast, c_cast, c_last, c_oast, c_alen, c_callS0, c_callS1, c_callS2, c_callS3, c_callS4, c_callS5, c_callS6, c_callS7, c_callV0, c_callV1, c_callV2, c_callV3, c_callV4, c_callV5, c_callV6, c_callV7, c_callT0, c_callT1, am_nx_eq, am_set, am_set2, am_clr, am_isL, am_push, am_w, am_ent, am_ent1, List.getElem?_cons_zero, List.getElem?_cons_succ, List.set_cons_zero, List.set_cons_succ, List.getD_cons_zero, List.getD_cons_succ, List.cons_append, List.nil_append, List.append_nil, List.replicate_succ, List.replicate_zero, Nat.reduceAdd, Nat.reduceSub, Nat.reduceLeDiff, Bool.false_eq_true, reduceIte, true_and, and_true, true_or, or_true, or_self, am_i32, am_i64, bz_0, bz_01, bz_em, bz_n0, Classical.not_not, am_cmp_lt0, am_cmp_gt0, am_cmp_eq0, am_cmp_ge0, am_cmp_le0, am_cmp_ne0]
  repeat (with_reducible refine And.intro (by omega) ?_)
  exact go
theorem k_fill58 (h : ∀ M', (∀ o, o ≠ 58 → M' o = M o) → (∀ j, 0 ≤ j → j < 5832 → M' 58 j = 0) → Q none (am_SH, M')) : am_Call (d + 1) m_Arr_fill 0 0 [vR 58, vI 0] (am_SH, M) Q := by
  have lp : ∀ (m : Nat) (i : Int) (M1 : Int → Int → Int), i + m = 5832 → 0 ≤ i → (∀ o, o ≠ 58 → M1 o = M o) → (∀ j, 0 ≤ j → j < i → M1 58 j = 0) → am_Wp (d + 1) m_Arr_fill 0 0 5 [vR 58, vI 0, vI i, vI 5832] [] (am_SH, M1) Q := by
    intro m
    induction m with
    | zero =>
      intro i M1 hm hi h1 h2
      refine B_Arr_fill_5 _ _ _ _ _ ?_
      simp only [b_Arr_fill_5, b_Arr_fill_20, c_const, c_lconst, c_ref, c_iload, c_lload, c_aload, c_istore, c_lstore, c_astore, c_iinc, c_iadd, c_isub, c_imul, c_ladd, c_lsub, c_lmul, c_idiv, c_irem, c_ldiv, c_lrem, c_iand, c_ior, c_ixor, c_ishl, c_ishr, c_ineg, c_i2l, c_l2i, c_i2c, c_lcmp, c_dup, c_pop, c_dup2, c_at, c_icmp_eq, c_icmp_ne, c_icmp_lt, c_icmp_ge, c_icmp_gt, c_icmp_le, c_if_eq, c_if_ne, c_if_lt, c_if_ge, c_if_gt, c_if_le, c_ifnull, c_ifnonnull, am_swK, c_sw, c_iret, c_zret, c_cret, c_bret, c_lret, c_aret, c_vret, c_getI, c_getR, c_putI, c_putZ, c_putR, c_iald, c_zald, c_cald, c_lald, c_oald, c_gald, c_iast, c_zast, c_cast, c_last, c_oast, c_alen, c_callS0, c_callS1, c_callS2, c_callS3, c_callS4, c_callS5, c_callS6, c_callS7, c_callV0, c_callV1, c_callV2, c_callV3, c_callV4, c_callV5, c_callV6, c_callV7, c_callT0, c_callT1, am_nx_eq, am_set, am_set2, am_clr, am_isL, am_push, am_w, am_ent, am_ent1, List.getElem?_cons_zero, List.getElem?_cons_succ, List.set_cons_zero, List.set_cons_succ, List.getD_cons_zero, List.getD_cons_succ, List.cons_append, List.nil_append, List.append_nil, List.replicate_succ, List.replicate_zero, Nat.reduceAdd, Nat.reduceSub, Nat.reduceLeDiff, Bool.false_eq_true, reduceIte, true_and, and_true, true_or, or_true, or_self, am_i32, am_i64, bz_0, bz_01, bz_em, bz_n0, Classical.not_not, am_cmp_lt0, am_cmp_gt0, am_cmp_eq0, am_cmp_ge0, am_cmp_le0, am_cmp_ne0]
      exact ⟨fun _ => h M1 h1 (fun j j0 j1 => h2 j j0 (by omega)), fun z => by omega⟩
    | succ m ih =>
      intro i M1 hm hi h1 h2
      refine B_Arr_fill_5 _ _ _ _ _ ?_
      simp only [b_Arr_fill_5, b_Arr_fill_20, ln_58, ll_58, c_const, c_lconst, c_ref, c_iload, c_lload, c_aload, c_istore, c_lstore, c_astore, c_iinc, c_iadd, c_isub, c_imul, c_ladd, c_lsub, c_lmul, c_idiv, c_irem, c_ldiv, c_lrem, c_iand, c_ior, c_ixor, c_ishl, c_ishr, c_ineg, c_i2l, c_l2i, c_i2c, c_lcmp, c_dup, c_pop, c_dup2, c_at, c_icmp_eq, c_icmp_ne, c_icmp_lt, c_icmp_ge, c_icmp_gt, c_icmp_le, c_if_eq, c_if_ne, c_if_lt, c_if_ge, c_if_gt, c_if_le, c_ifnull, c_ifnonnull, am_swK, c_sw, c_iret, c_zret, c_cret, c_bret, c_lret, c_aret, c_vret, c_getI, c_getR, c_putI, c_putZ, c_putR, c_iald, c_zald, c_cald, c_lald, c_oald, c_gald, c_iast, c_zast, c_cast, c_last, c_oast, c_alen, c_callS0, c_callS1, c_callS2, c_callS3, c_callS4, c_callS5, c_callS6, c_callS7, c_callV0, c_callV1, c_callV2, c_callV3, c_callV4, c_callV5, c_callV6, c_callV7, c_callT0, c_callT1, am_nx_eq, am_set, am_set2, am_clr, am_isL, am_push, am_w, am_ent, am_ent1, List.getElem?_cons_zero, List.getElem?_cons_succ, List.set_cons_zero, List.set_cons_succ, List.getD_cons_zero, List.getD_cons_succ, List.cons_append, List.nil_append, List.append_nil, List.replicate_succ, List.replicate_zero, Nat.reduceAdd, Nat.reduceSub, Nat.reduceLeDiff, Bool.false_eq_true, reduceIte, true_and, and_true, true_or, or_true, or_self, am_i32, am_i64, bz_0, bz_01, bz_em, bz_n0, Classical.not_not, am_cmp_lt0, am_cmp_gt0, am_cmp_eq0, am_cmp_ge0, am_cmp_le0, am_cmp_ne0]
      refine ⟨fun z => by omega, fun _ => ?_⟩
      repeat (with_reducible refine And.intro (by omega) ?_)
      refine ih (i + 1) _ (by omega) (by omega) (fun o ho => by rw [am_up_o _ ho]; exact h1 o ho) (fun j j0 j1 => ?_)
      by_cases z : j = i
      · rw [z, am_up_s]
      · rw [am_up_j _ z]; exact h2 j j0 (by omega)
  refine am_goF B_Arr_fill_0 pf_fill (Nat.le_of_ble_eq_true rfl) ?_
  simp only [b_Arr_fill_0, ln_58, ll_58, c_const, c_lconst, c_ref, c_iload, c_lload, c_aload, c_istore, c_lstore, c_astore, c_iinc, c_iadd, c_isub, c_imul, c_ladd, c_lsub, c_lmul, c_idiv, c_irem, c_ldiv, c_lrem, c_iand, c_ior, c_ixor, c_ishl, c_ishr, c_ineg, c_i2l, c_l2i, c_i2c, c_lcmp, c_dup, c_pop, c_dup2, c_at, c_icmp_eq, c_icmp_ne, c_icmp_lt, c_icmp_ge, c_icmp_gt, c_icmp_le, c_if_eq, c_if_ne, c_if_lt, c_if_ge, c_if_gt, c_if_le, c_ifnull, c_ifnonnull, am_swK, c_sw, c_iret, c_zret, c_cret, c_bret, c_lret, c_aret, c_vret, c_getI, c_getR, c_putI, c_putZ, c_putR, c_iald, c_zald, c_cald, c_lald, c_oald, c_gald, c_iast, c_zast, c_cast, c_last, c_oast, c_alen, c_callS0, c_callS1, c_callS2, c_callS3, c_callS4, c_callS5, c_callS6, c_callS7, c_callV0, c_callV1, c_callV2, c_callV3, c_callV4, c_callV5, c_callV6, c_callV7, c_callT0, c_callT1, am_nx_eq, am_set, am_set2, am_clr, am_isL, am_push, am_w, am_ent, am_ent1, List.getElem?_cons_zero, List.getElem?_cons_succ, List.set_cons_zero, List.set_cons_succ, List.getD_cons_zero, List.getD_cons_succ, List.cons_append, List.nil_append, List.append_nil, List.replicate_succ, List.replicate_zero, Nat.reduceAdd, Nat.reduceSub, Nat.reduceLeDiff, Bool.false_eq_true, reduceIte, true_and, and_true, true_or, or_true, or_self, am_i32, am_i64, bz_0, bz_01, bz_em, bz_n0, Classical.not_not, am_cmp_lt0, am_cmp_gt0, am_cmp_eq0, am_cmp_ge0, am_cmp_le0, am_cmp_ne0]
  repeat (with_reducible refine And.intro (by omega) ?_)
  exact lp 5832 0 M (by omega) (by omega) (fun _ _ => rfl) (fun j j0 j1 => by omega)
def hs9 (D : Int → Int → Int) (fr y dn b t l : Int) : Prop := ∃ s, cmR D fr y dn.toNat l b s ∧ s ≤ t
def sn9 (D : Int → Int → Int) (fr y dn t b : Int) (l b' u : Int) : Prop := hs9 D fr y dn b' u l ∧ (u < t ∨ (u = t ∧ b' < b))
/-- what stands in the array at level dn, tick t, bar b -/
def IV (M D : Int → Int → Int) (fr n y dn t b : Int) : Prop :=
  (∀ dn' c t', 0 ≤ dn' → dn' ≤ n → 0 ≤ c → c < D 0 0 → 0 ≤ t' → t' ≤ y → (dn' < dn ∨ (dn' = dn ∧ (t' < t ∨ (t' = t ∧ c < b)))) → bs (M 58 (648 * dn' + (81 * c + t'))) (hs9 D fr y dn' c t')) ∧
  (dn ≤ n → ∀ c t', 0 ≤ c → c < D 0 0 → 0 ≤ t' → t' ≤ y → (t < t' ∨ (t' = t ∧ b ≤ c)) → bs (M 58 (648 * dn + (81 * c + t'))) (fun l => 0 < dn ∧ cmR D fr y dn.toNat l c t')) ∧
  (dn < n → LZ M D y (dn + 1) (pcm D y dn (sn9 D fr y dn t b))) ∧
  (∀ j, 648 * (dn + 2) ≤ j → j < 5832 → M 58 j = 0)
theorem IV.go {fr n y dn t b t2 b2 : Int} (hD : WF D) (h : IV M D fr n y dn t b) (e : ∀ t' c, 0 ≤ t' → t' ≤ y → 0 ≤ c → c < D 0 0 → ((t' < t ∨ (t' = t ∧ c < b)) ↔ (t' < t2 ∨ (t' = t2 ∧ c < b2)))) (hn0 : ∀ k, 0 ≤ k → k < D 0 2 → 0 ≤ D 7 k) : IV M D fr n y dn t2 b2 := by
  obtain ⟨h1, h2, h3, h4⟩ := h
  refine ⟨fun dn' c t' a1 a2 a3 a4 a5 a6 a7 => h1 dn' c t' a1 a2 a3 a4 a5 a6 ?_, fun q c t' a3 a4 a5 a6 a7 => h2 q c t' a3 a4 a5 a6 ?_, fun q c t' a3 a4 a5 a6 => (h3 q c t' a3 a4 a5 a6).cg (fun k k0 => ?_), h4⟩
  · have := e t' c a5 a6 a3 a4
    omega
  · have := e t' c a5 a6 a3 a4
    omega
  · unfold pcm
    constructor
    · rintro ⟨p1, p2, p3, l, b', u, ⟨⟨s, s1, s2⟩, s3⟩, p5, p6, p7⟩
      have ci := cmR_in hD _ _ _ _ s1
      have := hn0 k p1.1 p1.2
      exact ⟨p1, p2, p3, l, b', u, ⟨⟨s, s1, s2⟩, (e u b' (by omega) (by omega) ci.2.1.1 ci.2.1.2).mp s3⟩, p5, p6, p7⟩
    · rintro ⟨p1, p2, p3, l, b', u, ⟨⟨s, s1, s2⟩, s3⟩, p5, p6, p7⟩
      have ci := cmR_in hD _ _ _ _ s1
      have := hn0 k p1.1 p1.2
      exact ⟨p1, p2, p3, l, b', u, ⟨⟨s, s1, s2⟩, (e u b' (by omega) (by omega) ci.2.1.1 ci.2.1.2).mpr s3⟩, p5, p6, p7⟩
theorem IV.nx {fr n y dn : Int} (hD : WF D) (hdn : 0 ≤ dn) (h : IV M D fr n y dn (y + 1) 0) (hn0 : ∀ k, 0 ≤ k → k < D 0 2 → 0 ≤ D 7 k) (h5 : n ≤ 8) (hy : y ≤ 80) : IV M D fr n y (dn + 1) 0 0 := by
  obtain ⟨h1, h2, h3, h4⟩ := h
  have hd0 := hD.1
  refine ⟨fun dn' c t' a1 a2 a3 a4 a5 a6 a7 => h1 dn' c t' a1 a2 a3 a4 a5 a6 (by omega), fun q c t' a3 a4 a5 a6 a7 => (h3 (by omega) c t' a3 a4 a5 a6).cg (fun k k0 => ?_), fun q c t' a3 a4 a5 a6 => ?_, fun j j0 j1 => h4 j (by omega) j1⟩
  · rw [show (dn + 1).toNat = dn.toNat + 1 by omega]
    have ed : ((dn.toNat : Nat) : Int) = dn := by omega
    constructor
    · rintro ⟨p1, p2, p3, l, b', u, ⟨⟨s, s1, s2⟩, s3⟩, p5, p6, p7⟩
      exact ⟨by omega, p1, p2, p3, l, b', s, u, s1, s2, p5, p6, by rw [ed]; exact p7⟩
    · rintro ⟨_, p1, p2, p3, l, b', s, u, s1, s2, p5, p6, p7⟩
      have := hn0 k p1.1 p1.2
      rw [ed] at p7
      exact ⟨p1, p2, p3, l, b', u, ⟨⟨s, s1, s2⟩, Or.inl (by omega)⟩, p5, p6, p7⟩
  · rw [h4 _ (by omega) (by omega)]
    refine bs_0.cg (fun k k0 => ⟨fun w => w.elim, ?_⟩)
    rintro ⟨p1, p2, p3, l, b', u, ⟨⟨s, s1, s2⟩, s3⟩, p5, p6, p7⟩
    have ci := cmR_in hD _ _ _ _ s1
    omega
theorem k_sp_b {M0 : Int → Int → Int} {fr n y dn t : Int} (hU : SU M0 D R n y (-1) (-1)) (hfr : 0 ≤ fr ∧ fr < D 0 1) (hn : 0 ≤ n ∧ n ≤ 8) (hy : 0 ≤ y ∧ y ≤ 80) (hdn : 0 ≤ dn ∧ dn ≤ n) (ht : 0 ≤ t ∧ t ≤ y) (h : ∀ (x5 x6 : AV) M', SG9 M0 M' → IV M' D fr n y dn t (D 0 0) → b_Search_spreadFrom_169 (d + 6) Q 0 0 [vR 50, vI fr, vI dn, vI t, vI (D 0 0), x5, x6] [] (am_SH, M')) :
    ∀ (m : Nat) (b : Int) (x5 x6 : AV) (M : Int → Int → Int), b + m = D 0 0 → 0 ≤ b → SG9 M0 M → IV M D fr n y dn t b → am_Wp (d + 7) m_Search_spreadFrom 0 0 31 [vR 50, vI fr, vI dn, vI t, vI b, x5, x6] [] (am_SH, M) Q := by
  have hD := hU.1.W
  have hd0 := hD.1
  have hn0 : ∀ k, 0 ≤ k → k < D 0 2 → 0 ≤ D 7 k := fun k k0 k1 => by have := (hD.2.2.2.2.2 k k0 k1).1; omega
  intro m
  induction m with
  | zero =>
    intro b x5 x6 M hm hb hs hI
    have hU1 := hU.sf hs
    have hC := hU1.1.P
    have hR := hU1.1.r
    have e6 : M 50 6 = R := hU1.2.2.2.2.1
    have eb : b = D 0 0 := by omega
    subst eb
    refine B_Search_spreadFrom_31 _ _ _ _ _ ?_
    simp only [b_Search_spreadFrom_31, e6, kr_0 hR, kr_1 hR, lr_2 hR, mr_2 hR, lr_3 hR, mr_3 hR, lr_4 hR, mr_4 hR, lr_5 hR, mr_5 hR, lr_6 hR, mr_6 hR, lr_7 hR, mr_7 hR, kr_8 hR, lr_9 hR, mr_9 hR, lr_10 hR, mr_10 hR, kr_11 hR, lr_12 hR, mr_12 hR, lr_13 hR, mr_13 hR, lr_14 hR, mr_14 hR, lr_15 hR, mr_15 hR, lr_16 hR, mr_16 hR, lr_17 hR, mr_17 hR, lr_18 hR, mr_18 hR, lr_19 hR, mr_19 hR, lr_20 hR, mr_20 hR, pr_0 hC hR, pr_1 hC hR, pr_2 hC hR, pr1_0 hC hR, pr1_1 hC hR, pr1_2 hC hR, pr1_3 hC hR, pr1_4 hC hR, pr1_5 hC hR, pr8_0 hC hR, pr8_1 hC hR, prt_0 hC hR, prt_1 hC hR, prt_2 hC hR, prt_3 hC hR, prt_4 hC hR, prt_5 hC hR, prt_6 hC hR, prt_7 hC hR, prt_8 hC hR, hU1.1.B.1.1, kd_1, kd_2, ln_3, ll_3, kd_46, kd_47, ln_48, ll_48, ln_49, ll_49, kd_50, kd_51, ln_52, ll_52, ln_53, ll_53, ln_54, ll_54, ln_55, ll_55, ln_56, ll_56, ln_57, ll_57, ln_58, ll_58, kd_59, ln_60, ll_60, ln_61, ll_61, ln_62, ll_62, ln_63, ll_63, kd_64, ln_127, ll_127, ln_128, ll_128, ln_129, ll_129, ln_130, ll_130, ln_131, ll_131, ln_132, ll_132, ln_133, ll_133, ln_134, ll_134, kd_135, ln_136, ll_136, pc_1_0 hC, pc_1_3 hC, pc_1_4 hC, pc_1_5 hC, pc_1_6 hC, pc_1_7 hC, pc_1_8 hC, pc_2_0 hC, pc_46_0 hC, pc_50_0 hC, pc_50_1 hC, pc_50_2 hC, pc_50_3 hC, pc_50_4 hC, pc_50_5 hC, pc_64_2 hC, pc_64_3 hC, pc_135_0 hC, am_up_eq, Int.reduceEq, Int.reduceLT, Int.reduceLE, Int.reduceNeg, if_true, if_false, c_const, c_lconst, c_ref, c_iload, c_lload, c_aload, c_istore, c_lstore, c_astore, c_iinc, c_iadd, c_isub, c_imul, c_ladd, c_lsub, c_lmul, c_idiv, c_irem, c_ldiv, c_lrem, c_iand, c_ior, c_ixor, c_ishl, c_ishr, c_ineg, c_i2l, c_l2i, c_i2c, c_lcmp, c_dup, c_pop, c_dup2, c_at, c_icmp_eq, c_icmp_ne, c_icmp_lt, c_icmp_ge, c_icmp_gt, c_icmp_le, c_if_eq, c_if_ne, c_if_lt, c_if_ge, c_if_gt, c_if_le, c_ifnull, c_ifnonnull, am_swK, c_sw, c_iret, c_zret, c_cret, c_bret, c_lret, c_aret, c_vret, c_getI, c_getR, c_putI, c_putZ, c_putR, c_iald, c_zald, c_cald, c_lald, c_oald, c_gald, c_iast, c_zast, c_cast, c_last, c_oast, c_alen, c_callS0, c_callS1, c_callS2, c_callS3, c_callS4, c_callS5, c_callS6, c_callS7, c_callV0, c_callV1, c_callV2, c_callV3, c_callV4, c_callV5, c_callV6, c_callV7, c_callT0, c_callT1, am_nx_eq, am_set, am_set2, am_clr, am_isL, am_push, am_w, am_ent, am_ent1, List.getElem?_cons_zero, List.getElem?_cons_succ, List.set_cons_zero, List.set_cons_succ, List.getD_cons_zero, List.getD_cons_succ, List.cons_append, List.nil_append, List.append_nil, List.replicate_succ, List.replicate_zero, Nat.reduceAdd, Nat.reduceSub, Nat.reduceLeDiff, Bool.false_eq_true, reduceIte, true_and, and_true, true_or, or_true, or_self, am_i32, am_i64, bz_0, bz_01, bz_em, bz_n0, Classical.not_not, am_cmp_lt0, am_cmp_gt0, am_cmp_eq0, am_cmp_ge0, am_cmp_le0, am_cmp_ne0]
    exact ⟨fun _ => h _ _ M hs hI, fun z => absurd (Int.le_refl _) z⟩
  | succ m ih =>
    intro b x5 x6 M hm hb hs hI
    have hU1 := hU.sf hs
    have hC := hU1.1.P
    have hR := hU1.1.r
    have e6 : M 50 6 = R := hU1.2.2.2.2.1
    have e10 : M 50 10 = n := hU1.2.2.2.2.2.1
    have hI0 := hI
    obtain ⟨i1, i2, i3, i4⟩ := hI
    have old := i2 hdn.2 b t hb (by omega) ht.1 ht.2 (Or.inr ⟨rfl, Int.le_refl _⟩)
    have idx : ∀ x, dn * 648 + x = 648 * dn + x := fun x => by omega
    have nxt : ∀ (x5 x6 : AV) M1, SG9 M M1 → IV M1 D fr n y dn t (b + 1) → b_Search_spreadFrom_163 (d + 6) Q 0 0 [vR 50, vI fr, vI dn, vI t, vI b, x5, x6] [] (am_SH, M1) := by
      intro x5 x6 M1 s1 iv
      simp only [b_Search_spreadFrom_163, c_const, c_lconst, c_ref, c_iload, c_lload, c_aload, c_istore, c_lstore, c_astore, c_iinc, c_iadd, c_isub, c_imul, c_ladd, c_lsub, c_lmul, c_idiv, c_irem, c_ldiv, c_lrem, c_iand, c_ior, c_ixor, c_ishl, c_ishr, c_ineg, c_i2l, c_l2i, c_i2c, c_lcmp, c_dup, c_pop, c_dup2, c_at, c_icmp_eq, c_icmp_ne, c_icmp_lt, c_icmp_ge, c_icmp_gt, c_icmp_le, c_if_eq, c_if_ne, c_if_lt, c_if_ge, c_if_gt, c_if_le, c_ifnull, c_ifnonnull, am_swK, c_sw, c_iret, c_zret, c_cret, c_bret, c_lret, c_aret, c_vret, c_getI, c_getR, c_putI, c_putZ, c_putR, c_iald, c_zald, c_cald, c_lald, c_oald, c_gald, c_iast, c_zast, c_cast, c_last, c_oast, c_alen, c_callS0, c_callS1, c_callS2, c_callS3, c_callS4, c_callS5, c_callS6, c_callS7, c_callV0, c_callV1, c_callV2, c_callV3, c_callV4, c_callV5, c_callV6, c_callV7, c_callT0, c_callT1, am_nx_eq, am_set, am_set2, am_clr, am_isL, am_push, am_w, am_ent, am_ent1, List.getElem?_cons_zero, List.getElem?_cons_succ, List.set_cons_zero, List.set_cons_succ, List.getD_cons_zero, List.getD_cons_succ, List.cons_append, List.nil_append, List.append_nil, List.replicate_succ, List.replicate_zero, Nat.reduceAdd, Nat.reduceSub, Nat.reduceLeDiff, Bool.false_eq_true, reduceIte, true_and, and_true, true_or, or_true, or_self, am_i32, am_i64, bz_0, bz_01, bz_em, bz_n0, Classical.not_not, am_cmp_lt0, am_cmp_gt0, am_cmp_eq0, am_cmp_ge0, am_cmp_le0, am_cmp_ne0]
      exact ⟨by omega, ih (b + 1) _ _ M1 (by omega) (by omega) (hs.tr s1) iv⟩
    have last : ∀ v, bs v (hs9 D fr y dn b t) → b_Search_spreadFrom_126 (d + 6) Q 0 0 [vR 50, vI fr, vI dn, vI t, vI b, vI (81 * b + t), vI v] [] (am_SH, M) := by
      intro v hv
      have vr := hv.rng
      have hC := hU1.1.P
      simp only [b_Search_spreadFrom_126, e10, idx, kd_1, kd_2, ln_3, ll_3, kd_46, kd_47, ln_48, ll_48, ln_49, ll_49, kd_50, kd_51, ln_52, ll_52, ln_53, ll_53, ln_54, ll_54, ln_55, ll_55, ln_56, ll_56, ln_57, ll_57, ln_58, ll_58, kd_59, ln_60, ll_60, ln_61, ll_61, ln_62, ll_62, ln_63, ll_63, kd_64, ln_127, ll_127, ln_128, ll_128, ln_129, ll_129, ln_130, ll_130, ln_131, ll_131, ln_132, ll_132, ln_133, ll_133, ln_134, ll_134, kd_135, ln_136, ll_136, pc_1_0 hC, pc_1_3 hC, pc_1_4 hC, pc_1_5 hC, pc_1_6 hC, pc_1_7 hC, pc_1_8 hC, pc_2_0 hC, pc_46_0 hC, pc_50_0 hC, pc_50_1 hC, pc_50_2 hC, pc_50_3 hC, pc_50_4 hC, pc_50_5 hC, pc_64_2 hC, pc_64_3 hC, pc_135_0 hC, am_up_eq, Int.reduceEq, Int.reduceLT, Int.reduceLE, Int.reduceNeg, if_true, if_false, c_const, c_lconst, c_ref, c_iload, c_lload, c_aload, c_istore, c_lstore, c_astore, c_iinc, c_iadd, c_isub, c_imul, c_ladd, c_lsub, c_lmul, c_idiv, c_irem, c_ldiv, c_lrem, c_iand, c_ior, c_ixor, c_ishl, c_ishr, c_ineg, c_i2l, c_l2i, c_i2c, c_lcmp, c_dup, c_pop, c_dup2, c_at, c_icmp_eq, c_icmp_ne, c_icmp_lt, c_icmp_ge, c_icmp_gt, c_icmp_le, c_if_eq, c_if_ne, c_if_lt, c_if_ge, c_if_gt, c_if_le, c_ifnull, c_ifnonnull, am_swK, c_sw, c_iret, c_zret, c_cret, c_bret, c_lret, c_aret, c_vret, c_getI, c_getR, c_putI, c_putZ, c_putR, c_iald, c_zald, c_cald, c_lald, c_oald, c_gald, c_iast, c_zast, c_cast, c_last, c_oast, c_alen, c_callS0, c_callS1, c_callS2, c_callS3, c_callS4, c_callS5, c_callS6, c_callS7, c_callV0, c_callV1, c_callV2, c_callV3, c_callV4, c_callV5, c_callV6, c_callV7, c_callT0, c_callT1, am_nx_eq, am_set, am_set2, am_clr, am_isL, am_push, am_w, am_ent, am_ent1, List.getElem?_cons_zero, List.getElem?_cons_succ, List.set_cons_zero, List.set_cons_succ, List.getD_cons_zero, List.getD_cons_succ, List.cons_append, List.nil_append, List.append_nil, List.replicate_succ, List.replicate_zero, Nat.reduceAdd, Nat.reduceSub, Nat.reduceLeDiff, Bool.false_eq_true, reduceIte, true_and, and_true, true_or, or_true, or_self, am_i32, am_i64, bz_0, bz_01, bz_em, bz_n0, Classical.not_not, am_cmp_lt0, am_cmp_gt0, am_cmp_eq0, am_cmp_ge0, am_cmp_le0, am_cmp_ne0]
      repeat (with_reducible refine And.intro (by omega) ?_)
      have q1 : ∀ dn' c t', 0 ≤ dn' → dn' ≤ n → 0 ≤ c → c < D 0 0 → 0 ≤ t' → t' ≤ y → (dn' < dn ∨ (dn' = dn ∧ (t' < t ∨ (t' = t ∧ c < b + 1)))) → bs (am_up M 58 (648 * dn + (81 * b + t)) v 58 (648 * dn' + (81 * c + t'))) (hs9 D fr y dn' c t') := by
        intro dn' c t' a1 a2 a3 a4 a5 a6 a7
        by_cases z : dn' = dn ∧ c = b ∧ t' = t
        · obtain ⟨rfl, rfl, rfl⟩ := z
          rw [am_up_s]; exact hv
        · rw [am_up_j _ (by omega)]
          exact i1 dn' c t' a1 a2 a3 a4 a5 a6 (by omega)
      have q2 : dn ≤ n → ∀ c t', 0 ≤ c → c < D 0 0 → 0 ≤ t' → t' ≤ y → (t < t' ∨ (t' = t ∧ b + 1 ≤ c)) → bs (am_up M 58 (648 * dn + (81 * b + t)) v 58 (648 * dn + (81 * c + t'))) (fun l => 0 < dn ∧ cmR D fr y dn.toNat l c t') := by
        intro q c t' a3 a4 a5 a6 a7
        rw [am_up_j _ (by omega)]
        exact i2 q c t' a3 a4 a5 a6 (by omega)
      have q3 : dn < n → LZ (am_up M 58 (648 * dn + (81 * b + t)) v) D y (dn + 1) (pcm D y dn (sn9 D fr y dn t b)) := by
        intro q c t' a3 a4 a5 a6
        rw [am_up_j _ (by omega)]
        exact i3 q c t' a3 a4 a5 a6
      have q4 : ∀ j, 648 * (dn + 2) ≤ j → j < 5832 → am_up M 58 (648 * dn + (81 * b + t)) v 58 j = 0 := by
        intro j j0 j1
        rw [am_up_j _ (by omega)]
        exact i4 j j0 j1
      have pe : ∀ k c t', (pcm D y dn (sn9 D fr y dn t b) k c t' ∨ nwS D y dn (hs9 D fr y dn b t) b t k c t') ↔ pcm D y dn (sn9 D fr y dn t (b + 1)) k c t' := by
        intro k c t'
        constructor
        · rintro (⟨p1, p2, p3, l, b', u, ⟨s1, s3⟩, p5, p6, p7⟩ | ⟨p1, p2, p3, p4, p5, l, l0, hl, p7⟩)
          · exact ⟨p1, p2, p3, l, b', u, ⟨s1, by omega⟩, p5, p6, p7⟩
          · exact ⟨p1, p2, p3, l, b, t, ⟨hl, Or.inr ⟨rfl, by omega⟩⟩, p4, p5, p7⟩
        · rintro ⟨p1, p2, p3, l, b', u, ⟨s1, s3⟩, p5, p6, p7⟩
          by_cases z : u = t ∧ b' = b
          · obtain ⟨rfl, rfl⟩ := z
            obtain ⟨s, s2, s4⟩ := s1
            have ci := cmR_in hD _ _ _ _ s2
            exact Or.inr ⟨p1, p2, p3, p5, p6, l, ci.1.1, ⟨s, s2, s4⟩, p7⟩
          · exact Or.inl ⟨p1, p2, p3, l, b', u, ⟨s1, by omega⟩, p5, p6, p7⟩
      have sU := SG9.up M (648 * dn + (81 * b + t)) v
      have hU2 := hU1.sf sU
      generalize am_up M 58 (648 * dn + (81 * b + t)) v = M1 at *
      refine ⟨fun z => nxt _ _ M1 sU ⟨q1, q2, fun w c t' a3 a4 a5 a6 => (q3 w c t' a3 a4 a5 a6).cg (fun k k0 => ?_), q4⟩, fun z => ⟨fun z2 => nxt _ _ M1 sU ⟨q1, q2, fun w => by omega, q4⟩, fun z2 => ?_⟩⟩
      · have no := (bs_z hv).mp z
        rw [← pe k c t']
        constructor
        · exact Or.inl
        · rintro (w | w)
          · exact w
          · obtain ⟨l, l0, hl, _⟩ := w.2.2.2.2.2
            exact absurd hl (no l l0)
      · refine k_spreadFlights (Z := pcm D y dn (sn9 D fr y dn t b)) hU2 hn hy ⟨hdn.1, by omega⟩ ⟨hb, by omega⟩ ht hv (q3 (by omega)) (fun M2 s2 o2 z2 => ?_)
        simp only [c_const, c_lconst, c_ref, c_iload, c_lload, c_aload, c_istore, c_lstore, c_astore, c_iinc, c_iadd, c_isub, c_imul, c_ladd, c_lsub, c_lmul, c_idiv, c_irem, c_ldiv, c_lrem, c_iand, c_ior, c_ixor, c_ishl, c_ishr, c_ineg, c_i2l, c_l2i, c_i2c, c_lcmp, c_dup, c_pop, c_dup2, c_at, c_icmp_eq, c_icmp_ne, c_icmp_lt, c_icmp_ge, c_icmp_gt, c_icmp_le, c_if_eq, c_if_ne, c_if_lt, c_if_ge, c_if_gt, c_if_le, c_ifnull, c_ifnonnull, am_swK, c_sw, c_iret, c_zret, c_cret, c_bret, c_lret, c_aret, c_vret, c_getI, c_getR, c_putI, c_putZ, c_putR, c_iald, c_zald, c_cald, c_lald, c_oald, c_gald, c_iast, c_zast, c_cast, c_last, c_oast, c_alen, c_callS0, c_callS1, c_callS2, c_callS3, c_callS4, c_callS5, c_callS6, c_callS7, c_callV0, c_callV1, c_callV2, c_callV3, c_callV4, c_callV5, c_callV6, c_callV7, c_callT0, c_callT1, am_nx_eq, am_set, am_set2, am_clr, am_isL, am_push, am_w, am_ent, am_ent1, List.getElem?_cons_zero, List.getElem?_cons_succ, List.set_cons_zero, List.set_cons_succ, List.getD_cons_zero, List.getD_cons_succ, List.cons_append, List.nil_append, List.append_nil, List.replicate_succ, List.replicate_zero, Nat.reduceAdd, Nat.reduceSub, Nat.reduceLeDiff, Bool.false_eq_true, reduceIte, true_and, and_true, true_or, or_true, or_self, am_i32, am_i64, bz_0, bz_01, bz_em, bz_n0, Classical.not_not, am_cmp_lt0, am_cmp_gt0, am_cmp_eq0, am_cmp_ge0, am_cmp_le0, am_cmp_ne0]
        refine nxt _ _ M2 (sU.tr s2) ⟨fun dn' c t' a1 a2 a3 a4 a5 a6 a7 => ?_, fun w c t' a3 a4 a5 a6 a7 => ?_, fun w c t' a3 a4 a5 a6 => (z2 c t' a3 a4 a5 a6).cg (fun k k0 => pe k c t'), fun j j0 j1 => ?_⟩
        · rw [o2 _ (by omega)]; exact q1 dn' c t' a1 a2 a3 a4 a5 a6 a7
        · rw [o2 _ (by omega)]; exact q2 w c t' a3 a4 a5 a6 a7
        · rw [o2 _ (by omega)]; exact q4 j j0 j1
    have mid : ∀ v, bs v (fun l => (0 < dn ∧ cmR D fr y dn.toNat l b t) ∨ (0 < t ∧ hs9 D fr y dn b (t - 1) l)) → b_Search_spreadFrom_100 (d + 6) Q 0 0 [vR 50, vI fr, vI dn, vI t, vI b, vI (81 * b + t), vI v] [] (am_SH, M) := by
      intro v hv
      have vr := hv.rng
      have ee : ∀ l, hs9 D fr y dn b t l ↔ (cmR D fr y dn.toNat l b t ∨ (0 < t ∧ hs9 D fr y dn b (t - 1) l)) := by
        intro l
        unfold hs9
        constructor
        · rintro ⟨s, s1, s2⟩
          have ci := cmR_in hD _ _ _ _ s1
          by_cases z : s = t
          · rw [z] at s1; exact Or.inl s1
          · exact Or.inr ⟨by omega, s, s1, by omega⟩
        · rintro (w | ⟨_, s, s1, s2⟩)
          · exact ⟨t, w, Int.le_refl _⟩
          · exact ⟨s, s1, by omega⟩
      simp only [b_Search_spreadFrom_100, e6, kr_0 hR, kr_1 hR, lr_2 hR, mr_2 hR, lr_3 hR, mr_3 hR, lr_4 hR, mr_4 hR, lr_5 hR, mr_5 hR, lr_6 hR, mr_6 hR, lr_7 hR, mr_7 hR, kr_8 hR, lr_9 hR, mr_9 hR, lr_10 hR, mr_10 hR, kr_11 hR, lr_12 hR, mr_12 hR, lr_13 hR, mr_13 hR, lr_14 hR, mr_14 hR, lr_15 hR, mr_15 hR, lr_16 hR, mr_16 hR, lr_17 hR, mr_17 hR, lr_18 hR, mr_18 hR, lr_19 hR, mr_19 hR, lr_20 hR, mr_20 hR, pr_0 hC hR, pr_1 hC hR, pr_2 hC hR, pr1_0 hC hR, pr1_1 hC hR, pr1_2 hC hR, pr1_3 hC hR, pr1_4 hC hR, pr1_5 hC hR, pr8_0 hC hR, pr8_1 hC hR, prt_0 hC hR, prt_1 hC hR, prt_2 hC hR, prt_3 hC hR, prt_4 hC hR, prt_5 hC hR, prt_6 hC hR, prt_7 hC hR, prt_8 hC hR, kd_1, kd_2, ln_3, ll_3, kd_46, kd_47, ln_48, ll_48, ln_49, ll_49, kd_50, kd_51, ln_52, ll_52, ln_53, ll_53, ln_54, ll_54, ln_55, ll_55, ln_56, ll_56, ln_57, ll_57, ln_58, ll_58, kd_59, ln_60, ll_60, ln_61, ll_61, ln_62, ll_62, ln_63, ll_63, kd_64, ln_127, ll_127, ln_128, ll_128, ln_129, ll_129, ln_130, ll_130, ln_131, ll_131, ln_132, ll_132, ln_133, ll_133, ln_134, ll_134, kd_135, ln_136, ll_136, pc_1_0 hC, pc_1_3 hC, pc_1_4 hC, pc_1_5 hC, pc_1_6 hC, pc_1_7 hC, pc_1_8 hC, pc_2_0 hC, pc_46_0 hC, pc_50_0 hC, pc_50_1 hC, pc_50_2 hC, pc_50_3 hC, pc_50_4 hC, pc_50_5 hC, pc_64_2 hC, pc_64_3 hC, pc_135_0 hC, am_up_eq, Int.reduceEq, Int.reduceLT, Int.reduceLE, Int.reduceNeg, if_true, if_false, c_const, c_lconst, c_ref, c_iload, c_lload, c_aload, c_istore, c_lstore, c_astore, c_iinc, c_iadd, c_isub, c_imul, c_ladd, c_lsub, c_lmul, c_idiv, c_irem, c_ldiv, c_lrem, c_iand, c_ior, c_ixor, c_ishl, c_ishr, c_ineg, c_i2l, c_l2i, c_i2c, c_lcmp, c_dup, c_pop, c_dup2, c_at, c_icmp_eq, c_icmp_ne, c_icmp_lt, c_icmp_ge, c_icmp_gt, c_icmp_le, c_if_eq, c_if_ne, c_if_lt, c_if_ge, c_if_gt, c_if_le, c_ifnull, c_ifnonnull, am_swK, c_sw, c_iret, c_zret, c_cret, c_bret, c_lret, c_aret, c_vret, c_getI, c_getR, c_putI, c_putZ, c_putR, c_iald, c_zald, c_cald, c_lald, c_oald, c_gald, c_iast, c_zast, c_cast, c_last, c_oast, c_alen, c_callS0, c_callS1, c_callS2, c_callS3, c_callS4, c_callS5, c_callS6, c_callS7, c_callV0, c_callV1, c_callV2, c_callV3, c_callV4, c_callV5, c_callV6, c_callV7, c_callT0, c_callT1, am_nx_eq, am_set, am_set2, am_clr, am_isL, am_push, am_w, am_ent, am_ent1, List.getElem?_cons_zero, List.getElem?_cons_succ, List.set_cons_zero, List.set_cons_succ, List.getD_cons_zero, List.getD_cons_succ, List.cons_append, List.nil_append, List.append_nil, List.replicate_succ, List.replicate_zero, Nat.reduceAdd, Nat.reduceSub, Nat.reduceLeDiff, Bool.false_eq_true, reduceIte, true_and, and_true, true_or, or_true, or_self, am_i32, am_i64, bz_0, bz_01, bz_em, bz_n0, Classical.not_not, am_cmp_lt0, am_cmp_gt0, am_cmp_eq0, am_cmp_ge0, am_cmp_le0, am_cmp_ne0]
      refine ⟨fun z => last v (hv.cg (fun l l0 => ?_)), fun z => ?_⟩
      · rw [ee l]
        constructor
        · rintro (w | w)
          · exact Or.inl w.2
          · exact Or.inr w
        · rintro (w | w)
          · exact Or.inl ⟨by omega, w⟩
          · exact Or.inr w
      · subst z
        refine k_isBy hU1.1 (by omega) (by omega) (fun w => ?_) (fun w => ?_)
        · have nv := bs_or hv bs_256
          simp only [kd_1, kd_2, ln_3, ll_3, kd_46, kd_47, ln_48, ll_48, ln_49, ll_49, kd_50, kd_51, ln_52, ll_52, ln_53, ll_53, ln_54, ll_54, ln_55, ll_55, ln_56, ll_56, ln_57, ll_57, ln_58, ll_58, kd_59, ln_60, ll_60, ln_61, ll_61, ln_62, ll_62, ln_63, ll_63, kd_64, ln_127, ll_127, ln_128, ll_128, ln_129, ll_129, ln_130, ll_130, ln_131, ll_131, ln_132, ll_132, ln_133, ll_133, ln_134, ll_134, kd_135, ln_136, ll_136, pc_1_0 hC, pc_1_3 hC, pc_1_4 hC, pc_1_5 hC, pc_1_6 hC, pc_1_7 hC, pc_1_8 hC, pc_2_0 hC, pc_46_0 hC, pc_50_0 hC, pc_50_1 hC, pc_50_2 hC, pc_50_3 hC, pc_50_4 hC, pc_50_5 hC, pc_64_2 hC, pc_64_3 hC, pc_135_0 hC, am_up_eq, Int.reduceEq, Int.reduceLT, Int.reduceLE, Int.reduceNeg, if_true, if_false, c_const, c_lconst, c_ref, c_iload, c_lload, c_aload, c_istore, c_lstore, c_astore, c_iinc, c_iadd, c_isub, c_imul, c_ladd, c_lsub, c_lmul, c_idiv, c_irem, c_ldiv, c_lrem, c_iand, c_ior, c_ixor, c_ishl, c_ishr, c_ineg, c_i2l, c_l2i, c_i2c, c_lcmp, c_dup, c_pop, c_dup2, c_at, c_icmp_eq, c_icmp_ne, c_icmp_lt, c_icmp_ge, c_icmp_gt, c_icmp_le, c_if_eq, c_if_ne, c_if_lt, c_if_ge, c_if_gt, c_if_le, c_ifnull, c_ifnonnull, am_swK, c_sw, c_iret, c_zret, c_cret, c_bret, c_lret, c_aret, c_vret, c_getI, c_getR, c_putI, c_putZ, c_putR, c_iald, c_zald, c_cald, c_lald, c_oald, c_gald, c_iast, c_zast, c_cast, c_last, c_oast, c_alen, c_callS0, c_callS1, c_callS2, c_callS3, c_callS4, c_callS5, c_callS6, c_callS7, c_callV0, c_callV1, c_callV2, c_callV3, c_callV4, c_callV5, c_callV6, c_callV7, c_callT0, c_callT1, am_nx_eq, am_set, am_set2, am_clr, am_isL, am_push, am_w, am_ent, am_ent1, List.getElem?_cons_zero, List.getElem?_cons_succ, List.set_cons_zero, List.set_cons_succ, List.getD_cons_zero, List.getD_cons_succ, List.cons_append, List.nil_append, List.append_nil, List.replicate_succ, List.replicate_zero, Nat.reduceAdd, Nat.reduceSub, Nat.reduceLeDiff, Bool.false_eq_true, reduceIte, true_and, and_true, true_or, or_true, or_self, am_i32, am_i64, bz_0, bz_01, bz_em, bz_n0, Classical.not_not, am_cmp_lt0, am_cmp_gt0, am_cmp_eq0, am_cmp_ge0, am_cmp_le0, am_cmp_ne0]
          try simp only [Int.reduceEq, Int.reduceLT, Int.reduceLE, Int.reduceNeg, not_true_eq_false, not_false_eq_true, false_implies, true_implies, implies_true, true_and, and_true]
          refine last _ (nv.cg (fun l l0 => ?_))
          rw [ee l]
          constructor
          · rintro ((w' | w') | w')
            · omega
            · exact Or.inr w'
            · exact Or.inl ⟨w', ⟨hb, by omega⟩, ht, w.2.2⟩
          · rintro (w' | w')
            · exact Or.inr w'.1
            · exact Or.inl (Or.inr w')
        · simp only [kd_1, kd_2, ln_3, ll_3, kd_46, kd_47, ln_48, ll_48, ln_49, ll_49, kd_50, kd_51, ln_52, ll_52, ln_53, ll_53, ln_54, ll_54, ln_55, ll_55, ln_56, ll_56, ln_57, ll_57, ln_58, ll_58, kd_59, ln_60, ll_60, ln_61, ll_61, ln_62, ll_62, ln_63, ll_63, kd_64, ln_127, ll_127, ln_128, ll_128, ln_129, ll_129, ln_130, ll_130, ln_131, ll_131, ln_132, ll_132, ln_133, ll_133, ln_134, ll_134, kd_135, ln_136, ll_136, pc_1_0 hC, pc_1_3 hC, pc_1_4 hC, pc_1_5 hC, pc_1_6 hC, pc_1_7 hC, pc_1_8 hC, pc_2_0 hC, pc_46_0 hC, pc_50_0 hC, pc_50_1 hC, pc_50_2 hC, pc_50_3 hC, pc_50_4 hC, pc_50_5 hC, pc_64_2 hC, pc_64_3 hC, pc_135_0 hC, am_up_eq, Int.reduceEq, Int.reduceLT, Int.reduceLE, Int.reduceNeg, if_true, if_false, c_const, c_lconst, c_ref, c_iload, c_lload, c_aload, c_istore, c_lstore, c_astore, c_iinc, c_iadd, c_isub, c_imul, c_ladd, c_lsub, c_lmul, c_idiv, c_irem, c_ldiv, c_lrem, c_iand, c_ior, c_ixor, c_ishl, c_ishr, c_ineg, c_i2l, c_l2i, c_i2c, c_lcmp, c_dup, c_pop, c_dup2, c_at, c_icmp_eq, c_icmp_ne, c_icmp_lt, c_icmp_ge, c_icmp_gt, c_icmp_le, c_if_eq, c_if_ne, c_if_lt, c_if_ge, c_if_gt, c_if_le, c_ifnull, c_ifnonnull, am_swK, c_sw, c_iret, c_zret, c_cret, c_bret, c_lret, c_aret, c_vret, c_getI, c_getR, c_putI, c_putZ, c_putR, c_iald, c_zald, c_cald, c_lald, c_oald, c_gald, c_iast, c_zast, c_cast, c_last, c_oast, c_alen, c_callS0, c_callS1, c_callS2, c_callS3, c_callS4, c_callS5, c_callS6, c_callS7, c_callV0, c_callV1, c_callV2, c_callV3, c_callV4, c_callV5, c_callV6, c_callV7, c_callT0, c_callT1, am_nx_eq, am_set, am_set2, am_clr, am_isL, am_push, am_w, am_ent, am_ent1, List.getElem?_cons_zero, List.getElem?_cons_succ, List.set_cons_zero, List.set_cons_succ, List.getD_cons_zero, List.getD_cons_succ, List.cons_append, List.nil_append, List.append_nil, List.replicate_succ, List.replicate_zero, Nat.reduceAdd, Nat.reduceSub, Nat.reduceLeDiff, Bool.false_eq_true, reduceIte, true_and, and_true, true_or, or_true, or_self, am_i32, am_i64, bz_0, bz_01, bz_em, bz_n0, Classical.not_not, am_cmp_lt0, am_cmp_gt0, am_cmp_eq0, am_cmp_ge0, am_cmp_le0, am_cmp_ne0]
          try simp only [Int.reduceEq, Int.reduceLT, Int.reduceLE, Int.reduceNeg, not_true_eq_false, not_false_eq_true, false_implies, true_implies, implies_true, true_and, and_true]
          refine last _ (hv.cg (fun l l0 => ?_))
          rw [ee l]
          constructor
          · rintro (w' | w')
            · omega
            · exact Or.inr w'
          · rintro (w' | w')
            · exact absurd ⟨⟨hb, by omega⟩, hfr, w'.2.2.2⟩ w
            · exact Or.inr w'
    refine B_Search_spreadFrom_31 _ _ _ _ _ ?_
    simp only [b_Search_spreadFrom_31, e6, kr_0 hR, kr_1 hR, lr_2 hR, mr_2 hR, lr_3 hR, mr_3 hR, lr_4 hR, mr_4 hR, lr_5 hR, mr_5 hR, lr_6 hR, mr_6 hR, lr_7 hR, mr_7 hR, kr_8 hR, lr_9 hR, mr_9 hR, lr_10 hR, mr_10 hR, kr_11 hR, lr_12 hR, mr_12 hR, lr_13 hR, mr_13 hR, lr_14 hR, mr_14 hR, lr_15 hR, mr_15 hR, lr_16 hR, mr_16 hR, lr_17 hR, mr_17 hR, lr_18 hR, mr_18 hR, lr_19 hR, mr_19 hR, lr_20 hR, mr_20 hR, pr_0 hC hR, pr_1 hC hR, pr_2 hC hR, pr1_0 hC hR, pr1_1 hC hR, pr1_2 hC hR, pr1_3 hC hR, pr1_4 hC hR, pr1_5 hC hR, pr8_0 hC hR, pr8_1 hC hR, prt_0 hC hR, prt_1 hC hR, prt_2 hC hR, prt_3 hC hR, prt_4 hC hR, prt_5 hC hR, prt_6 hC hR, prt_7 hC hR, prt_8 hC hR, hU1.1.B.1.1, kd_1, kd_2, ln_3, ll_3, kd_46, kd_47, ln_48, ll_48, ln_49, ll_49, kd_50, kd_51, ln_52, ll_52, ln_53, ll_53, ln_54, ll_54, ln_55, ll_55, ln_56, ll_56, ln_57, ll_57, ln_58, ll_58, kd_59, ln_60, ll_60, ln_61, ll_61, ln_62, ll_62, ln_63, ll_63, kd_64, ln_127, ll_127, ln_128, ll_128, ln_129, ll_129, ln_130, ll_130, ln_131, ll_131, ln_132, ll_132, ln_133, ll_133, ln_134, ll_134, kd_135, ln_136, ll_136, pc_1_0 hC, pc_1_3 hC, pc_1_4 hC, pc_1_5 hC, pc_1_6 hC, pc_1_7 hC, pc_1_8 hC, pc_2_0 hC, pc_46_0 hC, pc_50_0 hC, pc_50_1 hC, pc_50_2 hC, pc_50_3 hC, pc_50_4 hC, pc_50_5 hC, pc_64_2 hC, pc_64_3 hC, pc_135_0 hC, am_up_eq, Int.reduceEq, Int.reduceLT, Int.reduceLE, Int.reduceNeg, if_true, if_false, c_const, c_lconst, c_ref, c_iload, c_lload, c_aload, c_istore, c_lstore, c_astore, c_iinc, c_iadd, c_isub, c_imul, c_ladd, c_lsub, c_lmul, c_idiv, c_irem, c_ldiv, c_lrem, c_iand, c_ior, c_ixor, c_ishl, c_ishr, c_ineg, c_i2l, c_l2i, c_i2c, c_lcmp, c_dup, c_pop, c_dup2, c_at, c_icmp_eq, c_icmp_ne, c_icmp_lt, c_icmp_ge, c_icmp_gt, c_icmp_le, c_if_eq, c_if_ne, c_if_lt, c_if_ge, c_if_gt, c_if_le, c_ifnull, c_ifnonnull, am_swK, c_sw, c_iret, c_zret, c_cret, c_bret, c_lret, c_aret, c_vret, c_getI, c_getR, c_putI, c_putZ, c_putR, c_iald, c_zald, c_cald, c_lald, c_oald, c_gald, c_iast, c_zast, c_cast, c_last, c_oast, c_alen, c_callS0, c_callS1, c_callS2, c_callS3, c_callS4, c_callS5, c_callS6, c_callS7, c_callV0, c_callV1, c_callV2, c_callV3, c_callV4, c_callV5, c_callV6, c_callV7, c_callT0, c_callT1, am_nx_eq, am_set, am_set2, am_clr, am_isL, am_push, am_w, am_ent, am_ent1, List.getElem?_cons_zero, List.getElem?_cons_succ, List.set_cons_zero, List.set_cons_succ, List.getD_cons_zero, List.getD_cons_succ, List.cons_append, List.nil_append, List.append_nil, List.replicate_succ, List.replicate_zero, Nat.reduceAdd, Nat.reduceSub, Nat.reduceLeDiff, Bool.false_eq_true, reduceIte, true_and, and_true, true_or, or_true, or_self, am_i32, am_i64, bz_0, bz_01, bz_em, bz_n0, Classical.not_not, am_cmp_lt0, am_cmp_gt0, am_cmp_eq0, am_cmp_ge0, am_cmp_le0, am_cmp_ne0]
    refine ⟨fun z => by omega, fun _ => ⟨fun z => by omega, fun _ => k_spotOf (by omega) (by omega) ?_⟩⟩
    simp only [idx, kd_1, kd_2, ln_3, ll_3, kd_46, kd_47, ln_48, ll_48, ln_49, ll_49, kd_50, kd_51, ln_52, ll_52, ln_53, ll_53, ln_54, ll_54, ln_55, ll_55, ln_56, ll_56, ln_57, ll_57, ln_58, ll_58, kd_59, ln_60, ll_60, ln_61, ll_61, ln_62, ll_62, ln_63, ll_63, kd_64, ln_127, ll_127, ln_128, ll_128, ln_129, ll_129, ln_130, ll_130, ln_131, ll_131, ln_132, ll_132, ln_133, ll_133, ln_134, ll_134, kd_135, ln_136, ll_136, pc_1_0 hC, pc_1_3 hC, pc_1_4 hC, pc_1_5 hC, pc_1_6 hC, pc_1_7 hC, pc_1_8 hC, pc_2_0 hC, pc_46_0 hC, pc_50_0 hC, pc_50_1 hC, pc_50_2 hC, pc_50_3 hC, pc_50_4 hC, pc_50_5 hC, pc_64_2 hC, pc_64_3 hC, pc_135_0 hC, am_up_eq, Int.reduceEq, Int.reduceLT, Int.reduceLE, Int.reduceNeg, if_true, if_false, c_const, c_lconst, c_ref, c_iload, c_lload, c_aload, c_istore, c_lstore, c_astore, c_iinc, c_iadd, c_isub, c_imul, c_ladd, c_lsub, c_lmul, c_idiv, c_irem, c_ldiv, c_lrem, c_iand, c_ior, c_ixor, c_ishl, c_ishr, c_ineg, c_i2l, c_l2i, c_i2c, c_lcmp, c_dup, c_pop, c_dup2, c_at, c_icmp_eq, c_icmp_ne, c_icmp_lt, c_icmp_ge, c_icmp_gt, c_icmp_le, c_if_eq, c_if_ne, c_if_lt, c_if_ge, c_if_gt, c_if_le, c_ifnull, c_ifnonnull, am_swK, c_sw, c_iret, c_zret, c_cret, c_bret, c_lret, c_aret, c_vret, c_getI, c_getR, c_putI, c_putZ, c_putR, c_iald, c_zald, c_cald, c_lald, c_oald, c_gald, c_iast, c_zast, c_cast, c_last, c_oast, c_alen, c_callS0, c_callS1, c_callS2, c_callS3, c_callS4, c_callS5, c_callS6, c_callS7, c_callV0, c_callV1, c_callV2, c_callV3, c_callV4, c_callV5, c_callV6, c_callV7, c_callT0, c_callT1, am_nx_eq, am_set, am_set2, am_clr, am_isL, am_push, am_w, am_ent, am_ent1, List.getElem?_cons_zero, List.getElem?_cons_succ, List.set_cons_zero, List.set_cons_succ, List.getD_cons_zero, List.getD_cons_succ, List.cons_append, List.nil_append, List.append_nil, List.replicate_succ, List.replicate_zero, Nat.reduceAdd, Nat.reduceSub, Nat.reduceLeDiff, Bool.false_eq_true, reduceIte, true_and, and_true, true_or, or_true, or_self, am_i32, am_i64, bz_0, bz_01, bz_em, bz_n0, Classical.not_not, am_cmp_lt0, am_cmp_gt0, am_cmp_eq0, am_cmp_ge0, am_cmp_le0, am_cmp_ne0]
    repeat (with_reducible refine And.intro (by omega) ?_)
    refine ⟨fun z => mid _ (old.cg (fun l l0 => ⟨Or.inl, fun w => w.elim id (fun w => by omega)⟩)), fun z => ?_⟩
    have prv := i1 dn b (t - 1) hdn.1 hdn.2 hb (by omega) (by omega) (by omega) (Or.inr ⟨rfl, Or.inl (by omega)⟩)
    rw [show 648 * dn + (81 * b + (t - 1)) = 648 * dn + (81 * b + t) - 1 by omega] at prv
    repeat (with_reducible refine And.intro (by omega) ?_)
    exact mid _ ((bs_or old prv).cg (fun l l0 => ⟨fun w => w.elim Or.inl (fun w => Or.inr ⟨by omega, w⟩), fun w => w.elim Or.inl (fun w => Or.inr w.2)⟩))
end
