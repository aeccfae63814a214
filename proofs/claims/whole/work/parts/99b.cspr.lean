/-! the class: sets as bits; the flights spread -/
theorem pf_fill : plainFor m_Arr_fill.1 = true := by decide +kernel
def bs (v : Int) (S : Int → Prop) : Prop := ∃ N : Nat, v = (N : Int) ∧ N < 512 ∧ ∀ i : Nat, N.testBit i = true ↔ S (i : Int)
theorem bs.rng {v : Int} {S : Int → Prop} (h : bs v S) : 0 ≤ v ∧ v < 512 := by
  obtain ⟨N, rfl, h, _⟩ := h
  omega
theorem bs.cg {v : Int} {S S' : Int → Prop} (h : bs v S) (e : ∀ i, 0 ≤ i → (S i ↔ S' i)) : bs v S' := by
  obtain ⟨N, h1, h2, h3⟩ := h
  exact ⟨N, h1, h2, fun i => (h3 i).trans (e i (by omega))⟩
theorem bs.u {v w : Int} {S : Int → Prop} (h : bs v S) (h' : bs w S) : v = w := by
  obtain ⟨x, rfl, _, a⟩ := h
  obtain ⟨z, rfl, _, b⟩ := h'
  congr 1
  apply Nat.eq_of_testBit_eq
  intro i
  have := (a i).trans (b i).symm
  cases h1 : x.testBit i <;> cases h2 : z.testBit i <;> simp_all
theorem bs_0 : bs 0 (fun _ => False) := ⟨0, rfl, by decide, fun i => by simp⟩
theorem bs_or {v w : Int} {S S' : Int → Prop} (h : bs v S) (h' : bs w S') : bs (am_or v w) (fun i => S i ∨ S' i) := by
  obtain ⟨x, rfl, x5, a⟩ := h
  obtain ⟨z, rfl, z5, b⟩ := h'
  rw [am_or_nat (by omega) (by omega) (by omega) (by omega)]
  refine ⟨x ||| z, by rw [Int.toNat_natCast, Int.toNat_natCast], Nat.or_lt_two_pow (n := 9) x5 z5, fun i => ?_⟩
  rw [Nat.testBit_or, Bool.or_eq_true, a i, b i]
theorem bs_sh {k : Int} (hk : 0 ≤ k ∧ k ≤ 8) : bs (am_shl 1 k) (fun i => i = k) := by
  obtain ⟨c, rfl⟩ : ∃ c : Nat, k = c := ⟨k.toNat, by omega⟩
  have p2 : (2 : Nat) ^ c ≤ 2 ^ 8 := Nat.pow_le_pow_right (by omega) (by omega)
  obtain ⟨z2, hz2⟩ : ∃ z2 : Nat, z2 = 2 ^ c := ⟨_, rfl⟩
  have zi : (z2 : Int) = 2 ^ c := by rw [hz2]; simp
  rw [← hz2] at p2
  have p2' : z2 ≤ 256 := p2
  refine ⟨z2, ?_, by omega, fun i => ?_⟩
  · rw [am_shl_e (by omega) (by omega) (by omega), zi]
    omega
  · rw [hz2, Nat.testBit_two_pow, decide_eq_true_iff]
    omega
theorem bs_256 : bs 256 (fun i => i = 8) := by
  have := bs_sh (k := 8) (by omega)
  rwa [show am_shl 1 8 = 256 from rfl] at this
theorem bs_z {v : Int} {S : Int → Prop} (h : bs v S) : v = 0 ↔ ∀ i, 0 ≤ i → ¬ S i := by
  obtain ⟨x, rfl, x5, a⟩ := h
  constructor
  · intro z i i0 s
    have x0 : x = 0 := by omega
    have := (a i.toNat).mpr (by rwa [show ((i.toNat : Nat) : Int) = i by omega])
    rw [x0] at this
    simp at this
  · intro z
    have : x = 0 := by
      apply Nat.eq_of_testBit_eq
      intro i
      have := mt (a i).mp (z i (by omega))
      simp only [Nat.zero_testBit]
      cases h : x.testBit i
      · rfl
      · exact absurd h this
    rw [this]; rfl
theorem bs_and0 {v w : Int} {S S' : Int → Prop} (h : bs v S) (h' : bs w S') : bs (am_and v w) (fun i => S i ∧ S' i) := by
  obtain ⟨x, rfl, x5, a⟩ := h
  obtain ⟨z, rfl, z5, b⟩ := h'
  rw [am_and_nat (by omega) (by omega) (by omega) (by omega)]
  refine ⟨x &&& z, by rw [Int.toNat_natCast, Int.toNat_natCast], Nat.lt_of_le_of_lt Nat.and_le_left x5, fun i => ?_⟩
  rw [Nat.testBit_and, Bool.and_eq_true, a i, b i]
theorem am_and_not : ∀ (N : Fin 512) (k : Fin 8), am_and (N.val : Int) (am_xor (am_shl 1 (k.val : Int)) (-1)) = ((N.val &&& (511 - 2 ^ k.val) : Nat) : Int) := by decide +kernel
theorem bs_511 : ∀ (k : Fin 8) (i : Fin 9), (511 - 2 ^ k.val).testBit i.val = decide (i.val ≠ k.val) := by decide +kernel
theorem bs_and {v k : Int} {S : Int → Prop} (h : bs v S) (hk : 0 ≤ k ∧ k ≤ 8) : am_and v (am_shl 1 k) = 0 ↔ ¬ S k := by
  rw [bs_z (bs_and0 h (bs_sh hk))]
  constructor
  · intro z w; exact z k hk.1 ⟨w, rfl⟩
  · intro z i _ w; rw [w.2] at w; exact z w.1
theorem bs_not {v k : Int} {S : Int → Prop} (h : bs v S) (hk : 0 ≤ k ∧ k ≤ 7) : am_and v (am_xor (am_shl 1 k) (-1)) = 0 ↔ ∀ i, 0 ≤ i → S i → i = k := by
  obtain ⟨x, rfl, x5, a⟩ := h
  obtain ⟨c, rfl⟩ : ∃ c : Nat, k = c := ⟨k.toNat, by omega⟩
  have e := am_and_not ⟨x, x5⟩ ⟨c, by omega⟩
  simp only at e
  rw [e]
  have hb : bs ((x &&& (511 - 2 ^ c) : Nat) : Int) (fun i => S i ∧ i ≠ c) := by
    refine ⟨_, rfl, Nat.lt_of_le_of_lt Nat.and_le_left x5, fun i => ?_⟩
    rw [Nat.testBit_and, Bool.and_eq_true, a i]
    by_cases z : i < 9
    · have e2 := bs_511 ⟨c, by omega⟩ ⟨i, z⟩
      simp only at e2
      rw [e2, decide_eq_true_iff]
      constructor
      · intro w; exact ⟨w.1, by have := w.2; omega⟩
      · intro w; exact ⟨w.1, by have := w.2; omega⟩
    · have x0 : x.testBit i = false := Nat.testBit_lt_two_pow (Nat.lt_of_lt_of_le x5 (Nat.pow_le_pow_right (n := 2) (by omega) (show 9 ≤ i by omega)))
      have ns : ¬ S (i : Int) := fun w => by rw [(a i).mpr w] at x0; cases x0
      exact ⟨fun w => absurd w.1 ns, fun w => absurd w.1 ns⟩
  rw [bs_z hb]
  constructor
  · intro z i i0 s
    by_cases w : i = c
    · exact w
    · exact absurd ⟨s, w⟩ (z i i0)
  · intro z i i0 w
    exact w.2 (z i i0 w.1)
section
variable {M M' D : Int → Int → Int} {R : Int} {d : Nat} {Q : AV → am_S → Prop}
/-- the probe of the search and the array of the spread alone change -/
def SG9 (M M' : Int → Int → Int) : Prop := (∀ o, o ≠ 51 → o ≠ 52 → o ≠ 58 → M' o = M o) ∧ M' 51 0 = M 51 0
theorem SG9.rf (M : Int → Int → Int) : SG9 M M := ⟨fun _ _ _ _ => rfl, rfl⟩
theorem SG9.tr {M1 M2 : Int → Int → Int} (h1 : SG9 M M1) (h2 : SG9 M1 M2) : SG9 M M2 := ⟨fun o a b c => (h2.1 o a b c).trans (h1.1 o a b c), h2.2.trans h1.2⟩
theorem CSc.sf (h : CSc 51 M M') : SG9 M M' := ⟨fun o a b _ => h.1 o a b, h.2⟩
theorem SG9.up (M : Int → Int → Int) (j v : Int) : SG9 M (am_up M 58 j v) := ⟨fun o _ _ c => am_up_o M c, by rw [am_up_o M (by decide)]⟩
theorem SG9.cx (h : SG9 M M') : CX M M' := ⟨fun o a => h.1 o (by omega) (by omega) (by omega), by rw [h.1 47 (by decide) (by decide) (by decide)], h.2, fun j _ => by rw [h.1 50 (by decide) (by decide) (by decide)]⟩
theorem SU.sf {n y nb nt : Int} (h : SU M D R n y nb nt) (s : SG9 M M') : SU M' D R n y nb nt := by
  obtain ⟨q1, q2, q3, q4, q5⟩ := h
  have er := q1.r
  unfold isR at er
  have e50 : M' 50 = M 50 := s.1 50 (by decide) (by decide) (by decide)
  exact ⟨q1.x s.cx, q2.eq (fun o a b => s.1 o (by omega) (by omega) (by omega)), q3, q4.eq (s.1 _ (by decide) (by decide) (by decide)) (s.1 _ (by decide) (by decide) (by decide)) (by rw [e50]), by rw [e50]; exact q5⟩
/-- a new flight from a bar at a tick, after any of the tricks H -/
def nwS (D : Int → Int → Int) (y n : Int) (H : Int → Prop) (b u k c t : Int) : Prop := (0 ≤ k ∧ k < D 0 2) ∧ (0 ≤ c ∧ c < D 0 0) ∧ t ≤ y ∧ b ≠ c ∧ t = u + D 7 k ∧ ∃ l, 0 ≤ l ∧ H l ∧ gd D b u k c n (bz (l = k)) = 1
theorem nwS_ok {y n b u k c t : Int} {H : Int → Prop} (ha : WFa D) (hV : WFc D) (hy : y ≤ 80) (h : nwS D y n H b u k c t) : okL D b u k c := by
  obtain ⟨h2, h3, h4, h5, h5', l, l0, hl, h6⟩ := h
  have aw := ha k h2.1 h2.2
  have near : msF D b u k c ≤ D 8 k := by
    unfold gd at h6
    by_cases q : msF D b u k c ≤ D 8 k ∧ tst D b u k c n (bz (l = k)) = 1
    · exact q.1
    · rw [bz_f q] at h6; omega
  refine ⟨fun z => h5 z.symm, by omega, near, ?_⟩
  by_cases q1 : D 16 k = 1
  · exact Or.inl q1
  · by_cases q2 : D 17 k = 1
    · exact Or.inr (Or.inl q2)
    · have gi := gd_ind (b := b) (t := u) (c := c) (n := n) (g := bz (l = k)) (n' := 0) (g' := 0) ha hV h2 (Or.inl (by omega)) (Or.inl (by omega))
      exact Or.inr (Or.inr (by rw [← gi.1]; exact h6))
/-- level n of the spread holds the sets Z -/
def LZ (M D : Int → Int → Int) (y n : Int) (Z : Int → Int → Int → Prop) : Prop := ∀ c t, 0 ≤ c → c < D 0 0 → 0 ≤ t → t ≤ y → bs (M 58 (648 * n + (81 * c + t))) (fun k => Z k c t)
theorem k_sf_l {M0 : Int → Int → Int} {n y dn b u v : Int} {H : Int → Prop} {Z : Int → Int → Int → Prop} (hU : SU M0 D R n y (-1) (-1)) (hn : 0 ≤ n ∧ n ≤ 8) (hy : 0 ≤ y ∧ y ≤ 80) (hdn : 0 ≤ dn ∧ dn < n) (hb : 0 ≤ b ∧ b < D 0 0) (hu : 0 ≤ u ∧ u ≤ y) (hv : bs v H)
    (h : ∀ M', SG9 M0 M' → (∀ j, (j < 648 * (dn + 1) ∨ 648 * (dn + 2) ≤ j) → M' 58 j = M0 58 j) → LZ M' D y (dn + 1) (fun k c t => Z k c t ∨ nwS D y dn H b u k c t) → Q none (am_SH, M')) :
    ∀ (m q : Nat) (x5 x6 x7 : AV) (M : Int → Int → Int), q + m = (LL D b u).length → SG9 M0 M → (∀ j, (j < 648 * (dn + 1) ∨ 648 * (dn + 2) ≤ j) → M 58 j = M0 58 j) → LZ M D y (dn + 1) (fun k c t => Z k c t ∨ (nwS D y dn H b u k c t ∧ ∃ j, j < q ∧ (LL D b u).getD j 0 = enL D b u k c)) → am_Wp (d + 6) m_Search_spreadFlights 0 0 8 [vR 50, vI dn, vI (81 * b + u), vI v, vI (M0 54 (81 * b + u) + (q : Int)), x5, x6, x7] [] (am_SH, M) Q := by
  have hD := hU.1.W
  have hWc := hU.1.V
  have hd0 := hD.1
  have hd2 := hD.2.2.1
  have ha := hU.2.2.1
  have L := hU.2.2.2.1.1 b u hb.1 hb.2 (by omega) (by omega)
  have vr := hv.rng
  intro m
  induction m with
  | zero =>
    intro q x5 x6 x7 M hm hs ho hZ
    have hU1 := hU.sf hs
    have hC := hU1.1.P
    have e54 : M 54 = M0 54 := hs.1 54 (by decide) (by decide) (by decide)
    refine B_Search_spreadFlights_8 _ _ _ _ _ ?_
    simp only [b_Search_spreadFlights_8, b_Search_spreadFlights_158, e54, L.2.1, kd_1, kd_2, ln_3, ll_3, kd_46, kd_47, ln_48, ll_48, ln_49, ll_49, kd_50, kd_51, ln_52, ll_52, ln_53, ll_53, ln_54, ll_54, ln_55, ll_55, ln_56, ll_56, ln_57, ll_57, ln_58, ll_58, kd_59, ln_60, ll_60, ln_61, ll_61, ln_62, ll_62, ln_63, ll_63, kd_64, ln_127, ll_127, ln_128, ll_128, ln_129, ll_129, ln_130, ll_130, ln_131, ll_131, ln_132, ll_132, ln_133, ll_133, ln_134, ll_134, kd_135, ln_136, ll_136, pc_1_0 hC, pc_1_3 hC, pc_1_4 hC, pc_1_5 hC, pc_1_6 hC, pc_1_7 hC, pc_1_8 hC, pc_2_0 hC, pc_46_0 hC, pc_50_0 hC, pc_50_1 hC, pc_50_2 hC, pc_50_3 hC, pc_50_4 hC, pc_50_5 hC, pc_64_2 hC, pc_64_3 hC, pc_135_0 hC, am_up_eq, Int.reduceEq, Int.reduceLT, Int.reduceLE, Int.reduceNeg, if_true, if_false, c_const, c_lconst, c_ref, c_iload, c_lload, c_aload, c_istore, c_lstore, c_astore, c_iinc, c_iadd, c_isub, c_imul, c_ladd, c_lsub, c_lmul, c_idiv, c_irem, c_ldiv, c_lrem, c_iand, c_ior, c_ixor, c_ishl, c_ishr, c_ineg, c_i2l, c_l2i, c_i2c, c_lcmp, c_dup, c_pop, c_dup2, c_at, c_icmp_eq, c_icmp_ne, c_icmp_lt, c_icmp_ge, c_icmp_gt, c_icmp_le, c_if_eq, c_if_ne, c_if_lt, c_if_ge, c_if_gt, c_if_le, c_ifnull, c_ifnonnull, am_swK, c_sw, c_iret, c_zret, c_cret, c_bret, c_lret, c_aret, c_vret, c_getI, c_getR, c_putI, c_putZ, c_putR, c_iald, c_zald, c_cald, c_lald, c_oald, c_gald, c_iast, c_zast, c_cast, c_last, c_oast, c_alen, c_callS0, c_callS1, c_callS2, c_callS3, c_callS4, c_callS5, c_callS6, c_callS7, c_callV0, c_callV1, c_callV2, c_callV3, c_callV4, c_callV5, c_callV6, c_callV7, c_callT0, c_callT1, am_nx_eq, am_set, am_set2, am_clr, am_isL, am_push, am_w, am_ent, am_ent1, List.getElem?_cons_zero, List.getElem?_cons_succ, List.set_cons_zero, List.set_cons_succ, List.getD_cons_zero, List.getD_cons_succ, List.cons_append, List.nil_append, List.append_nil, List.replicate_succ, List.replicate_zero, Nat.reduceAdd, Nat.reduceSub, Nat.reduceLeDiff, Bool.false_eq_true, reduceIte, true_and, and_true, true_or, or_true, or_self, am_i32, am_i64, bz_0, bz_01, bz_em, bz_n0, Classical.not_not, am_cmp_lt0, am_cmp_gt0, am_cmp_eq0, am_cmp_ge0, am_cmp_le0, am_cmp_ne0]
    repeat (with_reducible refine And.intro (by omega) ?_)
    refine ⟨fun _ => h M hs ho (fun c t c0 c1 t0 t1 => (hZ c t c0 c1 t0 t1).cg (fun k k0 => ?_)), fun z => by omega⟩
    constructor
    · rintro (w | w)
      · exact Or.inl w
      · exact Or.inr w.1
    · rintro (w | w)
      · exact Or.inl w
      · obtain ⟨j, j1, j2⟩ := LL_at (nwS_ok ha hWc hy.2 w) w.1 w.2.1
        exact Or.inr ⟨w, j, by omega, j2⟩
  | succ m ih =>
    intro q x5 x6 x7 M hm hs ho hZ
    have hU1 := hU.sf hs
    have hG := hU1.1
    have hC := hG.P
    have hA := hU1.2.1
    have e6 : M 50 6 = R := hU1.2.2.2.2.1
    have e11 : M 50 11 = y := hU1.2.2.2.2.2.2.1
    have e12 : M 50 12 = -1 := hU1.2.2.2.2.2.2.2.1
    have e13 : M 50 13 = -1 := hU1.2.2.2.2.2.2.2.2
    have e54 : M 54 = M0 54 := hs.1 54 (by decide) (by decide) (by decide)
    have e55 : M 55 (M0 54 (81 * b + u) + q) = (LL D b u).getD q 0 := by
      rw [hs.1 55 (by decide) (by decide) (by decide)]
      exact L.2.2.2 q (by omega)
    have mem : (LL D b u).getD q 0 ∈ LL D b u := by
      rw [show (LL D b u).getD q 0 = (LL D b u)[q] by simp [List.getD, show q < (LL D b u).length by omega]]
      exact List.getElem_mem _
    obtain ⟨k, c, k1, c1, ok, ee⟩ := LL_mem hD mem
    have en := enL_in (D := D) (b := b) (t := u) (k := k) (c := c) (by omega) (by omega)
    have w7 := (hD.2.2.2.2.2 k k1.1 k1.2).1
    have same : ∀ k' c', 0 ≤ k' → k' < D 0 2 → 0 ≤ c' → c' < D 0 0 → enL D b u k c = enL D b u k' c' → k' = k ∧ c' = c := by
      intro k' c' a1 a2 a3 a4 e
      have en' := enL_in (D := D) (b := b) (t := u) (k := k') (c := c') (by omega) (by omega)
      rw [← e] at en'
      exact ⟨by omega, by omega⟩
    have skip : ∀ (x5 x6 x7 : AV) M1, CSc 51 M M1 → (∀ t, t ≤ y → ¬ nwS D y dn H b u k c t) → b_Search_spreadFlights_152 (d + 5) Q 0 0 [vR 50, vI dn, vI (81 * b + u), vI v, vI (M0 54 (81 * b + u) + (q : Int)), x5, x6, x7] [] (am_SH, M1) := by
      intro x5 x6 x7 M1 s1 no
      have e58 : M1 58 = M 58 := s1.1 58 (by decide) (by decide)
      have nx := ih (q + 1) x5 x6 x7 M1 (by omega) (hs.tr s1.sf) (by rw [e58]; exact ho) (fun c' t c0 c1 t0 t1 => by
        rw [e58]
        refine (hZ c' t c0 c1 t0 t1).cg (fun k' k0 => ?_)
        constructor
        · rintro (w | ⟨w, j, j1, j2⟩)
          · exact Or.inl w
          · exact Or.inr ⟨w, j, by omega, j2⟩
        · rintro (w | ⟨w, j, j1, j2⟩)
          · exact Or.inl w
          · by_cases z : j = q
            · rw [z, ee] at j2
              obtain ⟨rfl, rfl⟩ := same k' c' w.1.1 w.1.2 c0 c1 j2
              exact absurd w (no t t1)
            · exact Or.inr ⟨w, j, by omega, j2⟩)
      simp only [b_Search_spreadFlights_152, c_const, c_lconst, c_ref, c_iload, c_lload, c_aload, c_istore, c_lstore, c_astore, c_iinc, c_iadd, c_isub, c_imul, c_ladd, c_lsub, c_lmul, c_idiv, c_irem, c_ldiv, c_lrem, c_iand, c_ior, c_ixor, c_ishl, c_ishr, c_ineg, c_i2l, c_l2i, c_i2c, c_lcmp, c_dup, c_pop, c_dup2, c_at, c_icmp_eq, c_icmp_ne, c_icmp_lt, c_icmp_ge, c_icmp_gt, c_icmp_le, c_if_eq, c_if_ne, c_if_lt, c_if_ge, c_if_gt, c_if_le, c_ifnull, c_ifnonnull, am_swK, c_sw, c_iret, c_zret, c_cret, c_bret, c_lret, c_aret, c_vret, c_getI, c_getR, c_putI, c_putZ, c_putR, c_iald, c_zald, c_cald, c_lald, c_oald, c_gald, c_iast, c_zast, c_cast, c_last, c_oast, c_alen, c_callS0, c_callS1, c_callS2, c_callS3, c_callS4, c_callS5, c_callS6, c_callS7, c_callV0, c_callV1, c_callV2, c_callV3, c_callV4, c_callV5, c_callV6, c_callV7, c_callT0, c_callT1, am_nx_eq, am_set, am_set2, am_clr, am_isL, am_push, am_w, am_ent, am_ent1, List.getElem?_cons_zero, List.getElem?_cons_succ, List.set_cons_zero, List.set_cons_succ, List.getD_cons_zero, List.getD_cons_succ, List.cons_append, List.nil_append, List.append_nil, List.replicate_succ, List.replicate_zero, Nat.reduceAdd, Nat.reduceSub, Nat.reduceLeDiff, Bool.false_eq_true, reduceIte, true_and, and_true, true_or, or_true, or_self, am_i32, am_i64, bz_0, bz_01, bz_em, bz_n0, Classical.not_not, am_cmp_lt0, am_cmp_gt0, am_cmp_eq0, am_cmp_ge0, am_cmp_le0, am_cmp_ne0]
      rw [show M0 54 (81 * b + u) + (q : Int) + 1 = M0 54 (81 * b + u) + ((q + 1 : Nat) : Int) by omega]
      exact ⟨by omega, nx⟩
    have tr9 : ∀ Q' : AV → am_S → Prop, Q' (vI k) (am_SH, M) → am_Call (d + 5) m_Search_trickOf 0 0 [vI (enL D b u k c)] (am_SH, M) Q' := fun Q' hq => k_trickOf (by omega) (by rw [en.2.2.1]; exact hq)
    have b1 := bs_and hv (k := k) (by omega)
    have b2 := bs_not hv (k := k) (by omega)
    have b3 := bs_sh (k := k) (by omega)
    refine B_Search_spreadFlights_8 _ _ _ _ _ ?_
    simp only [b_Search_spreadFlights_8, e54, L.2.1, e55, ee, kd_1, kd_2, ln_3, ll_3, kd_46, kd_47, ln_48, ll_48, ln_49, ll_49, kd_50, kd_51, ln_52, ll_52, ln_53, ll_53, ln_54, ll_54, ln_55, ll_55, ln_56, ll_56, ln_57, ll_57, ln_58, ll_58, kd_59, ln_60, ll_60, ln_61, ll_61, ln_62, ll_62, ln_63, ll_63, kd_64, ln_127, ll_127, ln_128, ll_128, ln_129, ll_129, ln_130, ll_130, ln_131, ll_131, ln_132, ll_132, ln_133, ll_133, ln_134, ll_134, kd_135, ln_136, ll_136, pc_1_0 hC, pc_1_3 hC, pc_1_4 hC, pc_1_5 hC, pc_1_6 hC, pc_1_7 hC, pc_1_8 hC, pc_2_0 hC, pc_46_0 hC, pc_50_0 hC, pc_50_1 hC, pc_50_2 hC, pc_50_3 hC, pc_50_4 hC, pc_50_5 hC, pc_64_2 hC, pc_64_3 hC, pc_135_0 hC, am_up_eq, Int.reduceEq, Int.reduceLT, Int.reduceLE, Int.reduceNeg, if_true, if_false, c_const, c_lconst, c_ref, c_iload, c_lload, c_aload, c_istore, c_lstore, c_astore, c_iinc, c_iadd, c_isub, c_imul, c_ladd, c_lsub, c_lmul, c_idiv, c_irem, c_ldiv, c_lrem, c_iand, c_ior, c_ixor, c_ishl, c_ishr, c_ineg, c_i2l, c_l2i, c_i2c, c_lcmp, c_dup, c_pop, c_dup2, c_at, c_icmp_eq, c_icmp_ne, c_icmp_lt, c_icmp_ge, c_icmp_gt, c_icmp_le, c_if_eq, c_if_ne, c_if_lt, c_if_ge, c_if_gt, c_if_le, c_ifnull, c_ifnonnull, am_swK, c_sw, c_iret, c_zret, c_cret, c_bret, c_lret, c_aret, c_vret, c_getI, c_getR, c_putI, c_putZ, c_putR, c_iald, c_zald, c_cald, c_lald, c_oald, c_gald, c_iast, c_zast, c_cast, c_last, c_oast, c_alen, c_callS0, c_callS1, c_callS2, c_callS3, c_callS4, c_callS5, c_callS6, c_callS7, c_callV0, c_callV1, c_callV2, c_callV3, c_callV4, c_callV5, c_callV6, c_callV7, c_callT0, c_callT1, am_nx_eq, am_set, am_set2, am_clr, am_isL, am_push, am_w, am_ent, am_ent1, List.getElem?_cons_zero, List.getElem?_cons_succ, List.set_cons_zero, List.set_cons_succ, List.getD_cons_zero, List.getD_cons_succ, List.cons_append, List.nil_append, List.append_nil, List.replicate_succ, List.replicate_zero, Nat.reduceAdd, Nat.reduceSub, Nat.reduceLeDiff, Bool.false_eq_true, reduceIte, true_and, and_true, true_or, or_true, or_self, am_i32, am_i64, bz_0, bz_01, bz_em, bz_n0, Classical.not_not, am_cmp_lt0, am_cmp_gt0, am_cmp_eq0, am_cmp_ge0, am_cmp_le0, am_cmp_ne0]
    repeat (with_reducible refine And.intro (by omega) ?_)
    refine fun _ => ⟨fun z => by omega, fun _ => ?_⟩
    repeat (with_reducible refine And.intro (by omega) ?_)
    refine tr9 _ ?_
    simp only [e55, ee, kd_1, kd_2, ln_3, ll_3, kd_46, kd_47, ln_48, ll_48, ln_49, ll_49, kd_50, kd_51, ln_52, ll_52, ln_53, ll_53, ln_54, ll_54, ln_55, ll_55, ln_56, ll_56, ln_57, ll_57, ln_58, ll_58, kd_59, ln_60, ll_60, ln_61, ll_61, ln_62, ll_62, ln_63, ll_63, kd_64, ln_127, ll_127, ln_128, ll_128, ln_129, ll_129, ln_130, ll_130, ln_131, ll_131, ln_132, ll_132, ln_133, ll_133, ln_134, ll_134, kd_135, ln_136, ll_136, pc_1_0 hC, pc_1_3 hC, pc_1_4 hC, pc_1_5 hC, pc_1_6 hC, pc_1_7 hC, pc_1_8 hC, pc_2_0 hC, pc_46_0 hC, pc_50_0 hC, pc_50_1 hC, pc_50_2 hC, pc_50_3 hC, pc_50_4 hC, pc_50_5 hC, pc_64_2 hC, pc_64_3 hC, pc_135_0 hC, am_up_eq, Int.reduceEq, Int.reduceLT, Int.reduceLE, Int.reduceNeg, if_true, if_false, c_const, c_lconst, c_ref, c_iload, c_lload, c_aload, c_istore, c_lstore, c_astore, c_iinc, c_iadd, c_isub, c_imul, c_ladd, c_lsub, c_lmul, c_idiv, c_irem, c_ldiv, c_lrem, c_iand, c_ior, c_ixor, c_ishl, c_ishr, c_ineg, c_i2l, c_l2i, c_i2c, c_lcmp, c_dup, c_pop, c_dup2, c_at, c_icmp_eq, c_icmp_ne, c_icmp_lt, c_icmp_ge, c_icmp_gt, c_icmp_le, c_if_eq, c_if_ne, c_if_lt, c_if_ge, c_if_gt, c_if_le, c_ifnull, c_ifnonnull, am_swK, c_sw, c_iret, c_zret, c_cret, c_bret, c_lret, c_aret, c_vret, c_getI, c_getR, c_putI, c_putZ, c_putR, c_iald, c_zald, c_cald, c_lald, c_oald, c_gald, c_iast, c_zast, c_cast, c_last, c_oast, c_alen, c_callS0, c_callS1, c_callS2, c_callS3, c_callS4, c_callS5, c_callS6, c_callS7, c_callV0, c_callV1, c_callV2, c_callV3, c_callV4, c_callV5, c_callV6, c_callV7, c_callT0, c_callT1, am_nx_eq, am_set, am_set2, am_clr, am_isL, am_push, am_w, am_ent, am_ent1, List.getElem?_cons_zero, List.getElem?_cons_succ, List.set_cons_zero, List.set_cons_succ, List.getD_cons_zero, List.getD_cons_succ, List.cons_append, List.nil_append, List.append_nil, List.replicate_succ, List.replicate_zero, Nat.reduceAdd, Nat.reduceSub, Nat.reduceLeDiff, Bool.false_eq_true, reduceIte, true_and, and_true, true_or, or_true, or_self, am_i32, am_i64, bz_0, bz_01, bz_em, bz_n0, Classical.not_not, am_cmp_lt0, am_cmp_gt0, am_cmp_eq0, am_cmp_ge0, am_cmp_le0, am_cmp_ne0]
    generalize am_shl 1 k = own at *
    have ow := b3.rng
    repeat (with_reducible refine And.intro (by omega) ?_)
    refine k_landing hG e6 e11 e12 e13 hb (by omega) k1 c1 ?_
    by_cases zl : k = -1 ∨ c = -1 ∨ y < u + D 7 k
    · rw [if_pos zl]
      simp only [kd_1, kd_2, ln_3, ll_3, kd_46, kd_47, ln_48, ll_48, ln_49, ll_49, kd_50, kd_51, ln_52, ll_52, ln_53, ll_53, ln_54, ll_54, ln_55, ll_55, ln_56, ll_56, ln_57, ll_57, ln_58, ll_58, kd_59, ln_60, ll_60, ln_61, ll_61, ln_62, ll_62, ln_63, ll_63, kd_64, ln_127, ll_127, ln_128, ll_128, ln_129, ll_129, ln_130, ll_130, ln_131, ll_131, ln_132, ll_132, ln_133, ll_133, ln_134, ll_134, kd_135, ln_136, ll_136, pc_1_0 hC, pc_1_3 hC, pc_1_4 hC, pc_1_5 hC, pc_1_6 hC, pc_1_7 hC, pc_1_8 hC, pc_2_0 hC, pc_46_0 hC, pc_50_0 hC, pc_50_1 hC, pc_50_2 hC, pc_50_3 hC, pc_50_4 hC, pc_50_5 hC, pc_64_2 hC, pc_64_3 hC, pc_135_0 hC, am_up_eq, Int.reduceEq, Int.reduceLT, Int.reduceLE, Int.reduceNeg, if_true, if_false, c_const, c_lconst, c_ref, c_iload, c_lload, c_aload, c_istore, c_lstore, c_astore, c_iinc, c_iadd, c_isub, c_imul, c_ladd, c_lsub, c_lmul, c_idiv, c_irem, c_ldiv, c_lrem, c_iand, c_ior, c_ixor, c_ishl, c_ishr, c_ineg, c_i2l, c_l2i, c_i2c, c_lcmp, c_dup, c_pop, c_dup2, c_at, c_icmp_eq, c_icmp_ne, c_icmp_lt, c_icmp_ge, c_icmp_gt, c_icmp_le, c_if_eq, c_if_ne, c_if_lt, c_if_ge, c_if_gt, c_if_le, c_ifnull, c_ifnonnull, am_swK, c_sw, c_iret, c_zret, c_cret, c_bret, c_lret, c_aret, c_vret, c_getI, c_getR, c_putI, c_putZ, c_putR, c_iald, c_zald, c_cald, c_lald, c_oald, c_gald, c_iast, c_zast, c_cast, c_last, c_oast, c_alen, c_callS0, c_callS1, c_callS2, c_callS3, c_callS4, c_callS5, c_callS6, c_callS7, c_callV0, c_callV1, c_callV2, c_callV3, c_callV4, c_callV5, c_callV6, c_callV7, c_callT0, c_callT1, am_nx_eq, am_set, am_set2, am_clr, am_isL, am_push, am_w, am_ent, am_ent1, List.getElem?_cons_zero, List.getElem?_cons_succ, List.set_cons_zero, List.set_cons_succ, List.getD_cons_zero, List.getD_cons_succ, List.cons_append, List.nil_append, List.append_nil, List.replicate_succ, List.replicate_zero, Nat.reduceAdd, Nat.reduceSub, Nat.reduceLeDiff, Bool.false_eq_true, reduceIte, true_and, and_true, true_or, or_true, or_self, am_i32, am_i64, bz_0, bz_01, bz_em, bz_n0, Classical.not_not, am_cmp_lt0, am_cmp_gt0, am_cmp_eq0, am_cmp_ge0, am_cmp_le0, am_cmp_ne0]
      try simp only [Int.reduceEq, Int.reduceLT, Int.reduceLE, Int.reduceNeg, not_true_eq_false, not_false_eq_true, false_implies, true_implies, implies_true, true_and, and_true]
      exact skip _ _ _ M (CSc.rf _ _) (fun t t1 w => by have := w.2.2.2.2.1; omega)
    · rw [if_neg zl]
      have yk : u + D 7 k ≤ y := by omega
      have add : ∀ (x7 : AV) M1, CSc 51 M M1 → am_PC M1 → nwS D y dn H b u k c (u + D 7 k) → b_Search_spreadFlights_132 (d + 5) Q 0 0 [vR 50, vI dn, vI (81 * b + u), vI v, vI (M0 54 (81 * b + u) + (q : Int)), vI own, vI (81 * c + (u + D 7 k)), x7] [] (am_SH, M1) := by
        intro x7 M1 s1 hC w
        have e58 : M1 58 = M 58 := s1.1 58 (by decide) (by decide)
        have old := hZ c (u + D 7 k) c1.1 c1.2 (by omega) yk
        rw [← e58] at old
        have nw := bs_or old b3
        simp only [b_Search_spreadFlights_132, kd_1, kd_2, ln_3, ll_3, kd_46, kd_47, ln_48, ll_48, ln_49, ll_49, kd_50, kd_51, ln_52, ll_52, ln_53, ll_53, ln_54, ll_54, ln_55, ll_55, ln_56, ll_56, ln_57, ll_57, ln_58, ll_58, kd_59, ln_60, ll_60, ln_61, ll_61, ln_62, ll_62, ln_63, ll_63, kd_64, ln_127, ll_127, ln_128, ll_128, ln_129, ll_129, ln_130, ll_130, ln_131, ll_131, ln_132, ll_132, ln_133, ll_133, ln_134, ll_134, kd_135, ln_136, ll_136, pc_1_0 hC, pc_1_3 hC, pc_1_4 hC, pc_1_5 hC, pc_1_6 hC, pc_1_7 hC, pc_1_8 hC, pc_2_0 hC, pc_46_0 hC, pc_50_0 hC, pc_50_1 hC, pc_50_2 hC, pc_50_3 hC, pc_50_4 hC, pc_50_5 hC, pc_64_2 hC, pc_64_3 hC, pc_135_0 hC, am_up_eq, Int.reduceEq, Int.reduceLT, Int.reduceLE, Int.reduceNeg, if_true, if_false, c_const, c_lconst, c_ref, c_iload, c_lload, c_aload, c_istore, c_lstore, c_astore, c_iinc, c_iadd, c_isub, c_imul, c_ladd, c_lsub, c_lmul, c_idiv, c_irem, c_ldiv, c_lrem, c_iand, c_ior, c_ixor, c_ishl, c_ishr, c_ineg, c_i2l, c_l2i, c_i2c, c_lcmp, c_dup, c_pop, c_dup2, c_at, c_icmp_eq, c_icmp_ne, c_icmp_lt, c_icmp_ge, c_icmp_gt, c_icmp_le, c_if_eq, c_if_ne, c_if_lt, c_if_ge, c_if_gt, c_if_le, c_ifnull, c_ifnonnull, am_swK, c_sw, c_iret, c_zret, c_cret, c_bret, c_lret, c_aret, c_vret, c_getI, c_getR, c_putI, c_putZ, c_putR, c_iald, c_zald, c_cald, c_lald, c_oald, c_gald, c_iast, c_zast, c_cast, c_last, c_oast, c_alen, c_callS0, c_callS1, c_callS2, c_callS3, c_callS4, c_callS5, c_callS6, c_callS7, c_callV0, c_callV1, c_callV2, c_callV3, c_callV4, c_callV5, c_callV6, c_callV7, c_callT0, c_callT1, am_nx_eq, am_set, am_set2, am_clr, am_isL, am_push, am_w, am_ent, am_ent1, List.getElem?_cons_zero, List.getElem?_cons_succ, List.set_cons_zero, List.set_cons_succ, List.getD_cons_zero, List.getD_cons_succ, List.cons_append, List.nil_append, List.append_nil, List.replicate_succ, List.replicate_zero, Nat.reduceAdd, Nat.reduceSub, Nat.reduceLeDiff, Bool.false_eq_true, reduceIte, true_and, and_true, true_or, or_true, or_self, am_i32, am_i64, bz_0, bz_01, bz_em, bz_n0, Classical.not_not, am_cmp_lt0, am_cmp_gt0, am_cmp_eq0, am_cmp_ge0, am_cmp_le0, am_cmp_ne0]
        rw [show (dn + 1) * 648 + (81 * c + (u + D 7 k)) = 648 * (dn + 1) + (81 * c + (u + D 7 k)) by omega]
        repeat (with_reducible refine And.intro (by omega) ?_)
        have nx := ih (q + 1) (vI own) (vI (81 * c + (u + D 7 k))) x7 (am_up M1 58 (648 * (dn + 1) + (81 * c + (u + D 7 k))) (am_or (M1 58 (648 * (dn + 1) + (81 * c + (u + D 7 k)))) own)) (by omega) ((hs.tr s1.sf).tr (SG9.up _ _ _)) (fun j hj => by rw [am_up_j _ (by omega), e58]; exact ho j hj) (fun c' t c0 c1' t0 t1 => by
          by_cases z : 648 * (dn + 1) + (81 * c' + t) = 648 * (dn + 1) + (81 * c + (u + D 7 k))
          · have ec : c' = c := by omega
            have et : t = u + D 7 k := by omega
            subst ec et
            rw [am_up_s]
            refine nw.cg (fun k' k0 => ?_)
            constructor
            · rintro ((w' | ⟨w', j, j1, j2⟩) | w')
              · exact Or.inl w'
              · exact Or.inr ⟨w', j, by omega, j2⟩
              · subst w'
                exact Or.inr ⟨w, q, by omega, ee⟩
            · rintro (w' | ⟨w', j, j1, j2⟩)
              · exact Or.inl (Or.inl w')
              · by_cases z : j = q
                · rw [z, ee] at j2
                  exact Or.inr (same k' _ w'.1.1 w'.1.2 c0 c1' j2).1
                · exact Or.inl (Or.inr ⟨w', j, by omega, j2⟩)
          · rw [am_up_j _ z, e58]
            refine (hZ c' t c0 c1' t0 t1).cg (fun k' k0 => ?_)
            constructor
            · rintro (w' | ⟨w', j, j1, j2⟩)
              · exact Or.inl w'
              · exact Or.inr ⟨w', j, by omega, j2⟩
            · rintro (w' | ⟨w', j, j1, j2⟩)
              · exact Or.inl w'
              · by_cases z2 : j = q
                · rw [z2, ee] at j2
                  obtain ⟨rfl, rfl⟩ := same k' c' w'.1.1 w'.1.2 c0 c1' j2
                  exact absurd (by rw [w'.2.2.2.2.1]) z
                · exact Or.inr ⟨w', j, by omega, j2⟩)
        simp only [b_Search_spreadFlights_152, c_const, c_lconst, c_ref, c_iload, c_lload, c_aload, c_istore, c_lstore, c_astore, c_iinc, c_iadd, c_isub, c_imul, c_ladd, c_lsub, c_lmul, c_idiv, c_irem, c_ldiv, c_lrem, c_iand, c_ior, c_ixor, c_ishl, c_ishr, c_ineg, c_i2l, c_l2i, c_i2c, c_lcmp, c_dup, c_pop, c_dup2, c_at, c_icmp_eq, c_icmp_ne, c_icmp_lt, c_icmp_ge, c_icmp_gt, c_icmp_le, c_if_eq, c_if_ne, c_if_lt, c_if_ge, c_if_gt, c_if_le, c_ifnull, c_ifnonnull, am_swK, c_sw, c_iret, c_zret, c_cret, c_bret, c_lret, c_aret, c_vret, c_getI, c_getR, c_putI, c_putZ, c_putR, c_iald, c_zald, c_cald, c_lald, c_oald, c_gald, c_iast, c_zast, c_cast, c_last, c_oast, c_alen, c_callS0, c_callS1, c_callS2, c_callS3, c_callS4, c_callS5, c_callS6, c_callS7, c_callV0, c_callV1, c_callV2, c_callV3, c_callV4, c_callV5, c_callV6, c_callV7, c_callT0, c_callT1, am_nx_eq, am_set, am_set2, am_clr, am_isL, am_push, am_w, am_ent, am_ent1, List.getElem?_cons_zero, List.getElem?_cons_succ, List.set_cons_zero, List.set_cons_succ, List.getD_cons_zero, List.getD_cons_succ, List.cons_append, List.nil_append, List.append_nil, List.replicate_succ, List.replicate_zero, Nat.reduceAdd, Nat.reduceSub, Nat.reduceLeDiff, Bool.false_eq_true, reduceIte, true_and, and_true, true_or, or_true, or_self, am_i32, am_i64, bz_0, bz_01, bz_em, bz_n0, Classical.not_not, am_cmp_lt0, am_cmp_gt0, am_cmp_eq0, am_cmp_ge0, am_cmp_le0, am_cmp_ne0]
        rw [show M0 54 (81 * b + u) + (q : Int) + 1 = M0 54 (81 * b + u) + ((q + 1 : Nat) : Int) by omega]
        exact ⟨by omega, nx⟩
      have fin : ∀ fr9, (fr9 = 0 ∨ fr9 = 1) → (fr9 = 1 → nwS D y dn H b u k c (u + D 7 k)) → (fr9 = 0 → ∀ l, 0 ≤ l → H l → gd D b u k c dn (bz (l = k)) = 1 → l = k) → ∀ (x7 : AV) M1, CSc 51 M M1 → b_Search_spreadFlights_100 (d + 5) Q 0 0 [vR 50, vI dn, vI (81 * b + u), vI v, vI (M0 54 (81 * b + u) + (q : Int)), vI own, vI (81 * c + (u + D 7 k)), x7] [vI fr9] (am_SH, M1) := by
        intro fr9 f01 f1 f0 x7 M1 s1
        have hU2 := hU1.sf s1.sf
        have hC := hU2.1.P
        have e55' : M1 55 (M0 54 (81 * b + u) + q) = enL D b u k c := by rw [s1.1 55 (by decide) (by decide), e55, ee]
        have e6' : M1 50 6 = R := hU2.2.2.2.2.1
        simp only [b_Search_spreadFlights_100, e55', kd_1, kd_2, ln_3, ll_3, kd_46, kd_47, ln_48, ll_48, ln_49, ll_49, kd_50, kd_51, ln_52, ll_52, ln_53, ll_53, ln_54, ll_54, ln_55, ll_55, ln_56, ll_56, ln_57, ll_57, ln_58, ll_58, kd_59, ln_60, ll_60, ln_61, ll_61, ln_62, ll_62, ln_63, ll_63, kd_64, ln_127, ll_127, ln_128, ll_128, ln_129, ll_129, ln_130, ll_130, ln_131, ll_131, ln_132, ll_132, ln_133, ll_133, ln_134, ll_134, kd_135, ln_136, ll_136, pc_1_0 hC, pc_1_3 hC, pc_1_4 hC, pc_1_5 hC, pc_1_6 hC, pc_1_7 hC, pc_1_8 hC, pc_2_0 hC, pc_46_0 hC, pc_50_0 hC, pc_50_1 hC, pc_50_2 hC, pc_50_3 hC, pc_50_4 hC, pc_50_5 hC, pc_64_2 hC, pc_64_3 hC, pc_135_0 hC, am_up_eq, Int.reduceEq, Int.reduceLT, Int.reduceLE, Int.reduceNeg, if_true, if_false, c_const, c_lconst, c_ref, c_iload, c_lload, c_aload, c_istore, c_lstore, c_astore, c_iinc, c_iadd, c_isub, c_imul, c_ladd, c_lsub, c_lmul, c_idiv, c_irem, c_ldiv, c_lrem, c_iand, c_ior, c_ixor, c_ishl, c_ishr, c_ineg, c_i2l, c_l2i, c_i2c, c_lcmp, c_dup, c_pop, c_dup2, c_at, c_icmp_eq, c_icmp_ne, c_icmp_lt, c_icmp_ge, c_icmp_gt, c_icmp_le, c_if_eq, c_if_ne, c_if_lt, c_if_ge, c_if_gt, c_if_le, c_ifnull, c_ifnonnull, am_swK, c_sw, c_iret, c_zret, c_cret, c_bret, c_lret, c_aret, c_vret, c_getI, c_getR, c_putI, c_putZ, c_putR, c_iald, c_zald, c_cald, c_lald, c_oald, c_gald, c_iast, c_zast, c_cast, c_last, c_oast, c_alen, c_callS0, c_callS1, c_callS2, c_callS3, c_callS4, c_callS5, c_callS6, c_callS7, c_callV0, c_callV1, c_callV2, c_callV3, c_callV4, c_callV5, c_callV6, c_callV7, c_callT0, c_callT1, am_nx_eq, am_set, am_set2, am_clr, am_isL, am_push, am_w, am_ent, am_ent1, List.getElem?_cons_zero, List.getElem?_cons_succ, List.set_cons_zero, List.set_cons_succ, List.getD_cons_zero, List.getD_cons_succ, List.cons_append, List.nil_append, List.append_nil, List.replicate_succ, List.replicate_zero, Nat.reduceAdd, Nat.reduceSub, Nat.reduceLeDiff, Bool.false_eq_true, reduceIte, true_and, and_true, true_or, or_true, or_self, am_i32, am_i64, bz_0, bz_01, bz_em, bz_n0, Classical.not_not, am_cmp_lt0, am_cmp_gt0, am_cmp_eq0, am_cmp_ge0, am_cmp_le0, am_cmp_ne0]
        repeat (with_reducible refine And.intro (by omega) ?_)
        refine ⟨fun z => add _ M1 s1 hC (f1 (by omega)), fun z => ?_⟩
        have f0' := f0 z
        refine ⟨fun z2 => skip _ _ _ M1 s1 (fun t t1 w => ?_), fun z2 => ?_⟩
        · obtain ⟨l, l0, hl, g⟩ := w.2.2.2.2.2
          have := f0' l l0 hl g
          rw [this] at hl
          exact b1.mp z2 hl
        · have hk := Classical.byContradiction (fun w => z2 (b1.mpr w))
          repeat (with_reducible refine And.intro (by omega) ?_)
          refine k_worthOf hU2.1 hU2.2.1 ha e6' hb (by omega) k1 c1 ok (by omega) (by omega) (fun M2 s2 g2 => ?_)
          have wi := wO_in D b u k c dn 1
          have hC := g2.P
          simp only [kd_1, kd_2, ln_3, ll_3, kd_46, kd_47, ln_48, ll_48, ln_49, ll_49, kd_50, kd_51, ln_52, ll_52, ln_53, ll_53, ln_54, ll_54, ln_55, ll_55, ln_56, ll_56, ln_57, ll_57, ln_58, ll_58, kd_59, ln_60, ll_60, ln_61, ll_61, ln_62, ll_62, ln_63, ll_63, kd_64, ln_127, ll_127, ln_128, ll_128, ln_129, ll_129, ln_130, ll_130, ln_131, ll_131, ln_132, ll_132, ln_133, ll_133, ln_134, ll_134, kd_135, ln_136, ll_136, pc_1_0 hC, pc_1_3 hC, pc_1_4 hC, pc_1_5 hC, pc_1_6 hC, pc_1_7 hC, pc_1_8 hC, pc_2_0 hC, pc_46_0 hC, pc_50_0 hC, pc_50_1 hC, pc_50_2 hC, pc_50_3 hC, pc_50_4 hC, pc_50_5 hC, pc_64_2 hC, pc_64_3 hC, pc_135_0 hC, am_up_eq, Int.reduceEq, Int.reduceLT, Int.reduceLE, Int.reduceNeg, if_true, if_false, c_const, c_lconst, c_ref, c_iload, c_lload, c_aload, c_istore, c_lstore, c_astore, c_iinc, c_iadd, c_isub, c_imul, c_ladd, c_lsub, c_lmul, c_idiv, c_irem, c_ldiv, c_lrem, c_iand, c_ior, c_ixor, c_ishl, c_ishr, c_ineg, c_i2l, c_l2i, c_i2c, c_lcmp, c_dup, c_pop, c_dup2, c_at, c_icmp_eq, c_icmp_ne, c_icmp_lt, c_icmp_ge, c_icmp_gt, c_icmp_le, c_if_eq, c_if_ne, c_if_lt, c_if_ge, c_if_gt, c_if_le, c_ifnull, c_ifnonnull, am_swK, c_sw, c_iret, c_zret, c_cret, c_bret, c_lret, c_aret, c_vret, c_getI, c_getR, c_putI, c_putZ, c_putR, c_iald, c_zald, c_cald, c_lald, c_oald, c_gald, c_iast, c_zast, c_cast, c_last, c_oast, c_alen, c_callS0, c_callS1, c_callS2, c_callS3, c_callS4, c_callS5, c_callS6, c_callS7, c_callV0, c_callV1, c_callV2, c_callV3, c_callV4, c_callV5, c_callV6, c_callV7, c_callT0, c_callT1, am_nx_eq, am_set, am_set2, am_clr, am_isL, am_push, am_w, am_ent, am_ent1, List.getElem?_cons_zero, List.getElem?_cons_succ, List.set_cons_zero, List.set_cons_succ, List.getD_cons_zero, List.getD_cons_succ, List.cons_append, List.nil_append, List.append_nil, List.replicate_succ, List.replicate_zero, Nat.reduceAdd, Nat.reduceSub, Nat.reduceLeDiff, Bool.false_eq_true, reduceIte, true_and, and_true, true_or, or_true, or_self, am_i32, am_i64, bz_0, bz_01, bz_em, bz_n0, Classical.not_not, am_cmp_lt0, am_cmp_gt0, am_cmp_eq0, am_cmp_ge0, am_cmp_le0, am_cmp_ne0]
          refine ⟨fun z3 => skip _ _ _ M2 (s1.tr s2) (fun t t1 w => ?_), fun z3 => add _ M2 (s1.tr s2) hC ⟨k1, c1, yk, fun e => ok.1 e.symm, rfl, k, k1.1, hk, ?_⟩⟩
          · obtain ⟨l, l0, hl, g⟩ := w.2.2.2.2.2
            have := f0' l l0 hl g
            rw [this, bz_t rfl] at g
            exact wi.2.2.mp z3 g
          · rw [bz_t rfl]
            by_cases g : gd D b u k c dn 1 = 1
            · exact g
            · exact absurd (wi.2.2.mpr g) z3
      simp only [b_Search_spreadFlights_68, b_Search_spreadFlights_99, e55, ee, kd_1, kd_2, ln_3, ll_3, kd_46, kd_47, ln_48, ll_48, ln_49, ll_49, kd_50, kd_51, ln_52, ll_52, ln_53, ll_53, ln_54, ll_54, ln_55, ll_55, ln_56, ll_56, ln_57, ll_57, ln_58, ll_58, kd_59, ln_60, ll_60, ln_61, ll_61, ln_62, ll_62, ln_63, ll_63, kd_64, ln_127, ll_127, ln_128, ll_128, ln_129, ll_129, ln_130, ll_130, ln_131, ll_131, ln_132, ll_132, ln_133, ll_133, ln_134, ll_134, kd_135, ln_136, ll_136, pc_1_0 hC, pc_1_3 hC, pc_1_4 hC, pc_1_5 hC, pc_1_6 hC, pc_1_7 hC, pc_1_8 hC, pc_2_0 hC, pc_46_0 hC, pc_50_0 hC, pc_50_1 hC, pc_50_2 hC, pc_50_3 hC, pc_50_4 hC, pc_50_5 hC, pc_64_2 hC, pc_64_3 hC, pc_135_0 hC, am_up_eq, Int.reduceEq, Int.reduceLT, Int.reduceLE, Int.reduceNeg, if_true, if_false, c_const, c_lconst, c_ref, c_iload, c_lload, c_aload, c_istore, c_lstore, c_astore, c_iinc, c_iadd, c_isub, c_imul, c_ladd, c_lsub, c_lmul, c_idiv, c_irem, c_ldiv, c_lrem, c_iand, c_ior, c_ixor, c_ishl, c_ishr, c_ineg, c_i2l, c_l2i, c_i2c, c_lcmp, c_dup, c_pop, c_dup2, c_at, c_icmp_eq, c_icmp_ne, c_icmp_lt, c_icmp_ge, c_icmp_gt, c_icmp_le, c_if_eq, c_if_ne, c_if_lt, c_if_ge, c_if_gt, c_if_le, c_ifnull, c_ifnonnull, am_swK, c_sw, c_iret, c_zret, c_cret, c_bret, c_lret, c_aret, c_vret, c_getI, c_getR, c_putI, c_putZ, c_putR, c_iald, c_zald, c_cald, c_lald, c_oald, c_gald, c_iast, c_zast, c_cast, c_last, c_oast, c_alen, c_callS0, c_callS1, c_callS2, c_callS3, c_callS4, c_callS5, c_callS6, c_callS7, c_callV0, c_callV1, c_callV2, c_callV3, c_callV4, c_callV5, c_callV6, c_callV7, c_callT0, c_callT1, am_nx_eq, am_set, am_set2, am_clr, am_isL, am_push, am_w, am_ent, am_ent1, List.getElem?_cons_zero, List.getElem?_cons_succ, List.set_cons_zero, List.set_cons_succ, List.getD_cons_zero, List.getD_cons_succ, List.cons_append, List.nil_append, List.append_nil, List.replicate_succ, List.replicate_zero, Nat.reduceAdd, Nat.reduceSub, Nat.reduceLeDiff, Bool.false_eq_true, reduceIte, true_and, and_true, true_or, or_true, or_self, am_i32, am_i64, bz_0, bz_01, bz_em, bz_n0, Classical.not_not, am_cmp_lt0, am_cmp_gt0, am_cmp_eq0, am_cmp_ge0, am_cmp_le0, am_cmp_ne0]
      refine ⟨fun _ => ⟨fun z => ?_, fun z => ?_⟩, fun z => by omega⟩
      · exact fin 0 (Or.inl rfl) (fun w => by omega) (fun _ l l0 hl _ => b2.mp z l l0 hl) _ M (CSc.rf _ _)
      · repeat (with_reducible refine And.intro (by omega) ?_)
        refine k_worthOf hG hA ha e6 hb (by omega) k1 c1 ok (by omega) (by omega) (fun M1 s1 g1 => ?_)
        have wi := wO_in D b u k c dn 0
        have hC := g1.P
        simp only [b_Search_spreadFlights_99, kd_1, kd_2, ln_3, ll_3, kd_46, kd_47, ln_48, ll_48, ln_49, ll_49, kd_50, kd_51, ln_52, ll_52, ln_53, ll_53, ln_54, ll_54, ln_55, ll_55, ln_56, ll_56, ln_57, ll_57, ln_58, ll_58, kd_59, ln_60, ll_60, ln_61, ll_61, ln_62, ll_62, ln_63, ll_63, kd_64, ln_127, ll_127, ln_128, ll_128, ln_129, ll_129, ln_130, ll_130, ln_131, ll_131, ln_132, ll_132, ln_133, ll_133, ln_134, ll_134, kd_135, ln_136, ll_136, pc_1_0 hC, pc_1_3 hC, pc_1_4 hC, pc_1_5 hC, pc_1_6 hC, pc_1_7 hC, pc_1_8 hC, pc_2_0 hC, pc_46_0 hC, pc_50_0 hC, pc_50_1 hC, pc_50_2 hC, pc_50_3 hC, pc_50_4 hC, pc_50_5 hC, pc_64_2 hC, pc_64_3 hC, pc_135_0 hC, am_up_eq, Int.reduceEq, Int.reduceLT, Int.reduceLE, Int.reduceNeg, if_true, if_false, c_const, c_lconst, c_ref, c_iload, c_lload, c_aload, c_istore, c_lstore, c_astore, c_iinc, c_iadd, c_isub, c_imul, c_ladd, c_lsub, c_lmul, c_idiv, c_irem, c_ldiv, c_lrem, c_iand, c_ior, c_ixor, c_ishl, c_ishr, c_ineg, c_i2l, c_l2i, c_i2c, c_lcmp, c_dup, c_pop, c_dup2, c_at, c_icmp_eq, c_icmp_ne, c_icmp_lt, c_icmp_ge, c_icmp_gt, c_icmp_le, c_if_eq, c_if_ne, c_if_lt, c_if_ge, c_if_gt, c_if_le, c_ifnull, c_ifnonnull, am_swK, c_sw, c_iret, c_zret, c_cret, c_bret, c_lret, c_aret, c_vret, c_getI, c_getR, c_putI, c_putZ, c_putR, c_iald, c_zald, c_cald, c_lald, c_oald, c_gald, c_iast, c_zast, c_cast, c_last, c_oast, c_alen, c_callS0, c_callS1, c_callS2, c_callS3, c_callS4, c_callS5, c_callS6, c_callS7, c_callV0, c_callV1, c_callV2, c_callV3, c_callV4, c_callV5, c_callV6, c_callV7, c_callT0, c_callT1, am_nx_eq, am_set, am_set2, am_clr, am_isL, am_push, am_w, am_ent, am_ent1, List.getElem?_cons_zero, List.getElem?_cons_succ, List.set_cons_zero, List.set_cons_succ, List.getD_cons_zero, List.getD_cons_succ, List.cons_append, List.nil_append, List.append_nil, List.replicate_succ, List.replicate_zero, Nat.reduceAdd, Nat.reduceSub, Nat.reduceLeDiff, Bool.false_eq_true, reduceIte, true_and, and_true, true_or, or_true, or_self, am_i32, am_i64, bz_0, bz_01, bz_em, bz_n0, Classical.not_not, am_cmp_lt0, am_cmp_gt0, am_cmp_eq0, am_cmp_ge0, am_cmp_le0, am_cmp_ne0]
        refine ⟨fun z3 => fin 0 (Or.inl rfl) (fun w => by omega) (fun _ l l0 hl g => ?_) _ M1 s1, fun z3 => fin 1 (Or.inr rfl) (fun _ => ?_) (fun w => by omega) _ M1 s1⟩
        · by_cases e : l = k
          · exact e
          · rw [bz_f e] at g
            exact absurd g (wi.2.2.mp z3)
        · have : ∃ l, 0 ≤ l ∧ H l ∧ l ≠ k := Classical.byContradiction (fun w => z (b2.mpr (fun i i0 hi => Classical.byContradiction (fun w2 => w ⟨i, i0, hi, w2⟩))))
          obtain ⟨l, l0, hl, e⟩ := this
          refine ⟨k1, c1, yk, fun e => ok.1 e.symm, rfl, l, l0, hl, ?_⟩
          rw [bz_f e]
          by_cases g : gd D b u k c dn 0 = 1
          · exact g
          · exact absurd (wi.2.2.mpr g) z3
end
