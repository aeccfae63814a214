/-! the model: tells -/
def tokR (t u : Int) : Prop := (0 ≤ t ∧ t ≤ 9999 ∧ u = 1000 + t) ∨ (t = 1 ∧ u = 17) ∨ (t = -1 ∧ u = 7) ∨ (t = -2 ∧ u = 8) ∨ (t = -3 ∧ u = 9) ∨ (t = -4 ∧ u = 10) ∨ (t = -5 ∧ u = 18) ∨ (t = -6 ∧ u = 30) ∨ (t = -7 ∧ u = 31) ∨ (t = -8 ∧ u = 32) ∨ (t = -18 ∧ u = 16) ∨ (t = -9 ∧ u = 1) ∨ (t = -10 ∧ u = 2) ∨ (t = -11 ∧ u = 3) ∨ (t = -12 ∧ u = 4) ∨ (t = -13 ∧ u = 5) ∨ (t = -14 ∧ u = 6) ∨ (t = -15 ∧ u = 11) ∨ (t = -16 ∧ u = 12) ∨ (t = -17 ∧ u = 13) ∨ (t = -19 ∧ u = 14) ∨ (t = -20 ∧ u = 15)
def pileIs (P : Int → Int) : List Int → Prop
  | [] => True
  | x :: r => P r.length = x ∧ pileIs P r
theorem pileIs_up {P P' : Int → Int} : ∀ {s : List Int}, pileIs P s → (∀ j : Int, 0 ≤ j → j < s.length → P' j = P j) → pileIs P' s
  | [], _, _ => trivial
  | x :: r, h, hq => ⟨by rw [hq _ (by omega) (by simp; omega)]; exact h.1, pileIs_up h.2 (fun j h1 h2 => hq j h1 (by simp; omega))⟩
/-- only the pile has changed -/
def Scr2 (M M' : Int → Int → Int) : Prop := (∀ o, o ≠ 137 → o ≠ 180 → M' o = M o) ∧ ∀ j, j ≠ 65 → M' 137 j = M 137 j
theorem Scr2.rf (M : Int → Int → Int) : Scr2 M M := ⟨fun _ _ _ => rfl, fun _ _ => rfl⟩
theorem Scr2.tr {M M1 M2 : Int → Int → Int} (h1 : Scr2 M M1) (h2 : Scr2 M1 M2) : Scr2 M M2 := ⟨fun o a b => (h2.1 o a b).trans (h1.1 o a b), fun j a => (h2.2 j a).trans (h1.2 j a)⟩
theorem Scr2.pile {M : Int → Int → Int} (j v : Int) : Scr2 M (am_up M 180 j v) := ⟨fun o a b => am_up_o M b, fun i a => by rw [am_up_o M (by omega)]⟩
theorem Scr2.piled {M : Int → Int → Int} (v : Int) : Scr2 M (am_up M 137 65 v) := ⟨fun o a b => am_up_o M a, fun i a => am_up_j M a⟩
theorem Scr2.PM {M M' : Int → Int → Int} (h : Scr2 M M') (hP : am_PM M) : am_PM M' := am_PM_eq hP (fun j hj => h.2 j (fun e => hj (by rw [e]; decide))) (fun o a b => h.1 o (by omega) (by omega))
theorem xty_not {t t' : List Bool} (h : xty (-18) t t') : ∃ r, t = true :: r := by
  rcases h with ⟨a, -⟩ | ⟨a, -⟩ | ⟨-, r, z, -⟩ | ⟨a, -⟩ | ⟨a, -⟩ | ⟨a, -⟩
  · omega
  · omega
  · exact ⟨r, z⟩
  · omega
  · omega
  · omega
theorem xty_bin {k : Int} {t t' : List Bool} (h : xty k t t') (h1 : k < -8) (h2 : k ≠ -18) : ∃ r, t = false :: false :: r ∨ t = true :: true :: r := by
  rcases h with ⟨a, -⟩ | ⟨a, -⟩ | ⟨a, -⟩ | ⟨-, -, r, z, -⟩ | ⟨-, -, r, z, -⟩ | ⟨-, r, z, -⟩
  · omega
  · omega
  · omega
  · exact ⟨r, Or.inl z⟩
  · exact ⟨r, Or.inl z⟩
  · exact ⟨r, Or.inr z⟩
theorem r_tells_l {d : Nat} {M0 : Int → Int → Int} {E c : Int → Int} {a b : Int} {Q : AV → am_S → Prop} (ha : 0 ≤ a) (hb : b ≤ 900) {T : Int → List Bool} (h0 : T a = []) (hTy : ∀ i, a ≤ i → i < b → (T i).length ≤ 60 ∧ xty (c i) (T i) (T (i + 1)))
    (hE : ∀ k, 1 ≤ k → k ≤ 8 → (-1000000 ≤ E k ∧ E k ≤ 1000000) ∧ M0 137 (55 + k) = E k) (hc : ∀ i, a ≤ i → i < b → tokR (c i) (M0 178 (1000 + i))) (h : ∀ M', Scr2 M0 M' → M' 180 0 = xval E c a b → Q (vL (xval E c a b)) (am_SH, M')) (hT1 : (T b).length = 1) :
    ∀ (n : Nat) (i : Int) (M : Int → Int → Int) (x4 : AV), a ≤ i → i + n = b → am_PM M → Scr2 M0 M → M 137 65 = (xrun E c a (i - a).toNat).length → pileIs (M 180) (xrun E c a (i - a).toNat) → am_Wp (d + 3) m_Md_tells 0 0 7 [vR 137, vI a, vI b, vI i, x4] [] (am_SH, M) Q := by
  have hE1 : ∀ k, 1 ≤ k → k ≤ 8 → -1000000 ≤ E k ∧ E k ≤ 1000000 := fun k h1 h2 => (hE k h1 h2).1
  intro n
  induction n with
  | zero =>
    intro i M x4 hi hib hP hS hn hp
    have hib : i = b := by omega
    subst hib
    refine B_Md_tells_7 _ _ _ _ _ ?_
    have hok := xrun_ok hE1 h0 hTy (i - a).toNat (by omega)
    rw [show a + ((i - a).toNat : Int) = i by omega] at hok
    have hl := xok_len hok
    rw [hT1] at hl
    have hx : ∃ x, xrun E c a (i - a).toNat = [x] := List.length_eq_one_iff.mp hl.symm
    obtain ⟨x, hx⟩ := hx
    rw [hx] at hp hn
    have hv : xval E c a i = x := by unfold xval; rw [hx]; rfl
    have hp0 : M 180 0 = x := hp.1
    simp only [b_Md_tells_7, b_Md_tells_259, hp0, kd_137, ln_138, ln_139, ln_140, ln_141, ln_142, ln_143, ln_144, ln_145, ln_146, ln_147, ln_148, ln_149, ln_150, ln_151, ln_152, ln_153, ln_154, ln_155, ln_156, ln_157, ln_158, ln_159, ln_160, ln_161, ln_162, ln_163, ln_164, ln_165, ln_166, ln_167, ln_168, ln_169, ln_170, ln_171, ln_172, ln_173, ln_174, ln_175, ln_176, ln_177, ln_178, ln_179, ln_180, ln_181, ln_182, ln_183, ln_184, ln_185, ln_186, ln_187, ln_188, ln_189, ln_190, ln_191, pm_0 hP, pm_9 hP, pm_10 hP, pm_11 hP, pm_12 hP, pm_13 hP, pm_14 hP, pm_15 hP, pm_16 hP, pm_17 hP, pm_18 hP, pm_19 hP, pm_20 hP, pm_21 hP, pm_22 hP, pm_23 hP, pm_24 hP, pm_25 hP, pm_26 hP, pm_27 hP, pm_28 hP, pm_29 hP, pm_30 hP, pm_31 hP, pm_32 hP, pm_33 hP, pm_34 hP, pm_36 hP, pm_37 hP, pm_38 hP, pm_39 hP, pm_40 hP, pm_41 hP, pm_42 hP, pm_43 hP, pm_44 hP, pm_45 hP, pm_46 hP, pm_47 hP, pm_48 hP, pm_49 hP, pm_51 hP, pm_64 hP, pm_66 hP, pm_69 hP, pm_72 hP, pm_73 hP, pm_74 hP, pm_75 hP, pm_76 hP, pm_77 hP, pm_78 hP, pm_79 hP, pm_83 hP, am_up_eq, Int.reduceEq, Int.reduceLT, Int.reduceLE, Int.reduceNeg, if_true, if_false, c_const, c_lconst, c_ref, c_iload, c_lload, c_aload, c_istore, c_lstore, c_astore, c_iinc, c_iadd, c_isub, c_imul, c_ladd, c_lsub, c_lmul, c_idiv, c_irem, c_ldiv, c_lrem, c_iand, c_ior, c_ixor, c_ishl, c_ishr, c_ineg, c_i2l, c_l2i, c_i2c, c_lcmp, c_dup, c_pop, c_dup2, c_at, c_icmp_eq, c_icmp_ne, c_icmp_lt, c_icmp_ge, c_icmp_gt, c_icmp_le, c_if_eq, c_if_ne, c_if_lt, c_if_ge, c_if_gt, c_if_le, c_ifnull, c_ifnonnull, am_swK, c_sw, c_iret, c_zret, c_cret, c_bret, c_lret, c_aret, c_vret, c_getI, c_getR, c_putI, c_putZ, c_putR, c_iald, c_zald, c_cald, c_lald, c_oald, c_gald, c_iast, c_zast, c_cast, c_last, c_oast, c_alen, c_callS0, c_callS1, c_callS2, c_callS3, c_callS4, c_callS5, c_callS6, c_callS7, c_callV0, c_callV1, c_callV2, c_callV3, c_callV4, c_callV5, c_callV6, c_callV7, c_callT0, c_callT1, am_nx_eq, am_set, am_set2, am_clr, am_isL, am_push, am_w, am_ent, am_ent1, List.getElem?_cons_zero, List.getElem?_cons_succ, List.set_cons_zero, List.set_cons_succ, List.getD_cons_zero, List.getD_cons_succ, List.cons_append, List.nil_append, List.append_nil, List.replicate_succ, List.replicate_zero, Nat.reduceAdd, Nat.reduceSub, Nat.reduceLeDiff, Bool.false_eq_true, reduceIte, true_and, and_true, true_or, or_true, or_self, am_i32, am_i64, bz_0, bz_01, bz_em, bz_n0, Classical.not_not, am_cmp_lt0, am_cmp_gt0, am_cmp_eq0, am_cmp_ge0, am_cmp_le0, am_cmp_ne0]
    refine ⟨fun _ => ?_, fun z => absurd (Int.le_refl i) z⟩
    rw [← hv]
    exact h M hS (hp0.trans hv.symm)
  | succ n ih =>
    intro i M x4 hi hib hP hS hn hp
    have hlt : i < b := by omega
    have hok := xrun_ok hE1 h0 hTy (i - a).toNat (by omega)
    rw [show a + ((i - a).toNat : Int) = i by omega] at hok
    obtain ⟨hlen, hty⟩ := hTy i hi hlt
    have hl := xok_len hok
    have hrun : xrun E c a (i + 1 - a).toNat = xs1 E (c i) (xrun E c a (i - a).toNat) := by
      rw [show (i + 1 - a).toNat = (i - a).toNat + 1 by omega, xrun, show a + ((i - a).toNat : Int) = i by omega]
    have hu := hc i hi hlt
    have hcode : M 178 = M0 178 := hS.1 _ (by decide) (by decide)
    have hf : ∀ j, j ≠ 65 → M 137 j = M0 137 j := hS.2
    generalize hs : xrun E c a (i - a).toNat = s at hn hp hok hl hrun
    generalize hue : M0 178 (1000 + i) = u at hu
    have hcu : M 178 (1000 + i) = u := by rw [hcode]; exact hue
    have next : ∀ (M1 : Int → Int → Int) (x4 : AV), am_PM M1 → Scr2 M0 M1 → M1 137 65 = (xs1 E (c i) s).length → pileIs (M1 180) (xs1 E (c i) s) → b_Md_tells_253 (d + 2) Q 0 0 [vR 137, vI a, vI b, vI i, x4] [] (am_SH, M1) := by
      intro M1 x4 q1 q2 q3 q4
      simp only [b_Md_tells_253, kd_137, ln_138, ln_139, ln_140, ln_141, ln_142, ln_143, ln_144, ln_145, ln_146, ln_147, ln_148, ln_149, ln_150, ln_151, ln_152, ln_153, ln_154, ln_155, ln_156, ln_157, ln_158, ln_159, ln_160, ln_161, ln_162, ln_163, ln_164, ln_165, ln_166, ln_167, ln_168, ln_169, ln_170, ln_171, ln_172, ln_173, ln_174, ln_175, ln_176, ln_177, ln_178, ln_179, ln_180, ln_181, ln_182, ln_183, ln_184, ln_185, ln_186, ln_187, ln_188, ln_189, ln_190, ln_191, pm_0 hP, pm_9 hP, pm_10 hP, pm_11 hP, pm_12 hP, pm_13 hP, pm_14 hP, pm_15 hP, pm_16 hP, pm_17 hP, pm_18 hP, pm_19 hP, pm_20 hP, pm_21 hP, pm_22 hP, pm_23 hP, pm_24 hP, pm_25 hP, pm_26 hP, pm_27 hP, pm_28 hP, pm_29 hP, pm_30 hP, pm_31 hP, pm_32 hP, pm_33 hP, pm_34 hP, pm_36 hP, pm_37 hP, pm_38 hP, pm_39 hP, pm_40 hP, pm_41 hP, pm_42 hP, pm_43 hP, pm_44 hP, pm_45 hP, pm_46 hP, pm_47 hP, pm_48 hP, pm_49 hP, pm_51 hP, pm_64 hP, pm_66 hP, pm_69 hP, pm_72 hP, pm_73 hP, pm_74 hP, pm_75 hP, pm_76 hP, pm_77 hP, pm_78 hP, pm_79 hP, pm_83 hP, am_up_eq, Int.reduceEq, Int.reduceLT, Int.reduceLE, Int.reduceNeg, if_true, if_false, c_const, c_lconst, c_ref, c_iload, c_lload, c_aload, c_istore, c_lstore, c_astore, c_iinc, c_iadd, c_isub, c_imul, c_ladd, c_lsub, c_lmul, c_idiv, c_irem, c_ldiv, c_lrem, c_iand, c_ior, c_ixor, c_ishl, c_ishr, c_ineg, c_i2l, c_l2i, c_i2c, c_lcmp, c_dup, c_pop, c_dup2, c_at, c_icmp_eq, c_icmp_ne, c_icmp_lt, c_icmp_ge, c_icmp_gt, c_icmp_le, c_if_eq, c_if_ne, c_if_lt, c_if_ge, c_if_gt, c_if_le, c_ifnull, c_ifnonnull, am_swK, c_sw, c_iret, c_zret, c_cret, c_bret, c_lret, c_aret, c_vret, c_getI, c_getR, c_putI, c_putZ, c_putR, c_iald, c_zald, c_cald, c_lald, c_oald, c_gald, c_iast, c_zast, c_cast, c_last, c_oast, c_alen, c_callS0, c_callS1, c_callS2, c_callS3, c_callS4, c_callS5, c_callS6, c_callS7, c_callV0, c_callV1, c_callV2, c_callV3, c_callV4, c_callV5, c_callV6, c_callV7, c_callT0, c_callT1, am_nx_eq, am_set, am_set2, am_clr, am_isL, am_push, am_w, am_ent, am_ent1, List.getElem?_cons_zero, List.getElem?_cons_succ, List.set_cons_zero, List.set_cons_succ, List.getD_cons_zero, List.getD_cons_succ, List.cons_append, List.nil_append, List.append_nil, List.replicate_succ, List.replicate_zero, Nat.reduceAdd, Nat.reduceSub, Nat.reduceLeDiff, Bool.false_eq_true, reduceIte, true_and, and_true, true_or, or_true, or_self, am_i32, am_i64, bz_0, bz_01, bz_em, bz_n0, Classical.not_not, am_cmp_lt0, am_cmp_gt0, am_cmp_eq0, am_cmp_ge0, am_cmp_le0, am_cmp_ne0]
      refine ⟨by omega, ih (i + 1) M1 x4 (by omega) (by omega) q1 q2 ?_ ?_⟩
      · rw [hrun]; exact q3
      · rw [hrun]; exact q4
    have push : ∀ v, xs1 E (c i) s = v :: s → am_Call (d + 2) m_Md_puts 0 0 [vR 137, vL v] (am_SH, M) (am_nx (b_Md_tells_253 (d + 2) Q) 0 0 [vR 137, vI a, vI b, vI i, vI u] []) := by
      intro v hv
      refine r_puts hP (by omega) (by omega) ?_
      simp only [kd_137, ln_138, ln_139, ln_140, ln_141, ln_142, ln_143, ln_144, ln_145, ln_146, ln_147, ln_148, ln_149, ln_150, ln_151, ln_152, ln_153, ln_154, ln_155, ln_156, ln_157, ln_158, ln_159, ln_160, ln_161, ln_162, ln_163, ln_164, ln_165, ln_166, ln_167, ln_168, ln_169, ln_170, ln_171, ln_172, ln_173, ln_174, ln_175, ln_176, ln_177, ln_178, ln_179, ln_180, ln_181, ln_182, ln_183, ln_184, ln_185, ln_186, ln_187, ln_188, ln_189, ln_190, ln_191, pm_0 hP, pm_9 hP, pm_10 hP, pm_11 hP, pm_12 hP, pm_13 hP, pm_14 hP, pm_15 hP, pm_16 hP, pm_17 hP, pm_18 hP, pm_19 hP, pm_20 hP, pm_21 hP, pm_22 hP, pm_23 hP, pm_24 hP, pm_25 hP, pm_26 hP, pm_27 hP, pm_28 hP, pm_29 hP, pm_30 hP, pm_31 hP, pm_32 hP, pm_33 hP, pm_34 hP, pm_36 hP, pm_37 hP, pm_38 hP, pm_39 hP, pm_40 hP, pm_41 hP, pm_42 hP, pm_43 hP, pm_44 hP, pm_45 hP, pm_46 hP, pm_47 hP, pm_48 hP, pm_49 hP, pm_51 hP, pm_64 hP, pm_66 hP, pm_69 hP, pm_72 hP, pm_73 hP, pm_74 hP, pm_75 hP, pm_76 hP, pm_77 hP, pm_78 hP, pm_79 hP, pm_83 hP, am_up_eq, Int.reduceEq, Int.reduceLT, Int.reduceLE, Int.reduceNeg, if_true, if_false, c_const, c_lconst, c_ref, c_iload, c_lload, c_aload, c_istore, c_lstore, c_astore, c_iinc, c_iadd, c_isub, c_imul, c_ladd, c_lsub, c_lmul, c_idiv, c_irem, c_ldiv, c_lrem, c_iand, c_ior, c_ixor, c_ishl, c_ishr, c_ineg, c_i2l, c_l2i, c_i2c, c_lcmp, c_dup, c_pop, c_dup2, c_at, c_icmp_eq, c_icmp_ne, c_icmp_lt, c_icmp_ge, c_icmp_gt, c_icmp_le, c_if_eq, c_if_ne, c_if_lt, c_if_ge, c_if_gt, c_if_le, c_ifnull, c_ifnonnull, am_swK, c_sw, c_iret, c_zret, c_cret, c_bret, c_lret, c_aret, c_vret, c_getI, c_getR, c_putI, c_putZ, c_putR, c_iald, c_zald, c_cald, c_lald, c_oald, c_gald, c_iast, c_zast, c_cast, c_last, c_oast, c_alen, c_callS0, c_callS1, c_callS2, c_callS3, c_callS4, c_callS5, c_callS6, c_callS7, c_callV0, c_callV1, c_callV2, c_callV3, c_callV4, c_callV5, c_callV6, c_callV7, c_callT0, c_callT1, am_nx_eq, am_set, am_set2, am_clr, am_isL, am_push, am_w, am_ent, am_ent1, List.getElem?_cons_zero, List.getElem?_cons_succ, List.set_cons_zero, List.set_cons_succ, List.getD_cons_zero, List.getD_cons_succ, List.cons_append, List.nil_append, List.append_nil, List.replicate_succ, List.replicate_zero, Nat.reduceAdd, Nat.reduceSub, Nat.reduceLeDiff, Bool.false_eq_true, reduceIte, true_and, and_true, true_or, or_true, or_self, am_i32, am_i64, bz_0, bz_01, bz_em, bz_n0, Classical.not_not, am_cmp_lt0, am_cmp_gt0, am_cmp_eq0, am_cmp_ge0, am_cmp_le0, am_cmp_ne0]
      refine next _ _ (am_PM_upf (am_PM_up hP (by decide) (by decide)) (by decide)) (hS.tr ((Scr2.pile _ _).tr (Scr2.piled _))) ?_ ?_
      · rw [am_up_s, hv]; simp; omega
      · rw [hv, am_up_o _ (by decide)]
        refine ⟨by rw [← hn, am_up_s], pileIs_up hp (fun j h1 h2 => am_up_j M (by omega))⟩
    have bin : ∀ (x y : Int) (r : List Int), s = y :: x :: r → xs1 E (c i) s = jn u x y :: r → am_Call (d + 2) m_Md_joins 0 0 [vR 137, vI u] (am_SH, M) (am_nx (b_Md_tells_253 (d + 2) Q) 0 0 [vR 137, vI a, vI b, vI i, vI u] []) := by
      intro x y r e1 e2
      subst e1
      have hlr : r.length + 2 ≤ 60 := by simp at hl; omega
      have hn' : M 137 65 = (r.length : Int) + 2 := by rw [hn]; simp; omega
      have hx := hp.2.1
      have hy := hp.1
      have bd : (-1000000 ≤ x ∧ x ≤ 1000000) ∧ (-1000000 ≤ y ∧ y ≤ 1000000) := by
        generalize T i = t at hok
        match t, hok with
        | _ :: _ :: _, hok => exact ⟨hok.2.2.1, hok.1⟩
      refine r_joins hP (n := (r.length : Int) + 2) (by omega) (by omega) hn' (by rw [show (r.length : Int) + 2 - 2 = r.length by omega]; exact hx) (by rw [show (r.length : Int) + 2 - 1 = ((x :: r).length : Nat) by simp; omega]; exact hy) bd.1 bd.2 ?_
      simp only [kd_137, ln_138, ln_139, ln_140, ln_141, ln_142, ln_143, ln_144, ln_145, ln_146, ln_147, ln_148, ln_149, ln_150, ln_151, ln_152, ln_153, ln_154, ln_155, ln_156, ln_157, ln_158, ln_159, ln_160, ln_161, ln_162, ln_163, ln_164, ln_165, ln_166, ln_167, ln_168, ln_169, ln_170, ln_171, ln_172, ln_173, ln_174, ln_175, ln_176, ln_177, ln_178, ln_179, ln_180, ln_181, ln_182, ln_183, ln_184, ln_185, ln_186, ln_187, ln_188, ln_189, ln_190, ln_191, pm_0 hP, pm_9 hP, pm_10 hP, pm_11 hP, pm_12 hP, pm_13 hP, pm_14 hP, pm_15 hP, pm_16 hP, pm_17 hP, pm_18 hP, pm_19 hP, pm_20 hP, pm_21 hP, pm_22 hP, pm_23 hP, pm_24 hP, pm_25 hP, pm_26 hP, pm_27 hP, pm_28 hP, pm_29 hP, pm_30 hP, pm_31 hP, pm_32 hP, pm_33 hP, pm_34 hP, pm_36 hP, pm_37 hP, pm_38 hP, pm_39 hP, pm_40 hP, pm_41 hP, pm_42 hP, pm_43 hP, pm_44 hP, pm_45 hP, pm_46 hP, pm_47 hP, pm_48 hP, pm_49 hP, pm_51 hP, pm_64 hP, pm_66 hP, pm_69 hP, pm_72 hP, pm_73 hP, pm_74 hP, pm_75 hP, pm_76 hP, pm_77 hP, pm_78 hP, pm_79 hP, pm_83 hP, am_up_eq, Int.reduceEq, Int.reduceLT, Int.reduceLE, Int.reduceNeg, if_true, if_false, c_const, c_lconst, c_ref, c_iload, c_lload, c_aload, c_istore, c_lstore, c_astore, c_iinc, c_iadd, c_isub, c_imul, c_ladd, c_lsub, c_lmul, c_idiv, c_irem, c_ldiv, c_lrem, c_iand, c_ior, c_ixor, c_ishl, c_ishr, c_ineg, c_i2l, c_l2i, c_i2c, c_lcmp, c_dup, c_pop, c_dup2, c_at, c_icmp_eq, c_icmp_ne, c_icmp_lt, c_icmp_ge, c_icmp_gt, c_icmp_le, c_if_eq, c_if_ne, c_if_lt, c_if_ge, c_if_gt, c_if_le, c_ifnull, c_ifnonnull, am_swK, c_sw, c_iret, c_zret, c_cret, c_bret, c_lret, c_aret, c_vret, c_getI, c_getR, c_putI, c_putZ, c_putR, c_iald, c_zald, c_cald, c_lald, c_oald, c_gald, c_iast, c_zast, c_cast, c_last, c_oast, c_alen, c_callS0, c_callS1, c_callS2, c_callS3, c_callS4, c_callS5, c_callS6, c_callS7, c_callV0, c_callV1, c_callV2, c_callV3, c_callV4, c_callV5, c_callV6, c_callV7, c_callT0, c_callT1, am_nx_eq, am_set, am_set2, am_clr, am_isL, am_push, am_w, am_ent, am_ent1, List.getElem?_cons_zero, List.getElem?_cons_succ, List.set_cons_zero, List.set_cons_succ, List.getD_cons_zero, List.getD_cons_succ, List.cons_append, List.nil_append, List.append_nil, List.replicate_succ, List.replicate_zero, Nat.reduceAdd, Nat.reduceSub, Nat.reduceLeDiff, Bool.false_eq_true, reduceIte, true_and, and_true, true_or, or_true, or_self, am_i32, am_i64, bz_0, bz_01, bz_em, bz_n0, Classical.not_not, am_cmp_lt0, am_cmp_gt0, am_cmp_eq0, am_cmp_ge0, am_cmp_le0, am_cmp_ne0]
      refine next _ _ (am_PM_upf (am_PM_up (am_PM_upf hP (by decide)) (by decide) (by decide)) (by decide)) (hS.tr ((Scr2.piled _).tr ((Scr2.pile _ _).tr (Scr2.piled _)))) ?_ ?_
      · rw [am_up_s, e2]; simp; omega
      · rw [e2, am_up_o _ (by decide)]
        refine ⟨by rw [show (r.length : Int) + 2 - 2 = r.length by omega, am_up_s], pileIs_up hp.2.2 (fun j h1 h2 => ?_)⟩
        rw [am_up_j _ (by omega), am_up_o _ (by decide)]
    have pairs : (∃ r, T i = false :: false :: r ∨ T i = true :: true :: r) → ∃ x y r, s = y :: x :: r := by
      rintro ⟨r, e | e⟩ <;>
      · rw [e] at hl
        match s, hl with
        | y :: x :: r, _ => exact ⟨x, y, r, rfl⟩
    refine B_Md_tells_7 _ _ _ _ _ ?_
    have f1 := (hE 1 (by omega) (by omega)).2
    have f2 := (hE 2 (by omega) (by omega)).2
    have f3 := (hE 3 (by omega) (by omega)).2
    have f4 := (hE 4 (by omega) (by omega)).2
    have f5 := (hE 5 (by omega) (by omega)).2
    have f6 := (hE 6 (by omega) (by omega)).2
    have f7 := (hE 7 (by omega) (by omega)).2
    have f8 := (hE 8 (by omega) (by omega)).2
    have g1 := (hf 56 (by decide)).trans f1
    have g2 := (hf 57 (by decide)).trans f2
    have g3 := (hf 58 (by decide)).trans f3
    have g4 := (hf 59 (by decide)).trans f4
    have g5 := (hf 60 (by decide)).trans f5
    have g6 := (hf 61 (by decide)).trans f6
    have g7 := (hf 62 (by decide)).trans f7
    have g8 := (hf 63 (by decide)).trans f8
    simp only [b_Md_tells_7, b_Md_tells_46, b_Md_tells_65, b_Md_tells_84, b_Md_tells_103, b_Md_tells_122, b_Md_tells_141, b_Md_tells_160, b_Md_tells_179, b_Md_tells_198, b_Md_tells_213, b_Md_tells_247, hcu, g1, g2, g3, g4, g5, g6, g7, g8, kd_137, ln_138, ln_139, ln_140, ln_141, ln_142, ln_143, ln_144, ln_145, ln_146, ln_147, ln_148, ln_149, ln_150, ln_151, ln_152, ln_153, ln_154, ln_155, ln_156, ln_157, ln_158, ln_159, ln_160, ln_161, ln_162, ln_163, ln_164, ln_165, ln_166, ln_167, ln_168, ln_169, ln_170, ln_171, ln_172, ln_173, ln_174, ln_175, ln_176, ln_177, ln_178, ln_179, ln_180, ln_181, ln_182, ln_183, ln_184, ln_185, ln_186, ln_187, ln_188, ln_189, ln_190, ln_191, pm_0 hP, pm_9 hP, pm_10 hP, pm_11 hP, pm_12 hP, pm_13 hP, pm_14 hP, pm_15 hP, pm_16 hP, pm_17 hP, pm_18 hP, pm_19 hP, pm_20 hP, pm_21 hP, pm_22 hP, pm_23 hP, pm_24 hP, pm_25 hP, pm_26 hP, pm_27 hP, pm_28 hP, pm_29 hP, pm_30 hP, pm_31 hP, pm_32 hP, pm_33 hP, pm_34 hP, pm_36 hP, pm_37 hP, pm_38 hP, pm_39 hP, pm_40 hP, pm_41 hP, pm_42 hP, pm_43 hP, pm_44 hP, pm_45 hP, pm_46 hP, pm_47 hP, pm_48 hP, pm_49 hP, pm_51 hP, pm_64 hP, pm_66 hP, pm_69 hP, pm_72 hP, pm_73 hP, pm_74 hP, pm_75 hP, pm_76 hP, pm_77 hP, pm_78 hP, pm_79 hP, pm_83 hP, am_up_eq, Int.reduceEq, Int.reduceLT, Int.reduceLE, Int.reduceNeg, if_true, if_false, c_const, c_lconst, c_ref, c_iload, c_lload, c_aload, c_istore, c_lstore, c_astore, c_iinc, c_iadd, c_isub, c_imul, c_ladd, c_lsub, c_lmul, c_idiv, c_irem, c_ldiv, c_lrem, c_iand, c_ior, c_ixor, c_ishl, c_ishr, c_ineg, c_i2l, c_l2i, c_i2c, c_lcmp, c_dup, c_pop, c_dup2, c_at, c_icmp_eq, c_icmp_ne, c_icmp_lt, c_icmp_ge, c_icmp_gt, c_icmp_le, c_if_eq, c_if_ne, c_if_lt, c_if_ge, c_if_gt, c_if_le, c_ifnull, c_ifnonnull, am_swK, c_sw, c_iret, c_zret, c_cret, c_bret, c_lret, c_aret, c_vret, c_getI, c_getR, c_putI, c_putZ, c_putR, c_iald, c_zald, c_cald, c_lald, c_oald, c_gald, c_iast, c_zast, c_cast, c_last, c_oast, c_alen, c_callS0, c_callS1, c_callS2, c_callS3, c_callS4, c_callS5, c_callS6, c_callS7, c_callV0, c_callV1, c_callV2, c_callV3, c_callV4, c_callV5, c_callV6, c_callV7, c_callT0, c_callT1, am_nx_eq, am_set, am_set2, am_clr, am_isL, am_push, am_w, am_ent, am_ent1, List.getElem?_cons_zero, List.getElem?_cons_succ, List.set_cons_zero, List.set_cons_succ, List.getD_cons_zero, List.getD_cons_succ, List.cons_append, List.nil_append, List.append_nil, List.replicate_succ, List.replicate_zero, Nat.reduceAdd, Nat.reduceSub, Nat.reduceLeDiff, Bool.false_eq_true, reduceIte, true_and, and_true, true_or, or_true, or_self, am_i32, am_i64, bz_0, bz_01, bz_em, bz_n0, Classical.not_not, am_cmp_lt0, am_cmp_gt0, am_cmp_eq0, am_cmp_ge0, am_cmp_le0, am_cmp_ne0]
    have hu2 := hu
    unfold tokR at hu2
    have pE : ∀ k : Int, 1 ≤ k → k ≤ 8 → c i = -k → xs1 E (c i) s = E k :: s := by
      intro k k1 k2 e
      unfold xs1
      rw [if_neg (by omega), if_pos (by omega), e, Int.neg_neg]
    repeat' (first | with_reducible refine And.intro ?_ ?_ | with_reducible intro _)
    · omega
    all_goals first
      | (exfalso; omega)
      | omega
      | exact push _ (pE 1 (by omega) (by omega) (by omega))
      | exact push _ (pE 2 (by omega) (by omega) (by omega))
      | exact push _ (pE 3 (by omega) (by omega) (by omega))
      | exact push _ (pE 4 (by omega) (by omega) (by omega))
      | exact push _ (pE 5 (by omega) (by omega) (by omega))
      | exact push _ (pE 6 (by omega) (by omega) (by omega))
      | exact push _ (pE 7 (by omega) (by omega) (by omega))
      | exact push _ (pE 8 (by omega) (by omega) (by omega))
      | (refine push _ ?_; unfold xs1; rw [if_pos (by omega)]; congr 1; omega)
      | skip
    · have k1 : c i < -8 ∧ c i ≠ -18 := by omega
      obtain ⟨x, y, r, e⟩ := pairs (xty_bin hty k1.1 k1.2)
      refine bin x y r e ?_
      rw [e]
      unfold xs1
      rw [if_neg (by omega), if_neg (by omega), if_neg (by omega)]
      show xj (c i) x y :: r = jn u x y :: r
      congr 1
      rcases hu2 with z | z | z | z | z | z | z | z | z | z | z | z | z | z | z | z | z | z | z | z | z | z
      all_goals first | (exfalso; omega) | (obtain ⟨z1, z2⟩ := z; rw [z1, z2]; rfl)
    all_goals (have hnot : ∃ x r, s = x :: r ∧ (x = 0 ∨ x = 1) := by
                 have e2 : c i = -18 := by omega
                 rw [e2] at hty
                 obtain ⟨r9, e9⟩ := xty_not hty
                 rw [e9] at hok
                 match s, hok with
                 | x :: r, hok => exact ⟨x, r, rfl, hok.2.1 rfl⟩)
    all_goals (obtain ⟨x, r, e, hx⟩ := hnot; subst e; have hn1 : M 137 65 - 1 = r.length := by (rw [hn]; simp))
    all_goals try omega
    · have := hp.1; rw [hn1]; omega
    · have := hp.1; rw [hn1]; omega
    · rw [hn1, hp.1]
      have ex : xs1 E (c i) (x :: r) = (1 - x) :: r := by
        unfold xs1
        rw [if_neg (by omega), if_neg (by omega), if_pos (by omega)]
      refine next _ _ (am_PM_up hP (by decide) (by decide)) (hS.tr (Scr2.pile _ _)) ?_ ?_
      · rw [am_up_o _ (by decide), ex, hn]; rfl
      · rw [ex]
        exact ⟨am_up_s _ _ _ _, pileIs_up hp.2 (fun j h1 h2 => am_up_j M (by omega))⟩
