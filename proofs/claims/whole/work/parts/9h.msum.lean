/-! the model: a sum by the rules -/
section
variable {M M' M0 M1 M2 : Int → Int → Int} {T : Int → Int} {n : Int} {d : Nat} {Q Q1 Q2 : AV → am_S → Prop} {q q' X : Nat} {r r' r1 : tk9} {o w b c : Int} {us vs pa pm : List Int}
/-- no sign that joins stands behind what it would have joined -/
theorem RD.fol {out : ou9} (h : RD T n X o r out) : ∀ r' us, out = ok9 r' us → ∀ L, L ≤ 3 → ((X = 2 + L ∨ X = 6 + L) → ∀ u, ¬ op9 T L r' u) ∧ (X = 2 + L → (L = 1 ∨ L = 3) → ∀ u, ¬ op9 T (L - 1) r' u) ∧ (X = 6 + L → (L = 1 ∨ L = 3) → (∀ u, ¬ op9 T (L - 1) r u) → ∀ u, ¬ op9 T (L - 1) r' u) := by
  refine RD.ind (P := fun X o r out => ∀ r' us, out = ok9 r' us → ∀ L, L ≤ 3 → ((X = 2 + L ∨ X = 6 + L) → ∀ u, ¬ op9 T L r' u) ∧ (X = 2 + L → (L = 1 ∨ L = 3) → ∀ u, ¬ op9 T (L - 1) r' u) ∧ (X = 6 + L → (L = 1 ∨ L = 3) → (∀ u, ¬ op9 T (L - 1) r u) → ∀ u, ¬ op9 T (L - 1) r' u)) ?_ h
  clear h
  intro X o r out h r' us e L hL
  subst e
  rcases h with ⟨x, -⟩ | ⟨x, -⟩ | ⟨L', l, x, h⟩ | ⟨L', l, x, h⟩
  · exact ⟨fun w => by omega, fun w => by omega, fun w => by omega⟩
  · exact ⟨fun w => by omega, fun w => by omega, fun w => by omega⟩
  · by_cases eL : L = L'
    · subst eL
      rcases h with ⟨r1, us1, ⟨-, i1⟩, h⟩ | ⟨f, x, -, h⟩
      · rcases h with ⟨r2, us2, ⟨-, i2⟩, h⟩ | ⟨f, x, -, h⟩
        · cases h
          have j2 := i2 _ _ rfl L hL
          refine ⟨fun _ => j2.1 (Or.inr rfl), fun _ l13 => j2.2.2 rfl l13 ?_, fun w => by omega⟩
          have j1 := i1 _ _ rfl (L - 1) (by omega)
          refine j1.1 (Or.inl ?_)
          rcases l13 with rfl | rfl <;> rfl
        · cases h
      · cases h
    · exact ⟨fun w => by omega, fun w => by omega, fun w => by omega⟩
  · by_cases eL : L = L'
    · subst eL
      rcases h with ⟨no, h⟩ | ⟨u, a, r1, nx, h⟩
      · cases h
        exact ⟨fun _ => no, fun w => by omega, fun _ _ z => z⟩
      · rcases h with ⟨r2, us2, ⟨-, i2⟩, h⟩ | ⟨f, x, -, h⟩
        · rcases h with ⟨r3, us3, ⟨-, i3⟩, h⟩ | ⟨f, x, -, h⟩
          · cases h
            have j3 := i3 _ _ rfl L hL
            refine ⟨fun _ => j3.1 (Or.inr rfl), fun w => by omega, fun _ l13 _ => j3.2.2 rfl l13 ?_⟩
            have j2 := i2 _ _ rfl (L - 1) (by omega)
            refine j2.1 (Or.inl ?_)
            rcases l13 with rfl | rfl <;> rfl
          · cases h
        · cases h
    · exact ⟨fun w => by omega, fun w => by omega, fun w => by omega⟩
theorem gp_skip (k : mK T n M (.inl r)) (h : pS M0 M o w b c us pa pm) (hn : ¬ sg9 T r 41) (hQ : ∀ x1 M1, mK T n M1 (.inl r) → M1 137 2 = r.2.1 → pS M0 M1 o w b c us pa pm → b_Md_goesOn_118 (d + 5) Q2 0 0 [vR 137, x1] [] (am_SH, M1)) : GP d Q2 M := by
  intro x1
  have hP := k.PM
  refine B_Md_goesOn_0 _ _ _ _ _ ?_
  simp only [b_Md_goesOn_0, k.2.2.1, kd_137, ln_138, ln_139, ln_140, ln_141, ln_142, ln_143, ln_144, ln_145, ln_146, ln_147, ln_148, ln_149, ln_150, ln_151, ln_152, ln_153, ln_154, ln_155, ln_156, ln_157, ln_158, ln_159, ln_160, ln_161, ln_162, ln_163, ln_164, ln_165, ln_166, ln_167, ln_168, ln_169, ln_170, ln_171, ln_172, ln_173, ln_174, ln_175, ln_176, ln_177, ln_178, ln_179, ln_180, ln_181, ln_182, ln_183, ln_184, ln_185, ln_186, ln_187, ln_188, ln_189, ln_190, ln_191, pm_0 hP, pm_9 hP, pm_10 hP, pm_11 hP, pm_12 hP, pm_13 hP, pm_14 hP, pm_15 hP, pm_16 hP, pm_17 hP, pm_18 hP, pm_19 hP, pm_20 hP, pm_21 hP, pm_22 hP, pm_23 hP, pm_24 hP, pm_25 hP, pm_26 hP, pm_27 hP, pm_28 hP, pm_29 hP, pm_30 hP, pm_31 hP, pm_32 hP, pm_33 hP, pm_34 hP, pm_36 hP, pm_37 hP, pm_38 hP, pm_39 hP, pm_40 hP, pm_41 hP, pm_42 hP, pm_43 hP, pm_44 hP, pm_45 hP, pm_46 hP, pm_47 hP, pm_48 hP, pm_49 hP, pm_51 hP, pm_64 hP, pm_66 hP, pm_69 hP, pm_72 hP, pm_73 hP, pm_74 hP, pm_75 hP, pm_76 hP, pm_77 hP, pm_78 hP, pm_79 hP, pm_83 hP, am_up_eq, Int.reduceEq, Int.reduceLT, Int.reduceLE, Int.reduceNeg, if_true, if_false, c_const, c_lconst, c_ref, c_iload, c_lload, c_aload, c_istore, c_lstore, c_astore, c_iinc, c_iadd, c_isub, c_imul, c_ladd, c_lsub, c_lmul, c_idiv, c_irem, c_ldiv, c_lrem, c_iand, c_ior, c_ixor, c_ishl, c_ishr, c_ineg, c_i2l, c_l2i, c_i2c, c_lcmp, c_dup, c_pop, c_dup2, c_at, c_icmp_eq, c_icmp_ne, c_icmp_lt, c_icmp_ge, c_icmp_gt, c_icmp_le, c_if_eq, c_if_ne, c_if_lt, c_if_ge, c_if_gt, c_if_le, c_ifnull, c_ifnonnull, am_swK, c_sw, c_iret, c_zret, c_cret, c_bret, c_lret, c_aret, c_vret, c_getI, c_getR, c_putI, c_putZ, c_putR, c_iald, c_zald, c_cald, c_lald, c_oald, c_gald, c_iast, c_zast, c_cast, c_last, c_oast, c_alen, c_callS0, c_callS1, c_callS2, c_callS3, c_callS4, c_callS5, c_callS6, c_callS7, c_callV0, c_callV1, c_callV2, c_callV3, c_callV4, c_callV5, c_callV6, c_callV7, c_callT0, c_callT1, am_nx_eq, am_set, am_set2, am_clr, am_isL, am_push, am_w, am_ent, am_ent1, List.getElem?_cons_zero, List.getElem?_cons_succ, List.set_cons_zero, List.set_cons_succ, List.getD_cons_zero, List.getD_cons_succ, List.cons_append, List.nil_append, List.append_nil, List.replicate_succ, List.replicate_zero, Nat.reduceAdd, Nat.reduceSub, Nat.reduceLeDiff, Bool.false_eq_true, reduceIte, true_and, and_true, true_or, or_true, or_self, am_i32, am_i64, bz_0, bz_01, bz_em, bz_n0, Classical.not_not, am_cmp_lt0, am_cmp_gt0, am_cmp_eq0, am_cmp_ge0, am_cmp_le0, am_cmp_ne0]
  try simp only [Int.reduceEq, Int.reduceLT, Int.reduceLE, Int.reduceNeg, not_true_eq_false, not_false_eq_true, false_implies, true_implies, implies_true, true_and, and_true]
  refine r_look k (fun M1 k1 e2 s1 => ?_)
  have hP := k1.PM
  simp only [kd_137, ln_138, ln_139, ln_140, ln_141, ln_142, ln_143, ln_144, ln_145, ln_146, ln_147, ln_148, ln_149, ln_150, ln_151, ln_152, ln_153, ln_154, ln_155, ln_156, ln_157, ln_158, ln_159, ln_160, ln_161, ln_162, ln_163, ln_164, ln_165, ln_166, ln_167, ln_168, ln_169, ln_170, ln_171, ln_172, ln_173, ln_174, ln_175, ln_176, ln_177, ln_178, ln_179, ln_180, ln_181, ln_182, ln_183, ln_184, ln_185, ln_186, ln_187, ln_188, ln_189, ln_190, ln_191, pm_0 hP, pm_9 hP, pm_10 hP, pm_11 hP, pm_12 hP, pm_13 hP, pm_14 hP, pm_15 hP, pm_16 hP, pm_17 hP, pm_18 hP, pm_19 hP, pm_20 hP, pm_21 hP, pm_22 hP, pm_23 hP, pm_24 hP, pm_25 hP, pm_26 hP, pm_27 hP, pm_28 hP, pm_29 hP, pm_30 hP, pm_31 hP, pm_32 hP, pm_33 hP, pm_34 hP, pm_36 hP, pm_37 hP, pm_38 hP, pm_39 hP, pm_40 hP, pm_41 hP, pm_42 hP, pm_43 hP, pm_44 hP, pm_45 hP, pm_46 hP, pm_47 hP, pm_48 hP, pm_49 hP, pm_51 hP, pm_64 hP, pm_66 hP, pm_69 hP, pm_72 hP, pm_73 hP, pm_74 hP, pm_75 hP, pm_76 hP, pm_77 hP, pm_78 hP, pm_79 hP, pm_83 hP, am_up_eq, Int.reduceEq, Int.reduceLT, Int.reduceLE, Int.reduceNeg, if_true, if_false, c_const, c_lconst, c_ref, c_iload, c_lload, c_aload, c_istore, c_lstore, c_astore, c_iinc, c_iadd, c_isub, c_imul, c_ladd, c_lsub, c_lmul, c_idiv, c_irem, c_ldiv, c_lrem, c_iand, c_ior, c_ixor, c_ishl, c_ishr, c_ineg, c_i2l, c_l2i, c_i2c, c_lcmp, c_dup, c_pop, c_dup2, c_at, c_icmp_eq, c_icmp_ne, c_icmp_lt, c_icmp_ge, c_icmp_gt, c_icmp_le, c_if_eq, c_if_ne, c_if_lt, c_if_ge, c_if_gt, c_if_le, c_ifnull, c_ifnonnull, am_swK, c_sw, c_iret, c_zret, c_cret, c_bret, c_lret, c_aret, c_vret, c_getI, c_getR, c_putI, c_putZ, c_putR, c_iald, c_zald, c_cald, c_lald, c_oald, c_gald, c_iast, c_zast, c_cast, c_last, c_oast, c_alen, c_callS0, c_callS1, c_callS2, c_callS3, c_callS4, c_callS5, c_callS6, c_callS7, c_callV0, c_callV1, c_callV2, c_callV3, c_callV4, c_callV5, c_callV6, c_callV7, c_callT0, c_callT1, am_nx_eq, am_set, am_set2, am_clr, am_isL, am_push, am_w, am_ent, am_ent1, List.getElem?_cons_zero, List.getElem?_cons_succ, List.set_cons_zero, List.set_cons_succ, List.getD_cons_zero, List.getD_cons_succ, List.cons_append, List.nil_append, List.append_nil, List.replicate_succ, List.replicate_zero, Nat.reduceAdd, Nat.reduceSub, Nat.reduceLeDiff, Bool.false_eq_true, reduceIte, true_and, and_true, true_or, or_true, or_self, am_i32, am_i64, bz_0, bz_01, bz_em, bz_n0, Classical.not_not, am_cmp_lt0, am_cmp_gt0, am_cmp_eq0, am_cmp_ge0, am_cmp_le0, am_cmp_ne0]
  exact ⟨fun _ => hQ x1 M1 k1 e2 (h.tf s1), fun w1 => absurd ((sg9_L sc_41 k1.2.1).mp w1) hn⟩
theorem mkP (h : mN M' o w b (c + us.length)) (s : sG w c M M') (g : sg0 (M' 178) c us) (hb : 0 ≤ b ∧ b ≤ w ∧ 0 ≤ c) : pS M M' o w b c us [] [] := ⟨Or.inl rfl, Or.inl rfl, us, by simp, by simpa using h, s, g, sg0_nil _ _, hb⟩
/-- the sum is at its end, and that is a fault -/
theorem se_fail {v : Int} (k : mK T n M (.inl r)) (h : pS M0 M o w b c us pa pm) (ha : aM M0 w b) (hL : c + us.length + w ≤ 900) (hu0 : ∀ u, ¬ op9 T 0 r u) (hu1 : ∀ u, ¬ op9 T 1 r u) (hw : w ≠ b) (hv : M0 179 (w - 1) = v) (h41 : ¬ sg9 T r 41 ∨ v = 21 ∨ v = 22) (h44 : (v = 21 ∨ v = 22) → ¬ sg9 T r 44) (hF : ∀ M', sZ M0 M' 1 r.2.1 → Q2 (vI 0) (am_SH, M')) : GP d Q2 M := by
  subst hv
  refine gp_other k h ha hL (h41.elim Or.inl (fun g => Or.inr (Or.inr g))) (fun x1 M1 k1 e1 p1 => ?_)
  exact gp_end k1 p1 ha hL hu0 hu1 (fun e => absurd e hw) (fun _ g1 g2 => absurd g2 (h44 g1)) (fun _ _ M' z => hF M' z)
/-- the first half of min, max is at its end -/
theorem se_comma {v : Int} (k : mK T n M (.inl r)) (h : pS M0 M o w b c us pa pm) (ha : aM M0 w b) (hL : c + us.length + w ≤ 900) (hu0 : ∀ u, ¬ op9 T 0 r u) (hu1 : ∀ u, ¬ op9 T 1 r u) (hw : w ≠ b) (hv : M0 179 (w - 1) = v) (hv2 : v = 21 ∨ v = 22) (h44 : sg9 T r 44) (hQ : ∀ M', mC T n M' r → pS M0 M' o w b c us [] [] → Q2 (vI 1) (am_SH, am_up M' 179 (w - 1) (v + 2))) : GP d Q2 M := by
  subst hv
  refine gp_skip k h (fun z => by have := z.2; have := h44.2; omega) (fun x1 M1 k1 e1 p1 => ?_)
  exact gp_end k1 p1 ha hL hu0 hu1 (fun e => absurd e hw) (fun _ _ _ M' c' p' => hQ M' c' p') (fun _ g _ _ => absurd h44 (g hv2))
/-- a sign that joins, and what it joins -/
theorem pS_a {u : Int} {pm' : List Int} (h1 : pS M0 M' o w b c us [] []) (h2 : pS (puM M' w u) M2 o (w + 1) b (c + us.length) vs [] pm') (hp : (u = 3 ∨ u = 4) ∧ pm' = [] ∨ (u = 1 ∨ u = 2)) : ((u = 3 ∨ u = 4) ∧ pm' = [] → pS M0 M2 o w b c (us ++ vs ++ [u]) [] [u]) ∧ ((u = 1 ∨ u = 2) → pS M0 M2 o w b c (us ++ vs ++ [u]) [u] pm') := by
  obtain ⟨-, -, es, e1, n1, s1, g1, -, b1⟩ := h1
  obtain ⟨-, hm, fs, e2, n2, s2, g2, w2, b2⟩ := h2
  simp only [List.append_nil] at e1 e2
  subst e1
  have pe := puM_e (M := M') (w := w) (u := u)
  have wu : M2 179 w = u := by rw [s2.2.2.2 w (by omega)]; exact pe.2.2.2.1
  have sg : sG w c M0 M2 := sG.tr (w' := w) (c' := c) s1 (sG.tr (w' := w + 1) (c' := c + us.length) (⟨fun o a _ b => pe.1 o a b, fun j a => pe.2.1 j (by omega), fun i _ => by rw [pe.1 178 (by decide) (by decide)], fun i a => pe.2.2.2.2 i (by omega)⟩ : sG w c M' (puM M' w u)) s2 (by omega) (by omega)) (Int.le_refl _) (Int.le_refl _)
  have gc : sg0 (M2 178) c us := sg0_c g1 (fun i a b => by rw [s2.2.2.1 i (Or.inl b), pe.1 178 (by decide) (by decide)])
  simp only [List.nil_append, List.length_nil] at n2 w2
  have ll : ((us ++ fs).length : Int) = us.length + fs.length := by rw [List.length_append]; omega
  have nn : ∀ W, W = w + 1 + pm'.length → mN M2 o W b (c + (us ++ fs).length) := fun W hW => by
    rw [hW, ll, show c + ((us.length : Int) + fs.length) = c + us.length + fs.length by omega]
    rw [show w + 1 + ((0 : Nat) : Int) + (pm'.length : Int) = w + 1 + pm'.length by omega] at n2
    exact n2
  refine ⟨fun ⟨x1, x2⟩ => ?_, fun x1 => ?_⟩
  · subst x2
    simp only [List.append_nil] at e2
    subst e2
    exact ⟨Or.inl rfl, by rcases x1 with rfl | rfl <;> simp, us ++ vs, by simp, nn _ (by simp), sg, sg0_app gc g2, by simpa using sg0_one wu, b1⟩
  · refine ⟨by rcases x1 with rfl | rfl <;> simp, hm, us ++ fs, by rw [e2]; simp, nn _ (by simp), sg, sg0_app gc g2, ?_, b1⟩
    exact sg0_app (sg0_one wu) (by simpa using w2)
theorem pu_N {u : Int} (h : pS M0 M' o w b c us [] []) : mN (puM M' w u) o (w + 1) b (c + us.length) := by
  obtain ⟨-, -, es, e1, n1, s1, g1, -, b1⟩ := h
  simp only [List.append_nil] at e1
  subst e1
  have pe := puM_e (M := M') (w := w) (u := u)
  refine ⟨⟨?_, pe.2.2.1, ?_, ?_⟩, n1.2.1, by omega, n1.2.2.2⟩
  · rw [pe.2.1 53 (by decide)]; exact n1.1.1
  · rw [pe.2.1 55 (by decide)]; exact n1.1.2.2.1
  · rw [pe.2.1 50 (by decide)]; exact n1.1.2.2.2
theorem pu_G {u : Int} (h : pS M0 M' o w b c us [] []) : sG w c M0 (puM M' w u) := by
  have pe := puM_e (M := M') (w := w) (u := u)
  exact h.fr.tr (w' := w) (c' := c) ⟨fun o a _ b => pe.1 o a b, fun j a => pe.2.1 j (by omega), fun i _ => by rw [pe.1 178 (by decide) (by decide)], fun i a => pe.2.2.2.2 i (by omega)⟩ (Int.le_refl _) (Int.le_refl _)
theorem pu_C {u : Int} (h : mC T n M' r) : mC T n (puM M' w u) r := by
  have pe := puM_e (M := M') (w := w) (u := u)
  exact h.eq9 (fun o a _ b => pe.1 o a b) (fun j _ a _ _ => pe.2.1 j a)
/-- not joined by * or / -/
def nM (M : Int → Int → Int) (w : Int) : Prop := w = 0 ∨ (M 179 (w - 1) ≠ 3 ∧ M 179 (w - 1) ≠ 4)
def P1 (T : Int → Int) (n : Int) (d : Nat) (Q1 Q2 : AV → am_S → Prop) (X : Nat) (o : Int) (r : tk9) (out : ou9) : Prop :=
  (X = 0 → ∀ M w b c, mK T n M (.inl r) → mN M o w b c → c + w ≤ r.2.1 → (∀ r' us, out = ok9 r' us → ∀ M', mK T n M' (.inl r') → pS M M' o w b c us [] [] → GP d Q2 M') → (∀ f x, out = fl9 f x → ∀ M', sZ M M' f x → Q1 none (am_SH, M') ∧ Q2 (vI 0) (am_SH, M')) → PP d Q1 M) ∧
  (X = 2 → ∀ M w b c, mK T n M (.inl r) → mN M o w b c → c + w ≤ r.2.1 → nM M w → (∀ r' us, out = ok9 r' us → ∀ M' pm, mK T n M' (.inl r') → pS M M' o w b c us [] pm → GP d Q2 M') → (∀ f x, out = fl9 f x → ∀ M', sZ M M' f x → Q1 none (am_SH, M') ∧ Q2 (vI 0) (am_SH, M')) → PP d Q1 M) ∧
  (X = 3 → ∀ M w b c, mK T n M (.inl r) → mN M o w b c → c + w ≤ r.2.1 → aM M w b → (∀ r' us, out = ok9 r' us → ∀ M' pa pm, mK T n M' (.inl r') → pS M M' o w b c us pa pm → GP d Q2 M') → (∀ f x, out = fl9 f x → ∀ M', sZ M M' f x → Q1 none (am_SH, M') ∧ Q2 (vI 0) (am_SH, M')) → PP d Q1 M) ∧
  (X = 6 → ∀ M0 M w b c us0 pm0, mK T n M (.inl r) → pS M0 M o w b c us0 [] pm0 → c + us0.length + w ≤ r.2.1 → nM M0 w → (∀ r' us, out = ok9 r' us → ∀ M' pm, mK T n M' (.inl r') → pS M0 M' o w b c (us0 ++ us) [] pm → GP d Q2 M') → (∀ f x, out = fl9 f x → ∀ M', sZ M0 M' f x → Q1 none (am_SH, M') ∧ Q2 (vI 0) (am_SH, M')) → GP d Q2 M) ∧
  (X = 7 → ∀ M0 M w b c us0 pa0 pm0, mK T n M (.inl r) → pS M0 M o w b c us0 pa0 pm0 → c + us0.length + w ≤ r.2.1 → aM M0 w b → (∀ r' us, out = ok9 r' us → ∀ M' pa pm, mK T n M' (.inl r') → pS M0 M' o w b c (us0 ++ us) pa pm → GP d Q2 M') → (∀ f x, out = fl9 f x → ∀ M', sZ M0 M' f x → Q1 none (am_SH, M') ∧ Q2 (vI 0) (am_SH, M')) → GP d Q2 M)
theorem P1_none {out : ou9} (hX : X ≠ 0 ∧ X ≠ 2 ∧ X ≠ 3 ∧ X ≠ 6 ∧ X ≠ 7) : P1 T n d Q1 Q2 X o r out := ⟨fun e => absurd e hX.1, fun e => absurd e hX.2.1, fun e => absurd e hX.2.2.1, fun e => absurd e hX.2.2.2.1, fun e => absurd e hX.2.2.2.2⟩
theorem le9 (k : mK T n M (.inl r)) : 0 ≤ r.2.1 ∧ r.2.1 ≤ 900 := by
  have w9 := (tK9_W k.2.1).1
  have := k.1.2.2.1
  omega
theorem r_sum_ind (hb : by9 T n) (HA : ∀ M, am_PM M → M 137 5 = 0 → GP d Q2 M → Q1 none (am_SH, M)) (HB : ∀ M, am_PM M → M 137 5 = 0 → PP d Q1 M → Q2 (vI 1) (am_SH, M)) {out : ou9} (h : RD T n X o r out) : P1 T n d Q1 Q2 X o r out := by
  refine RD.ind (P := P1 T n d Q1 Q2) ?_ h
  clear h
  intro X o r out h
  rcases h with ⟨rfl, h⟩ | ⟨rfl, h⟩ | ⟨L, l, rfl, h⟩ | ⟨L, l, rfl, h⟩
  · refine ⟨fun _ M w b c k hN hL hok hfl => ?_, fun e => by omega, fun e => by omega, fun e => by omega, fun e => by omega⟩
    have l9 := le9 k
    have hW := tK9_W k.2.1
    have hN2 := hN.2.2
    rcases h with ⟨q, hq, a, r1, nx, e⟩ | ⟨a, h⟩ | ⟨q, u, hu, a, r1, nx, h⟩ | ⟨ot, h⟩
    · subst e
      refine pp_atom hb HA k hN hL (fun z => by have := z.1; have := a.1; omega) (fun z => by have := wd9_u a z (by omega) (by decide); omega) (fun z => by have := wd9_u a z (by omega) (by decide); omega) (fun q' q1 q2 z M' c' p' => ?_) (fun z => absurd a (z q hq.1 hq.2))
      have := wd9_u a z (by omega) (by omega)
      subst this
      exact hok r1 _ rfl M' (c'.nx nx) p'
    · rcases h with ⟨ho, e⟩ | ⟨ho, r1, nx, h⟩
      · subst e
        exact pp_paren k hN hL a (fun ho' => by omega) (fun _ M' z => (hfl _ _ rfl M' z).1)
      refine pp_paren k hN hL a (fun _ M1 c1 N1 s1 w1 => ?_) (fun ho' => by omega)
      have g1 := nx9_s nx hW (sg9_k a)
      have k1 := c1.nx nx
      have aM1 : aM M1 (w + 1) b := by
        unfold aM
        rw [show w + 1 - 1 = w by omega, w1]
        exact ⟨Or.inr (by decide), Or.inr ⟨by omega, by decide, by decide⟩⟩
      rcases h with ⟨r2, us, ⟨rd, -, -, i, -⟩, h⟩ | ⟨f, x, ⟨rd, -, -, i, -⟩, h⟩
      · have fo := rd.fol r2 us rfl 1 (by decide)
        have ln := rd.len r2 us rfl g1.1
        refine i rfl M1 (w + 1) b c k1 N1 (by omega) aM1 (fun r2' us' e M2 pa pm k2 p2 => ?_) (fun f x e => by cases e)
        cases e
        have l92 := le9 k2
        rcases h with ⟨s41, r3, nx3, e⟩ | ⟨s41, e⟩
        · subst e
          refine gp_close (v := 20) k2 p2 aM1 (by omega) s41 (by omega) (by have := hN.2.1; omega) (by rw [show w + 1 - 1 = w by omega]; exact w1) (by omega) (fun M3 c3 N3 s3 g3 => ?_)
          rw [if_pos rfl, List.append_nil, show o + 1 - 1 = o by omega, show w + 1 - 1 = w by omega] at *
          exact hok r3 us rfl M3 (c3.nx nx3) (mkP N3 (s1.tr s3 (Int.le_refl _) (Int.le_refl _)) g3 ⟨hN2.1.1, hN2.1.2, hN2.2⟩)
        · subst e
          exact se_fail (v := 20) k2 p2 aM1 (by omega) (fo.2.1 rfl (Or.inl rfl)) (fo.1 (Or.inl rfl)) (by omega) (by rw [show w + 1 - 1 = w by omega]; exact w1) (Or.inl s41) (fun g => by omega) (fun M' z => (hfl _ _ rfl M' (s1.zz z)).2)
      · subst h
        exact i rfl M1 (w + 1) b c k1 N1 (by omega) aM1 (fun r2' us' e => by cases e) (fun f' x' e M' z => by cases e; exact hfl _ _ rfl M' (s1.zz z))
    · have hu5 : (q = 20 ∧ (if q = 20 then (21 : Int) else 22) = 21) ∨ (q = 21 ∧ (if q = 20 then (21 : Int) else 22) = 22) := by
        rcases hu with ⟨rfl, -⟩ | ⟨rfl, -⟩
        · exact Or.inl ⟨rfl, rfl⟩
        · exact Or.inr ⟨rfl, rfl⟩
      have g1 := nx9_s nx hW (wd9_k a)
      generalize hmk : (if q = 20 then (21 : Int) else 22) = mk at hu5
      refine pp_pair (mk := mk) k hN hL hu5 a nx (fun s40 ho M1 c1 N1 s1 w1 => ?_) (fun f x hfx M' z => ?_)
      · rcases h with ⟨n40, e⟩ | ⟨-, h⟩
        · exact absurd s40 n40
        rcases h with ⟨ho', e⟩ | ⟨-, r2, nx2, h⟩
        · omega
        have g2 := nx9_s nx2 g1.1 (sg9_k s40)
        have k1 := c1.nx nx2
        have mk2 : mk = 21 ∨ mk = 22 := by rcases hu5 with ⟨-, e⟩ | ⟨-, e⟩ <;> omega
        have aM1 : aM M1 (w + 1) b := by
          unfold aM
          rw [show w + 1 - 1 = w by omega, w1]
          exact ⟨Or.inr (by omega), Or.inr ⟨by omega, by omega, by omega⟩⟩
        rcases h with ⟨r3, us, ⟨rd, -, -, i, -⟩, h⟩ | ⟨f, x, ⟨rd, -, -, i, -⟩, h⟩
        · have fo := rd.fol r3 us rfl 1 (by decide)
          have ln := rd.len r3 us rfl g2.1
          refine i rfl M1 (w + 1) b c k1 N1 (by omega) aM1 (fun r3' us' e M2 pa pm k2 p2 => ?_) (fun f x e => by cases e)
          cases e
          have l92 := le9 k2
          rcases h with ⟨s44, r4, nx4, h⟩ | ⟨s44, e⟩
          · have g4 := nx9_s nx4 ln.1 (sg9_k s44)
            refine se_comma (v := mk) k2 p2 aM1 (by omega) (fo.2.1 rfl (Or.inl rfl)) (fo.1 (Or.inl rfl)) (by omega) (by rw [show w + 1 - 1 = w by omega]; exact w1) mk2 s44 (fun M3 c3 p3 => ?_)
            rw [show w + 1 - 1 = w by omega]
            generalize hM4 : am_up M3 179 w (mk + 2) = M4
            have f4 : (∀ o, o ≠ 179 → M4 o = M3 o) ∧ M4 179 w = mk + 2 ∧ ∀ i, i ≠ w → M4 179 i = M3 179 i := by
              rw [← hM4]
              exact ⟨fun o x => am_up_o _ x, am_up_s _ _ _ _, fun i x => am_up_j _ x⟩
            have c4 : mC T n M4 r3 := c3.eq9 (fun o _ _ a => f4.1 o a) (fun j _ _ _ _ => by rw [f4.1 137 (by decide)])
            obtain ⟨-, -, es, e1, n1, s3, gg1, -, b1⟩ := p3
            simp only [List.append_nil] at e1
            subst e1
            have N4 : mN M4 (o + 1) (w + 1) b (c + us.length) := by
              have n1' : mN M3 (o + 1) (w + 1) b (c + us.length) := by simpa using n1
              unfold mN
              rw [f4.1 137 (by decide)]
              exact n1'
            have sM4 : sG w c M M4 := sG.tr (w' := w) (c' := c) s1 (⟨s3.1, s3.2.1, s3.2.2.1, fun i x => s3.2.2.2 i (by omega)⟩ : sG w c M1 M3) (Int.le_refl _) (Int.le_refl _) |> fun s => sG.tr (w' := w) (c' := c) s (⟨fun o _ _ a => f4.1 o a, fun j _ => by rw [f4.1 137 (by decide)], fun i _ => by rw [f4.1 178 (by decide)], fun i x => f4.2.2 i (by omega)⟩ : sG w c M3 M4) (Int.le_refl _) (Int.le_refl _)
            have k4 := c4.nx nx4
            have aM4 : aM M4 (w + 1) b := by
              unfold aM
              rw [show w + 1 - 1 = w by omega, f4.2.1]
              exact ⟨Or.inr (by omega), Or.inr ⟨by omega, by omega, by omega⟩⟩
            refine HB M4 k4.PM k4.2.2.1 ?_
            rcases h with ⟨r5, vs, ⟨rd5, -, -, i5, -⟩, h⟩ | ⟨f, x, ⟨rd5, -, -, i5, -⟩, h⟩
            · have fo5 := rd5.fol r5 vs rfl 1 (by decide)
              have ln5 := rd5.len r5 vs rfl g4.1
              refine i5 rfl M4 (w + 1) b (c + us.length) k4 N4 (by omega) aM4 (fun r5' us' e M5 pa pm k5 p5 => ?_) (fun f x e => by cases e)
              cases e
              have l95 := le9 k5
              rcases h with ⟨s41, r6, nx6, e⟩ | ⟨s41, e⟩
              · subst e
                refine gp_close (v := mk + 2) k5 p5 aM4 (by omega) s41 (by omega) (by have := hN.2.1; omega) (by rw [show w + 1 - 1 = w by omega]; exact f4.2.1) (by omega) (fun M6 c6 N6 s6 g6 => ?_)
                have ec : (if mk + 2 = 20 then ([] : List Int) else if mk + 2 = 23 then [5] else [6]) = [u] := by
                  rcases hu with ⟨rfl, rfl⟩ | ⟨rfl, rfl⟩
                  · rw [if_pos rfl] at hmk; subst hmk; rfl
                  · rw [if_neg (by decide)] at hmk; subst hmk; rfl
                rw [ec, show o + 1 - 1 = o by omega, show w + 1 - 1 = w by omega] at N6
                rw [show w + 1 - 1 = w by omega] at s6
                rw [ec] at g6
                refine hok r6 _ rfl M6 (c6.nx nx6) (mkP ?_ (sM4.tr s6 (Int.le_refl _) (by omega)) ?_ ⟨hN2.1.1, hN2.1.2, hN2.2⟩)
                · have : c + ((us ++ vs ++ [u]).length : Int) = c + us.length + (vs ++ [u]).length := by simp only [List.length_append]; omega
                  rw [this]; exact N6
                · rw [List.append_assoc]
                  refine sg0_app (sg0_c gg1 (fun i i0 i1 => ?_)) g6
                  rw [s6.2.2.1 i (Or.inl i1), f4.1 178 (by decide)]
              · subst e
                exact se_fail (v := mk + 2) k5 p5 aM4 (by omega) (fo5.2.1 rfl (Or.inl rfl)) (fo5.1 (Or.inl rfl)) (by omega) (by rw [show w + 1 - 1 = w by omega]; exact f4.2.1) (Or.inl s41) (fun g => by omega) (fun M' z => (hfl _ _ rfl M' (sM4.zz z)).2)
            · subst h
              exact i5 rfl M4 (w + 1) b (c + us.length) k4 N4 (by omega) aM4 (fun r2' us' e => by cases e) (fun f' x' e M' z => by cases e; exact hfl _ _ rfl M' (sM4.zz z))
          · subst e
            exact se_fail (v := mk) k2 p2 aM1 (by omega) (fo.2.1 rfl (Or.inl rfl)) (fo.1 (Or.inl rfl)) (by omega) (by rw [show w + 1 - 1 = w by omega]; exact w1) (Or.inr mk2) (fun _ => s44) (fun M' z => (hfl _ _ rfl M' (s1.zz z)).2)
        · subst h
          exact i rfl M1 (w + 1) b c k1 N1 (by omega) aM1 (fun r2' us' e => by cases e) (fun f' x' e M' z => by cases e; exact hfl _ _ rfl M' (s1.zz z))
      · rcases h with ⟨n40, e⟩ | ⟨s40, h⟩
        · rcases hfx with ⟨-, rfl, rfl⟩ | ⟨g, -⟩
          · exact (hfl _ _ e M' z).1
          · exact absurd g n40
        · rcases hfx with ⟨g, -⟩ | ⟨-, ho, rfl, rfl⟩
          · exact absurd s40 g
          · rcases h with ⟨-, e⟩ | ⟨ho', -⟩
            · exact (hfl _ _ e M' z).1
            · omega
    · refine pp_atom hb HA k hN hL ot.2 (ot.1 20 (by decide) (by decide)) (ot.1 21 (by decide) (by decide)) (fun q q1 q2 z => absurd z (ot.1 q q1 (by omega))) (fun _ => ?_)
      rcases h with ⟨a, e⟩ | ⟨a, a2, e⟩ | ⟨a, a2, a3, e⟩ | ⟨a, a2, rg, r1, nx, e⟩
      · exact ⟨.inr (1, r.2.1), 0, Or.inl ⟨1, r.2.1, Or.inl ⟨a, rfl, rfl⟩, rfl⟩, (fun r' e => by cases e), (fun f x e2 M' z => by cases e2; exact (hfl _ _ e M' z).1)⟩
      · exact ⟨.inr (1, r.2.1 + 4), 0, Or.inl ⟨1, r.2.1 + 4, Or.inr (Or.inl ⟨a, a2, rfl, rfl⟩), rfl⟩, (fun r' e => by cases e), (fun f x e2 M' z => by cases e2; exact (hfl _ _ e M' z).1)⟩
      · exact ⟨.inr (2, r.2.1), 0, Or.inl ⟨2, r.2.1, Or.inr (Or.inr ⟨a, a2, a3, rfl, rfl⟩), rfl⟩, (fun r' e => by cases e), (fun f x e2 M' z => by cases e2; exact (hfl _ _ e M' z).1)⟩
      · exact ⟨.inl r1, nv9 T r, Or.inr ⟨a, a2, rg, rfl, r1, nx, rfl⟩, (fun r' e2 M' k' p' => by cases e2; exact hok _ _ e M' k' p'), (fun f x e2 => by cases e2)⟩
  · exact P1_none (by decide)
  · obtain rfl | rfl | rfl | rfl : L = 0 ∨ L = 1 ∨ L = 2 ∨ L = 3 := by omega
    · refine ⟨fun e => by omega, fun _ M w b c k hN hL hM hok hfl => ?_, fun e => by omega, fun e => by omega, fun e => by omega⟩
      rcases h with ⟨r1, us, ⟨rd, i, -⟩, h⟩ | ⟨f, x, ⟨rd, i, -⟩, h⟩
      · have ln := rd.len r1 us rfl (tK9_W k.2.1)
        refine i rfl M w b c k hN hL (fun r1' us' e M1 k1 p1 => ?_) (fun f x e => by cases e)
        cases e
        rcases h with ⟨r2, vs, ⟨-, -, -, -, i2, -⟩, h⟩ | ⟨f, x, ⟨-, -, -, -, i2, -⟩, h⟩
        · subst h
          exact i2 rfl M M1 w b c us [] k1 p1 (by omega) hM (fun r2' vs' e M2 pm k2 p2 => by cases e; exact hok _ _ rfl M2 pm k2 p2) (fun f x e => by cases e)
        · subst h
          exact i2 rfl M M1 w b c us [] k1 p1 (by omega) hM (fun r2' vs' e => by cases e) (fun f' x' e M' z => by cases e; exact hfl _ _ rfl M' z)
      · subst h
        exact i rfl M w b c k hN hL (fun r1' us' e => by cases e) (fun f' x' e M' z => by cases e; exact hfl _ _ rfl M' z)
    · refine ⟨fun e => by omega, fun e => by omega, fun _ M w b c k hN hL hM hok hfl => ?_, fun e => by omega, fun e => by omega⟩
      have nm : nM M w := by
        rcases hM.1 with e | e
        · exact Or.inl e
        · exact Or.inr (by omega)
      rcases h with ⟨r1, us, ⟨rd, -, i, -⟩, h⟩ | ⟨f, x, ⟨rd, -, i, -⟩, h⟩
      · have ln := rd.len r1 us rfl (tK9_W k.2.1)
        refine i rfl M w b c k hN hL nm (fun r1' us' e M1 pm k1 p1 => ?_) (fun f x e => by cases e)
        cases e
        rcases h with ⟨r2, vs, ⟨-, -, -, -, -, i2⟩, h⟩ | ⟨f, x, ⟨-, -, -, -, -, i2⟩, h⟩
        · subst h
          exact i2 rfl M M1 w b c us [] pm k1 p1 (by omega) hM (fun r2' vs' e M2 pa pm k2 p2 => by cases e; exact hok _ _ rfl M2 pa pm k2 p2) (fun f x e => by cases e)
        · subst h
          exact i2 rfl M M1 w b c us [] pm k1 p1 (by omega) hM (fun r2' vs' e => by cases e) (fun f' x' e M' z => by cases e; exact hfl _ _ rfl M' z)
      · subst h
        exact i rfl M w b c k hN hL nm (fun r1' us' e => by cases e) (fun f' x' e M' z => by cases e; exact hfl _ _ rfl M' z)
    · exact P1_none (by decide)
    · exact P1_none (by decide)
  · obtain rfl | rfl | rfl | rfl : L = 0 ∨ L = 1 ∨ L = 2 ∨ L = 3 := by omega
    · refine ⟨fun e => by omega, fun e => by omega, fun e => by omega, fun _ M0 M w b c us0 pm0 k p hL hM hok hfl => ?_, fun e => by omega⟩
      rcases h with ⟨-, e⟩ | ⟨u, hu, r1, nx, h⟩
      · subst e
        exact hok r [] rfl M pm0 k (by rw [List.append_nil]; exact p)
      have l9 := le9 k
      have g1 := nx9_s nx (tK9_W k.2.1) (op9_k hu)
      have n41 : ¬ sg9 T r 41 := fun z => by
        rcases hu with ⟨-, ⟨g, -⟩ | ⟨g, -⟩⟩ | ⟨g, -⟩ | ⟨g, -⟩ | ⟨g, -⟩
        · have := z.2; have := g.2; omega
        · have := z.2; have := g.2; omega
        all_goals exact absurd g (by decide)
      have u34 : u = 3 ∨ u = 4 := by
        rcases hu with ⟨-, ⟨-, g⟩ | ⟨-, g⟩⟩ | ⟨g, -⟩ | ⟨g, -⟩ | ⟨g, -⟩
        · exact Or.inl g
        · exact Or.inr g
        all_goals exact absurd g (by decide)
      refine gp_skip k p n41 (fun x1 M1 k1 e1 p1 => gp_star HB k1 p1 hM (by omega) hu (fun M2 c2 p2 => ?_))
      have k3 := (pu_C (w := w) (u := u) c2).nx nx
      have N3 := pu_N (u := u) p2
      have s3 := pu_G (u := u) p2
      rcases h with ⟨r2, us, ⟨rd, i, -⟩, h⟩ | ⟨f, x, ⟨rd, i, -⟩, h⟩
      · have ln := rd.len r2 us rfl g1.1
        refine i rfl (puM M2 w u) (w + 1) b (c + us0.length) k3 N3 (by omega) (fun r2' us' e M4 k4 p4 => ?_) (fun f x e => by cases e)
        cases e
        have p5 := (pS_a p2 p4 (Or.inl ⟨u34, rfl⟩)).1 ⟨u34, rfl⟩
        have ll : ((us0 ++ us ++ [u]).length : Int) = us0.length + us.length + 1 := by simp only [List.length_append, List.length_cons, List.length_nil]; omega
        rcases h with ⟨r3, vs, ⟨-, -, -, -, i2, -⟩, h⟩ | ⟨f, x, ⟨-, -, -, -, i2, -⟩, h⟩
        · subst h
          refine i2 rfl M0 M4 w b c _ [u] k4 p5 (by omega) hM (fun r2' vs' e M5 pm k5 p6 => ?_) (fun f x e => by cases e)
          cases e
          refine hok _ _ rfl M5 pm k5 ?_
          rw [← List.append_assoc, ← List.append_assoc]
          exact p6
        · subst h
          exact i2 rfl M0 M4 w b c _ [u] k4 p5 (by omega) hM (fun r2' vs' e => by cases e) (fun f' x' e M' z => by cases e; exact hfl _ _ rfl M' z)
      · subst h
        exact i rfl (puM M2 w u) (w + 1) b (c + us0.length) k3 N3 (by omega) (fun r1' us' e => by cases e) (fun f' x' e M' z => by cases e; exact hfl _ _ rfl M' (s3.zz z))
    · refine ⟨fun e => by omega, fun e => by omega, fun e => by omega, fun e => by omega, fun _ M0 M w b c us0 pa0 pm0 k p hL hM hok hfl => ?_⟩
      rcases h with ⟨-, e⟩ | ⟨u, hu, r1, nx, h⟩
      · subst e
        exact hok r [] rfl M pa0 pm0 k (by rw [List.append_nil]; exact p)
      have l9 := le9 k
      have g1 := nx9_s nx (tK9_W k.2.1) (op9_k hu)
      have n41 : ¬ sg9 T r 41 := fun z => by
        rcases hu with ⟨g, -⟩ | ⟨-, ⟨g, -⟩ | ⟨g, -⟩⟩ | ⟨g, -⟩ | ⟨g, -⟩
        · exact absurd g (by decide)
        · have := z.2; have := g.2; omega
        · have := z.2; have := g.2; omega
        all_goals exact absurd g (by decide)
      have u12 : u = 1 ∨ u = 2 := by
        rcases hu with ⟨g, -⟩ | ⟨-, ⟨-, g⟩ | ⟨-, g⟩⟩ | ⟨g, -⟩ | ⟨g, -⟩
        · exact absurd g (by decide)
        · exact Or.inl g
        · exact Or.inr g
        all_goals exact absurd g (by decide)
      refine gp_skip k p n41 (fun x1 M1 k1 e1 p1 => gp_plus HB k1 p1 hM.1 (by omega) hu (fun M2 c2 p2 => ?_))
      have k3 := (pu_C (w := w) (u := u) c2).nx nx
      have N3 := pu_N (u := u) p2
      have s3 := pu_G (u := u) p2
      have nm : nM (puM M2 w u) (w + 1) := by
        refine Or.inr ?_
        rw [show w + 1 - 1 = w by omega, puM_e.2.2.2.1]
        omega
      rcases h with ⟨r2, us, ⟨rd, -, i, -⟩, h⟩ | ⟨f, x, ⟨rd, -, i, -⟩, h⟩
      · have ln := rd.len r2 us rfl g1.1
        refine i rfl (puM M2 w u) (w + 1) b (c + us0.length) k3 N3 (by omega) nm (fun r2' us' e M4 pm k4 p4 => ?_) (fun f x e => by cases e)
        cases e
        have p5 := (pS_a p2 p4 (Or.inr u12)).2 u12
        have ll : ((us0 ++ us ++ [u]).length : Int) = us0.length + us.length + 1 := by simp only [List.length_append, List.length_cons, List.length_nil]; omega
        rcases h with ⟨r3, vs, ⟨-, -, -, -, -, i2⟩, h⟩ | ⟨f, x, ⟨-, -, -, -, -, i2⟩, h⟩
        · subst h
          refine i2 rfl M0 M4 w b c _ [u] pm k4 p5 (by omega) hM (fun r2' vs' e M5 pa pm k5 p6 => ?_) (fun f x e => by cases e)
          cases e
          refine hok _ _ rfl M5 pa pm k5 ?_
          rw [← List.append_assoc, ← List.append_assoc]
          exact p6
        · subst h
          exact i2 rfl M0 M4 w b c _ [u] pm k4 p5 (by omega) hM (fun r2' vs' e => by cases e) (fun f' x' e M' z => by cases e; exact hfl _ _ rfl M' z)
      · subst h
        exact i rfl (puM M2 w u) (w + 1) b (c + us0.length) k3 N3 (by omega) nm (fun r1' us' e => by cases e) (fun f' x' e M' z => by cases e; exact hfl _ _ rfl M' (s3.zz z))
    · exact P1_none (by decide)
    · exact P1_none (by decide)
end
