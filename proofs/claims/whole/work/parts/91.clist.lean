/-! the class: flights listed -/
theorem am_ent9 {w k c : Int} (hw : 0 ≤ w ∧ w ≤ 2000) (hk : 0 ≤ k ∧ k < 8) (hc : 0 ≤ c ∧ c < 8) : am_or (am_or (am_shl w 6) (am_shl k 3)) c = w * 64 + k * 8 + c := by
  have e1 : am_shl w 6 = w * 64 := by
    have := am_shl_e (a := w) (k := 6) hw.1 (by omega) (by omega)
    exact this
  have e2 : am_shl k 3 = k * 8 := by
    have := am_shl_e (a := k) (k := 3) hk.1 (by omega) (by omega)
    exact this
  obtain ⟨a, ha⟩ : ∃ a : Nat, (a : Int) = w := ⟨w.toNat, by omega⟩
  obtain ⟨b, hb⟩ : ∃ b : Nat, (b : Int) = k := ⟨k.toNat, by omega⟩
  obtain ⟨x, hx⟩ : ∃ x : Nat, (x : Int) = c := ⟨c.toNat, by omega⟩
  subst ha hb hx
  have n1 : a * 64 ||| b * 8 = a * 64 + b * 8 := by
    have := Nat.two_pow_add_eq_or_of_lt (i := 6) (b := b * 8) (by omega) a
    rw [show 2 ^ 6 * a = a * 64 by omega] at this
    omega
  have n2 : (a * 64 + b * 8) ||| x = a * 64 + b * 8 + x := by
    have := Nat.two_pow_add_eq_or_of_lt (i := 3) (b := x) (by omega) (a * 8 + b)
    rw [show 2 ^ 3 * (a * 8 + b) = a * 64 + b * 8 by omega] at this
    omega
  have i1 : am_or ((a : Int) * 64) ((b : Int) * 8) = ((a * 64 + b * 8 : Nat) : Int) := by
    rw [am_or_nat (by omega) (by omega) (by omega) (by omega), show ((a : Int) * 64).toNat = a * 64 by omega, show ((b : Int) * 8).toNat = b * 8 by omega, n1]
  rw [e1, e2, i1, am_or_nat (by omega) (by omega) (by omega) (by omega), Int.toNat_natCast, Int.toNat_natCast, n2]
  omega
section
variable {M M' D : Int → Int → Int} {R : Int} {d : Nat} {Q : AV → am_S → Prop}
theorem k_spotOf {st : am_S} {b t : Int} (hb : 0 ≤ b ∧ b ≤ 10) (ht : 0 ≤ t ∧ t ≤ 1000) (h : Q (vI (81 * b + t)) st) : am_Call (d + 1) m_Search_spotOf 0 0 [vI b, vI t] st Q := by
  refine am_go B_Search_spotOf_0 rfl (Nat.le_of_ble_eq_true rfl) ?_
  simp only [b_Search_spotOf_0, c_const, c_lconst, c_ref, c_iload, c_lload, c_aload, c_istore, c_lstore, c_astore, c_iinc, c_iadd, c_isub, c_imul, c_ladd, c_lsub, c_lmul, c_idiv, c_irem, c_ldiv, c_lrem, c_iand, c_ior, c_ixor, c_ishl, c_ishr, c_ineg, c_i2l, c_l2i, c_i2c, c_lcmp, c_dup, c_pop, c_dup2, c_at, c_icmp_eq, c_icmp_ne, c_icmp_lt, c_icmp_ge, c_icmp_gt, c_icmp_le, c_if_eq, c_if_ne, c_if_lt, c_if_ge, c_if_gt, c_if_le, c_ifnull, c_ifnonnull, am_swK, c_sw, c_iret, c_zret, c_cret, c_bret, c_lret, c_aret, c_vret, c_getI, c_getR, c_putI, c_putZ, c_putR, c_iald, c_zald, c_cald, c_lald, c_oald, c_gald, c_iast, c_zast, c_cast, c_last, c_oast, c_alen, c_callS0, c_callS1, c_callS2, c_callS3, c_callS4, c_callS5, c_callS6, c_callS7, c_callV0, c_callV1, c_callV2, c_callV3, c_callV4, c_callV5, c_callV6, c_callV7, c_callT0, c_callT1, am_nx_eq, am_set, am_set2, am_clr, am_isL, am_push, am_w, am_ent, am_ent1, List.getElem?_cons_zero, List.getElem?_cons_succ, List.set_cons_zero, List.set_cons_succ, List.getD_cons_zero, List.getD_cons_succ, List.cons_append, List.nil_append, List.append_nil, List.replicate_succ, List.replicate_zero, Nat.reduceAdd, Nat.reduceSub, Nat.reduceLeDiff, Bool.false_eq_true, reduceIte, true_and, and_true, true_or, or_true, or_self, am_i32, am_i64, bz_0, bz_01, bz_em, bz_n0, Classical.not_not, am_cmp_lt0, am_cmp_gt0, am_cmp_eq0, am_cmp_ge0, am_cmp_le0, am_cmp_ne0]
  rw [show b * 81 + t = 81 * b + t by omega]
  exact ⟨by omega, by omega, h⟩
theorem k_stateOf {st : am_S} {n s l : Int} (hn : 0 ≤ n ∧ n ≤ 10) (hs : 0 ≤ s ∧ s ≤ 1000) (hl : 0 ≤ l ∧ l ≤ 10) (h : Q (vI (5184 * n + 8 * s + l)) st) : am_Call (d + 1) m_Search_stateOf 0 0 [vI n, vI s, vI l] st Q := by
  refine am_go B_Search_stateOf_0 rfl (Nat.le_of_ble_eq_true rfl) ?_
  simp only [b_Search_stateOf_0, c_const, c_lconst, c_ref, c_iload, c_lload, c_aload, c_istore, c_lstore, c_astore, c_iinc, c_iadd, c_isub, c_imul, c_ladd, c_lsub, c_lmul, c_idiv, c_irem, c_ldiv, c_lrem, c_iand, c_ior, c_ixor, c_ishl, c_ishr, c_ineg, c_i2l, c_l2i, c_i2c, c_lcmp, c_dup, c_pop, c_dup2, c_at, c_icmp_eq, c_icmp_ne, c_icmp_lt, c_icmp_ge, c_icmp_gt, c_icmp_le, c_if_eq, c_if_ne, c_if_lt, c_if_ge, c_if_gt, c_if_le, c_ifnull, c_ifnonnull, am_swK, c_sw, c_iret, c_zret, c_cret, c_bret, c_lret, c_aret, c_vret, c_getI, c_getR, c_putI, c_putZ, c_putR, c_iald, c_zald, c_cald, c_lald, c_oald, c_gald, c_iast, c_zast, c_cast, c_last, c_oast, c_alen, c_callS0, c_callS1, c_callS2, c_callS3, c_callS4, c_callS5, c_callS6, c_callS7, c_callV0, c_callV1, c_callV2, c_callV3, c_callV4, c_callV5, c_callV6, c_callV7, c_callT0, c_callT1, am_nx_eq, am_set, am_set2, am_clr, am_isL, am_push, am_w, am_ent, am_ent1, List.getElem?_cons_zero, List.getElem?_cons_succ, List.set_cons_zero, List.set_cons_succ, List.getD_cons_zero, List.getD_cons_succ, List.cons_append, List.nil_append, List.append_nil, List.replicate_succ, List.replicate_zero, Nat.reduceAdd, Nat.reduceSub, Nat.reduceLeDiff, Bool.false_eq_true, reduceIte, true_and, and_true, true_or, or_true, or_self, am_i32, am_i64, bz_0, bz_01, bz_em, bz_n0, Classical.not_not, am_cmp_lt0, am_cmp_gt0, am_cmp_eq0, am_cmp_ge0, am_cmp_le0, am_cmp_ne0]
  rw [show (n * 648 + s) * 8 + l = 5184 * n + 8 * s + l by omega]
  exact ⟨by omega, by omega, by omega, by omega, h⟩
theorem k_trickOf {st : am_S} {e : Int} (he : 0 ≤ e ∧ e ≤ 100000) (h : Q (vI (e / 8 % 8)) st) : am_Call (d + 1) m_Search_trickOf 0 0 [vI e] st Q := by
  refine am_go B_Search_trickOf_0 rfl (Nat.le_of_ble_eq_true rfl) ?_
  simp only [b_Search_trickOf_0, c_const, c_lconst, c_ref, c_iload, c_lload, c_aload, c_istore, c_lstore, c_astore, c_iinc, c_iadd, c_isub, c_imul, c_ladd, c_lsub, c_lmul, c_idiv, c_irem, c_ldiv, c_lrem, c_iand, c_ior, c_ixor, c_ishl, c_ishr, c_ineg, c_i2l, c_l2i, c_i2c, c_lcmp, c_dup, c_pop, c_dup2, c_at, c_icmp_eq, c_icmp_ne, c_icmp_lt, c_icmp_ge, c_icmp_gt, c_icmp_le, c_if_eq, c_if_ne, c_if_lt, c_if_ge, c_if_gt, c_if_le, c_ifnull, c_ifnonnull, am_swK, c_sw, c_iret, c_zret, c_cret, c_bret, c_lret, c_aret, c_vret, c_getI, c_getR, c_putI, c_putZ, c_putR, c_iald, c_zald, c_cald, c_lald, c_oald, c_gald, c_iast, c_zast, c_cast, c_last, c_oast, c_alen, c_callS0, c_callS1, c_callS2, c_callS3, c_callS4, c_callS5, c_callS6, c_callS7, c_callV0, c_callV1, c_callV2, c_callV3, c_callV4, c_callV5, c_callV6, c_callV7, c_callT0, c_callT1, am_nx_eq, am_set, am_set2, am_clr, am_isL, am_push, am_w, am_ent, am_ent1, List.getElem?_cons_zero, List.getElem?_cons_succ, List.set_cons_zero, List.set_cons_succ, List.getD_cons_zero, List.getD_cons_succ, List.cons_append, List.nil_append, List.append_nil, List.replicate_succ, List.replicate_zero, Nat.reduceAdd, Nat.reduceSub, Nat.reduceLeDiff, Bool.false_eq_true, reduceIte, true_and, and_true, true_or, or_true, or_self, am_i32, am_i64, bz_0, bz_01, bz_em, bz_n0, Classical.not_not, am_cmp_lt0, am_cmp_gt0, am_cmp_eq0, am_cmp_ge0, am_cmp_le0, am_cmp_ne0]
  rw [am_shr_3 (by unfold am_i32; omega), am_and_7 (by omega) (by omega)]
  exact h
theorem k_barOf {st : am_S} {e : Int} (he : 0 ≤ e ∧ e ≤ 100000) (h : Q (vI (e % 8)) st) : am_Call (d + 1) m_Search_barOf 0 0 [vI e] st Q := by
  refine am_go B_Search_barOf_0 rfl (Nat.le_of_ble_eq_true rfl) ?_
  simp only [b_Search_barOf_0, c_const, c_lconst, c_ref, c_iload, c_lload, c_aload, c_istore, c_lstore, c_astore, c_iinc, c_iadd, c_isub, c_imul, c_ladd, c_lsub, c_lmul, c_idiv, c_irem, c_ldiv, c_lrem, c_iand, c_ior, c_ixor, c_ishl, c_ishr, c_ineg, c_i2l, c_l2i, c_i2c, c_lcmp, c_dup, c_pop, c_dup2, c_at, c_icmp_eq, c_icmp_ne, c_icmp_lt, c_icmp_ge, c_icmp_gt, c_icmp_le, c_if_eq, c_if_ne, c_if_lt, c_if_ge, c_if_gt, c_if_le, c_ifnull, c_ifnonnull, am_swK, c_sw, c_iret, c_zret, c_cret, c_bret, c_lret, c_aret, c_vret, c_getI, c_getR, c_putI, c_putZ, c_putR, c_iald, c_zald, c_cald, c_lald, c_oald, c_gald, c_iast, c_zast, c_cast, c_last, c_oast, c_alen, c_callS0, c_callS1, c_callS2, c_callS3, c_callS4, c_callS5, c_callS6, c_callS7, c_callV0, c_callV1, c_callV2, c_callV3, c_callV4, c_callV5, c_callV6, c_callV7, c_callT0, c_callT1, am_nx_eq, am_set, am_set2, am_clr, am_isL, am_push, am_w, am_ent, am_ent1, List.getElem?_cons_zero, List.getElem?_cons_succ, List.set_cons_zero, List.set_cons_succ, List.getD_cons_zero, List.getD_cons_succ, List.cons_append, List.nil_append, List.append_nil, List.replicate_succ, List.replicate_zero, Nat.reduceAdd, Nat.reduceSub, Nat.reduceLeDiff, Bool.false_eq_true, reduceIte, true_and, and_true, true_or, or_true, or_self, am_i32, am_i64, bz_0, bz_01, bz_em, bz_n0, Classical.not_not, am_cmp_lt0, am_cmp_gt0, am_cmp_eq0, am_cmp_ge0, am_cmp_le0, am_cmp_ne0]
  rw [am_and_7 (by omega) (by omega)]
  exact h
/-- only the search's probe and the list have changed -/
def LF (M M' : Int → Int → Int) : Prop := (∀ o, o ≠ 51 → o ≠ 52 → o ≠ 55 → M' o = M o) ∧ M' 51 0 = M 51 0
theorem LF.rf (M : Int → Int → Int) : LF M M := ⟨fun _ _ _ _ => rfl, rfl⟩
theorem LF.tr {M1 M2 : Int → Int → Int} (h1 : LF M M1) (h2 : LF M1 M2) : LF M M2 := ⟨fun o a b c => (h2.1 o a b c).trans (h1.1 o a b c), h2.2.trans h1.2⟩
theorem CSc.lf (h : CSc 51 M M') : LF M M' := ⟨fun o a b _ => h.1 o a b, h.2⟩
theorem LF.up (M : Int → Int → Int) (j v : Int) : LF M (am_up M 55 j v) := ⟨fun o _ _ c => am_up_o M c, by rw [am_up_o M (by decide)]⟩
theorem LF.PC (h : LF M M') (hC : am_PC M) : am_PC M' := hC.eq (fun o j q => by
  by_cases z : o = 51
  · have : j = 0 := by unfold pcPl at q; omega
    rw [z, this]; exact h.2
  · rw [h.1 o z (by unfold pcPl at q; omega) (by unfold pcPl at q; omega)])
theorem CG.lf (hG : CG M D R) (h : LF M M') : CG M' D R := hG.eq (h.PC hG.P) (fun o a b => h.1 o (by have := hG.r; unfold isR at this; omega) (by have := hG.r; unfold isR at this; omega) (by have := hG.r; unfold isR at this; omega))
theorem CA.lf (hA : CA M D R) (hR : isR R) (h : LF M M') : CA M' D R := hA.eq (fun o a b => h.1 o (by unfold isR at hR; omega) (by unfold isR at hR; omega) (by unfold isR at hR; omega))
theorem LsAt.snoc {p v : Int} {X : List Int} (h : LsAt M p X) : LsAt (am_up M 55 (p + X.length) v) p (X ++ [v]) := by
  intro i hi
  simp at hi
  by_cases z : i = X.length
  · rw [z, am_up_s]; simp
  · rw [am_up_j _ (by omega), h i (by omega)]
    simp [List.getD, List.getElem?_append_left (show i < X.length by omega)]
theorem LsAt.fr {p : Int} {X : List Int} (h : LsAt M p X) (q : M' 55 = M 55) : LsAt M' p X := by
  intro i hi
  rw [q]
  exact h i hi
theorem enL_in {b t k c : Int} (hk : 0 ≤ k ∧ k < 8) (hc : 0 ≤ c ∧ c < 8) : 0 ≤ enL D b t k c ∧ enL D b t k c ≤ 65000 ∧ enL D b t k c / 8 % 8 = k ∧ enL D b t k c % 8 = c ∧ enL D b t k c / 64 = (if D 16 k = 1 ∨ D 17 k = 1 then 1001 else wth D b t k c 0 0) := by
  have w := wth_in D b t k c 0 0
  unfold enL
  split <;> omega
theorem s_const {n : Int} {nx : am_K} {rc rs : Nat} {ls r : List AV} {st : am_S} (h : nx rc rs ls (vI n :: r) st) : c_const n nx rc rs ls r st := h
theorem s_iload {i : Nat} {x : Int} {nx : am_K} {rc rs : Nat} {ls r : List AV} {st : am_S} (e : ls[i]? = some (vI x)) (h : nx rc rs ls (vI x :: r) st) : c_iload i nx rc rs ls r st := by
  unfold c_iload
  rw [e]
  exact h
theorem s_ishl {a b x : Int} {nx : am_K} {rc rs : Nat} {ls r : List AV} {st : am_S} (e : am_shl a b = x) (h : nx rc rs ls (vI x :: r) st) : c_ishl nx rc rs ls (vI b :: vI a :: r) st := by
  subst e
  exact h
theorem s_ior {a b x : Int} {nx : am_K} {rc rs : Nat} {ls r : List AV} {st : am_S} (e : am_or a b = x) (h : nx rc rs ls (vI x :: r) st) : c_ior nx rc rs ls (vI b :: vI a :: r) st := by
  subst e
  exact h
theorem k_list_add {b t p q k w y c v E : Int} {x9 : AV} (hC : am_PC M) (hv : 0 ≤ v ∧ v ≤ 2000) (hk : 0 ≤ k ∧ k < 8) (hc : 0 ≤ c ∧ c < 8) (he : v * 64 + k * 8 + c = E) (hq : 0 ≤ q ∧ q < 36288) (nx : am_Wp (d + 5) m_Search_listFrom 0 0 97 [vR 50, vI b, vI t, vI p, vI (q + 1), vI k, vI w, vI y, vI (c + 1), vI v] [] (am_SH, am_up M 55 q E) Q) : b_Search_listFrom_194 (d + 4) Q 0 0 [vR 50, vI b, vI t, vI p, vI q, vI k, vI w, vI y, vI c, x9] [vI v] (am_SH, M) := by
  have ee := am_ent9 (w := v) (k := k) (c := c) hv hk hc
  rw [he] at ee
  have e1 := pc_50_2 hC
  have gen : ∀ X : am_K, X 0 0 [vR 50, vI b, vI t, vI p, vI q, vI k, vI w, vI y, vI c, vI v] [vI v, vI q, vR 55] (am_SH, M) → (c_istore 9 <| c_aload 0 <| c_getR 8 2 <| c_iload 4 <| c_iload 9 <| X) 0 0 [vR 50, vI b, vI t, vI p, vI q, vI k, vI w, vI y, vI c, x9] [vI v] (am_SH, M) := by
    intro X hX
    simp only [kd_50, e1, c_const, c_lconst, c_ref, c_iload, c_lload, c_aload, c_istore, c_lstore, c_astore, c_iinc, c_iadd, c_isub, c_imul, c_ladd, c_lsub, c_lmul, c_idiv, c_irem, c_ldiv, c_lrem, c_iand, c_ior, c_ixor, c_ishl, c_ishr, c_ineg, c_i2l, c_l2i, c_i2c, c_lcmp, c_dup, c_pop, c_dup2, c_at, c_icmp_eq, c_icmp_ne, c_icmp_lt, c_icmp_ge, c_icmp_gt, c_icmp_le, c_if_eq, c_if_ne, c_if_lt, c_if_ge, c_if_gt, c_if_le, c_ifnull, c_ifnonnull, am_swK, c_sw, c_iret, c_zret, c_cret, c_bret, c_lret, c_aret, c_vret, c_getI, c_getR, c_putI, c_putZ, c_putR, c_iald, c_zald, c_cald, c_lald, c_oald, c_gald, c_iast, c_zast, c_cast, c_last, c_oast, c_alen, c_callS0, c_callS1, c_callS2, c_callS3, c_callS4, c_callS5, c_callS6, c_callS7, c_callV0, c_callV1, c_callV2, c_callV3, c_callV4, c_callV5, c_callV6, c_callV7, c_callT0, c_callT1, am_nx_eq, am_set, am_set2, am_clr, am_isL, am_push, am_w, am_ent, am_ent1, List.getElem?_cons_zero, List.getElem?_cons_succ, List.set_cons_zero, List.set_cons_succ, List.getD_cons_zero, List.getD_cons_succ, List.cons_append, List.nil_append, List.append_nil, List.replicate_succ, List.replicate_zero, Nat.reduceAdd, Nat.reduceSub, Nat.reduceLeDiff, Bool.false_eq_true, reduceIte, true_and, and_true, true_or, or_true, or_self, am_i32, am_i64, bz_0, bz_01, bz_em, bz_n0, Classical.not_not, am_cmp_lt0, am_cmp_gt0, am_cmp_eq0, am_cmp_ge0, am_cmp_le0, am_cmp_ne0]
    exact hX
  unfold b_Search_listFrom_194
  refine gen _ (s_const (s_ishl rfl (s_iload rfl (s_const (s_ishl rfl (s_ior rfl (s_iload rfl (s_ior ee ?_))))))))
  simp only [b_Search_listFrom_219, ln_55, c_const, c_lconst, c_ref, c_iload, c_lload, c_aload, c_istore, c_lstore, c_astore, c_iinc, c_iadd, c_isub, c_imul, c_ladd, c_lsub, c_lmul, c_idiv, c_irem, c_ldiv, c_lrem, c_iand, c_ior, c_ixor, c_ishl, c_ishr, c_ineg, c_i2l, c_l2i, c_i2c, c_lcmp, c_dup, c_pop, c_dup2, c_at, c_icmp_eq, c_icmp_ne, c_icmp_lt, c_icmp_ge, c_icmp_gt, c_icmp_le, c_if_eq, c_if_ne, c_if_lt, c_if_ge, c_if_gt, c_if_le, c_ifnull, c_ifnonnull, am_swK, c_sw, c_iret, c_zret, c_cret, c_bret, c_lret, c_aret, c_vret, c_getI, c_getR, c_putI, c_putZ, c_putR, c_iald, c_zald, c_cald, c_lald, c_oald, c_gald, c_iast, c_zast, c_cast, c_last, c_oast, c_alen, c_callS0, c_callS1, c_callS2, c_callS3, c_callS4, c_callS5, c_callS6, c_callS7, c_callV0, c_callV1, c_callV2, c_callV3, c_callV4, c_callV5, c_callV6, c_callV7, c_callT0, c_callT1, am_nx_eq, am_set, am_set2, am_clr, am_isL, am_push, am_w, am_ent, am_ent1, List.getElem?_cons_zero, List.getElem?_cons_succ, List.set_cons_zero, List.set_cons_succ, List.getD_cons_zero, List.getD_cons_succ, List.cons_append, List.nil_append, List.append_nil, List.replicate_succ, List.replicate_zero, Nat.reduceAdd, Nat.reduceSub, Nat.reduceLeDiff, Bool.false_eq_true, reduceIte, true_and, and_true, true_or, or_true, or_self, am_i32, am_i64, bz_0, bz_01, bz_em, bz_n0, Classical.not_not, am_cmp_lt0, am_cmp_gt0, am_cmp_eq0, am_cmp_ge0, am_cmp_le0, am_cmp_ne0]
  exact ⟨hq.1, hq.2, by omega, by omega, nx⟩
theorem k_list_c {M0 : Int → Int → Int} {b t k p w y : Int} {X0 : List Int} (hD : WF D) (ha : WFa D) (hb : 0 ≤ b ∧ b < D 0 0) (ht : 0 ≤ t ∧ t ≤ 80) (hk : 0 ≤ k ∧ k < D 0 2) (hp : 0 ≤ p ∧ p ≤ 56 * (81 * b + t)) (hw : w = bz (t + D 7 k ≤ 80)) (hy : y = bz (D 16 k = 1 ∨ D 17 k = 1))
    (h : ∀ (n : Int) (x8 x9 : AV) M', LF M0 M' → CG M' D R → CA M' D R → (∀ j, j < p → M' 55 j = M0 55 j) → n = p + (X0 ++ LLc D b t k (D 0 0).toNat 0).length → n ≤ p + 7 * (k + 1) → LsAt M' p (X0 ++ LLc D b t k (D 0 0).toNat 0) → b_Search_listFrom_225 (d + 4) Q 0 0 [vR 50, vI b, vI t, vI p, vI n, vI k, vI w, vI y, x8, x9] [] (am_SH, M')) :
    ∀ (m : Nat) (c : Int) (X : List Int) (x9 : AV) (M : Int → Int → Int), c + m = D 0 0 → 0 ≤ c → LF M0 M → CG M D R → CA M D R → M 50 6 = R → (∀ j, j < p → M 55 j = M0 55 j) → LsAt M p X → X ++ LLc D b t k m c = X0 ++ LLc D b t k (D 0 0).toNat 0 → (X.length : Int) ≤ 7 * k + c - (if b < c then 1 else 0) → am_Wp (d + 5) m_Search_listFrom 0 0 97 [vR 50, vI b, vI t, vI p, vI (p + X.length), vI k, vI w, vI y, vI c, x9] [] (am_SH, M) Q := by
  have hd0 := hD.1
  have hd2 := hD.2.2.1
  have hE : isE 51 := Or.inr rfl
  have aw := ha k hk.1 hk.2
  have out : ∀ (m : Nat) (c : Int) (X : List Int) (x8 x9 : AV) M, LLc D b t k m c = [] → (X.length : Int) ≤ 7 * (k + 1) → LF M0 M → CG M D R → CA M D R → (∀ j, j < p → M 55 j = M0 55 j) → LsAt M p X → X ++ LLc D b t k m c = X0 ++ LLc D b t k (D 0 0).toNat 0 → b_Search_listFrom_225 (d + 4) Q 0 0 [vR 50, vI b, vI t, vI p, vI (p + X.length), vI k, vI w, vI y, x8, x9] [] (am_SH, M) := by
    intro m c X x8 x9 M e0 hl w1 w2 w3 w4 w5 w6
    rw [e0, List.append_nil] at w6
    exact h _ _ _ M w1 w2 w3 w4 (by rw [← w6]) (by omega) (by rw [← w6]; exact w5)
  have noT : ¬ (t + D 7 k ≤ 80) → ∀ (m : Nat) (c : Int), LLc D b t k m c = [] := by
    intro z m
    induction m with
    | zero => intro c; rfl
    | succ m ih =>
      intro c
      show (if okL D b t k c then [enL D b t k c] else []) ++ LLc D b t k m (c + 1) = []
      rw [if_neg (fun q => z q.2.1), ih]
      rfl
  intro m
  induction m with
  | zero =>
    intro c X x9 M hm hc hs hG hA e6 h55 hL hX hl
    have hC := hG.P
    have hR := hG.r
    have o := out 0 c X (vI c) x9 M rfl (by split at hl <;> omega) hs hG hA h55 hL hX
    refine B_Search_listFrom_97 _ _ _ _ _ ?_
    simp only [b_Search_listFrom_97, e6, kr_0 hR, kr_1 hR, lr_2 hR, mr_2 hR, lr_3 hR, mr_3 hR, lr_4 hR, mr_4 hR, lr_5 hR, mr_5 hR, lr_6 hR, mr_6 hR, lr_7 hR, mr_7 hR, kr_8 hR, lr_9 hR, mr_9 hR, lr_10 hR, mr_10 hR, kr_11 hR, lr_12 hR, mr_12 hR, lr_13 hR, mr_13 hR, lr_14 hR, mr_14 hR, lr_15 hR, mr_15 hR, lr_16 hR, mr_16 hR, lr_17 hR, mr_17 hR, lr_18 hR, mr_18 hR, lr_19 hR, mr_19 hR, lr_20 hR, mr_20 hR, pr_0 hC hR, pr_1 hC hR, pr_2 hC hR, pr1_0 hC hR, pr1_1 hC hR, pr1_2 hC hR, pr1_3 hC hR, pr1_4 hC hR, pr1_5 hC hR, pr8_0 hC hR, pr8_1 hC hR, prt_0 hC hR, prt_1 hC hR, prt_2 hC hR, prt_3 hC hR, prt_4 hC hR, prt_5 hC hR, prt_6 hC hR, prt_7 hC hR, prt_8 hC hR, hG.B.1.1, kd_1, kd_2, ln_3, ll_3, kd_46, kd_47, ln_48, ll_48, ln_49, ll_49, kd_50, kd_51, ln_52, ll_52, ln_53, ll_53, ln_54, ll_54, ln_55, ll_55, ln_56, ll_56, ln_57, ll_57, ln_58, ll_58, kd_59, ln_60, ll_60, ln_61, ll_61, ln_62, ll_62, ln_63, ll_63, kd_64, ln_127, ll_127, ln_128, ll_128, ln_129, ll_129, ln_130, ll_130, ln_131, ll_131, ln_132, ll_132, ln_133, ll_133, ln_134, ll_134, kd_135, ln_136, ll_136, pc_1_0 hC, pc_1_3 hC, pc_1_4 hC, pc_1_5 hC, pc_1_6 hC, pc_1_7 hC, pc_1_8 hC, pc_2_0 hC, pc_46_0 hC, pc_50_0 hC, pc_50_1 hC, pc_50_2 hC, pc_50_3 hC, pc_50_4 hC, pc_50_5 hC, pc_64_2 hC, pc_64_3 hC, pc_135_0 hC, am_up_eq, Int.reduceEq, Int.reduceLT, Int.reduceLE, Int.reduceNeg, if_true, if_false, c_const, c_lconst, c_ref, c_iload, c_lload, c_aload, c_istore, c_lstore, c_astore, c_iinc, c_iadd, c_isub, c_imul, c_ladd, c_lsub, c_lmul, c_idiv, c_irem, c_ldiv, c_lrem, c_iand, c_ior, c_ixor, c_ishl, c_ishr, c_ineg, c_i2l, c_l2i, c_i2c, c_lcmp, c_dup, c_pop, c_dup2, c_at, c_icmp_eq, c_icmp_ne, c_icmp_lt, c_icmp_ge, c_icmp_gt, c_icmp_le, c_if_eq, c_if_ne, c_if_lt, c_if_ge, c_if_gt, c_if_le, c_ifnull, c_ifnonnull, am_swK, c_sw, c_iret, c_zret, c_cret, c_bret, c_lret, c_aret, c_vret, c_getI, c_getR, c_putI, c_putZ, c_putR, c_iald, c_zald, c_cald, c_lald, c_oald, c_gald, c_iast, c_zast, c_cast, c_last, c_oast, c_alen, c_callS0, c_callS1, c_callS2, c_callS3, c_callS4, c_callS5, c_callS6, c_callS7, c_callV0, c_callV1, c_callV2, c_callV3, c_callV4, c_callV5, c_callV6, c_callV7, c_callT0, c_callT1, am_nx_eq, am_set, am_set2, am_clr, am_isL, am_push, am_w, am_ent, am_ent1, List.getElem?_cons_zero, List.getElem?_cons_succ, List.set_cons_zero, List.set_cons_succ, List.getD_cons_zero, List.getD_cons_succ, List.cons_append, List.nil_append, List.append_nil, List.replicate_succ, List.replicate_zero, Nat.reduceAdd, Nat.reduceSub, Nat.reduceLeDiff, Bool.false_eq_true, reduceIte, true_and, and_true, true_or, or_true, or_self, am_i32, am_i64, bz_0, bz_01, bz_em, bz_n0, Classical.not_not, am_cmp_lt0, am_cmp_gt0, am_cmp_eq0, am_cmp_ge0, am_cmp_le0, am_cmp_ne0]
    exact ⟨fun _ => o, fun _ => ⟨fun _ => o, fun z => by omega⟩⟩
  | succ m ih =>
    intro c X x9 M hm hc hs hG hA e6 h55 hL hX hl
    have hC := hG.P
    have hR := hG.r
    have eL : LLc D b t k (m + 1) c = (if okL D b t k c then [enL D b t k c] else []) ++ LLc D b t k m (c + 1) := rfl
    have nxt : ∀ (x9 : AV) M1, ¬ okL D b t k c → LF M0 M1 → CG M1 D R → CA M1 D R → M1 50 6 = R → (∀ j, j < p → M1 55 j = M0 55 j) → LsAt M1 p X → b_Search_listFrom_219 (d + 4) Q 0 0 [vR 50, vI b, vI t, vI p, vI (p + X.length), vI k, vI w, vI y, vI c, x9] [] (am_SH, M1) := by
      intro x9 M1 z w1 w2 w3 w4 w5 w6
      rw [eL, if_neg z, List.nil_append] at hX
      simp only [b_Search_listFrom_219, c_const, c_lconst, c_ref, c_iload, c_lload, c_aload, c_istore, c_lstore, c_astore, c_iinc, c_iadd, c_isub, c_imul, c_ladd, c_lsub, c_lmul, c_idiv, c_irem, c_ldiv, c_lrem, c_iand, c_ior, c_ixor, c_ishl, c_ishr, c_ineg, c_i2l, c_l2i, c_i2c, c_lcmp, c_dup, c_pop, c_dup2, c_at, c_icmp_eq, c_icmp_ne, c_icmp_lt, c_icmp_ge, c_icmp_gt, c_icmp_le, c_if_eq, c_if_ne, c_if_lt, c_if_ge, c_if_gt, c_if_le, c_ifnull, c_ifnonnull, am_swK, c_sw, c_iret, c_zret, c_cret, c_bret, c_lret, c_aret, c_vret, c_getI, c_getR, c_putI, c_putZ, c_putR, c_iald, c_zald, c_cald, c_lald, c_oald, c_gald, c_iast, c_zast, c_cast, c_last, c_oast, c_alen, c_callS0, c_callS1, c_callS2, c_callS3, c_callS4, c_callS5, c_callS6, c_callS7, c_callV0, c_callV1, c_callV2, c_callV3, c_callV4, c_callV5, c_callV6, c_callV7, c_callT0, c_callT1, am_nx_eq, am_set, am_set2, am_clr, am_isL, am_push, am_w, am_ent, am_ent1, List.getElem?_cons_zero, List.getElem?_cons_succ, List.set_cons_zero, List.set_cons_succ, List.getD_cons_zero, List.getD_cons_succ, List.cons_append, List.nil_append, List.append_nil, List.replicate_succ, List.replicate_zero, Nat.reduceAdd, Nat.reduceSub, Nat.reduceLeDiff, Bool.false_eq_true, reduceIte, true_and, and_true, true_or, or_true, or_self, am_i32, am_i64, bz_0, bz_01, bz_em, bz_n0, Classical.not_not, am_cmp_lt0, am_cmp_gt0, am_cmp_eq0, am_cmp_ge0, am_cmp_le0, am_cmp_ne0]
      refine ⟨by omega, ih (c + 1) X _ M1 (by omega) (by omega) w1 w2 w3 w4 w5 w6 hX ?_⟩
      by_cases u : c = b
      · have u1 : ¬ b < c := by omega
        have u2 : b < c + 1 := by omega
        rw [if_neg u1] at hl
        rw [if_pos u2]
        omega
      · by_cases v : b < c
        · rw [if_pos v] at hl
          rw [if_pos (by omega)]
          omega
        · rw [if_neg v] at hl
          rw [if_neg (by omega)]
          omega
    refine B_Search_listFrom_97 _ _ _ _ _ ?_
    simp only [b_Search_listFrom_97, e6, kr_0 hR, kr_1 hR, lr_2 hR, mr_2 hR, lr_3 hR, mr_3 hR, lr_4 hR, mr_4 hR, lr_5 hR, mr_5 hR, lr_6 hR, mr_6 hR, lr_7 hR, mr_7 hR, kr_8 hR, lr_9 hR, mr_9 hR, lr_10 hR, mr_10 hR, kr_11 hR, lr_12 hR, mr_12 hR, lr_13 hR, mr_13 hR, lr_14 hR, mr_14 hR, lr_15 hR, mr_15 hR, lr_16 hR, mr_16 hR, lr_17 hR, mr_17 hR, lr_18 hR, mr_18 hR, lr_19 hR, mr_19 hR, lr_20 hR, mr_20 hR, pr_0 hC hR, pr_1 hC hR, pr_2 hC hR, pr1_0 hC hR, pr1_1 hC hR, pr1_2 hC hR, pr1_3 hC hR, pr1_4 hC hR, pr1_5 hC hR, pr8_0 hC hR, pr8_1 hC hR, prt_0 hC hR, prt_1 hC hR, prt_2 hC hR, prt_3 hC hR, prt_4 hC hR, prt_5 hC hR, prt_6 hC hR, prt_7 hC hR, prt_8 hC hR, hG.B.1.1, kd_1, kd_2, ln_3, ll_3, kd_46, kd_47, ln_48, ll_48, ln_49, ll_49, kd_50, kd_51, ln_52, ll_52, ln_53, ll_53, ln_54, ll_54, ln_55, ll_55, ln_56, ll_56, ln_57, ll_57, ln_58, ll_58, kd_59, ln_60, ll_60, ln_61, ll_61, ln_62, ll_62, ln_63, ll_63, kd_64, ln_127, ll_127, ln_128, ll_128, ln_129, ll_129, ln_130, ll_130, ln_131, ll_131, ln_132, ll_132, ln_133, ll_133, ln_134, ll_134, kd_135, ln_136, ll_136, pc_1_0 hC, pc_1_3 hC, pc_1_4 hC, pc_1_5 hC, pc_1_6 hC, pc_1_7 hC, pc_1_8 hC, pc_2_0 hC, pc_46_0 hC, pc_50_0 hC, pc_50_1 hC, pc_50_2 hC, pc_50_3 hC, pc_50_4 hC, pc_50_5 hC, pc_64_2 hC, pc_64_3 hC, pc_135_0 hC, am_up_eq, Int.reduceEq, Int.reduceLT, Int.reduceLE, Int.reduceNeg, if_true, if_false, c_const, c_lconst, c_ref, c_iload, c_lload, c_aload, c_istore, c_lstore, c_astore, c_iinc, c_iadd, c_isub, c_imul, c_ladd, c_lsub, c_lmul, c_idiv, c_irem, c_ldiv, c_lrem, c_iand, c_ior, c_ixor, c_ishl, c_ishr, c_ineg, c_i2l, c_l2i, c_i2c, c_lcmp, c_dup, c_pop, c_dup2, c_at, c_icmp_eq, c_icmp_ne, c_icmp_lt, c_icmp_ge, c_icmp_gt, c_icmp_le, c_if_eq, c_if_ne, c_if_lt, c_if_ge, c_if_gt, c_if_le, c_ifnull, c_ifnonnull, am_swK, c_sw, c_iret, c_zret, c_cret, c_bret, c_lret, c_aret, c_vret, c_getI, c_getR, c_putI, c_putZ, c_putR, c_iald, c_zald, c_cald, c_lald, c_oald, c_gald, c_iast, c_zast, c_cast, c_last, c_oast, c_alen, c_callS0, c_callS1, c_callS2, c_callS3, c_callS4, c_callS5, c_callS6, c_callS7, c_callV0, c_callV1, c_callV2, c_callV3, c_callV4, c_callV5, c_callV6, c_callV7, c_callT0, c_callT1, am_nx_eq, am_set, am_set2, am_clr, am_isL, am_push, am_w, am_ent, am_ent1, List.getElem?_cons_zero, List.getElem?_cons_succ, List.set_cons_zero, List.set_cons_succ, List.getD_cons_zero, List.getD_cons_succ, List.cons_append, List.nil_append, List.append_nil, List.replicate_succ, List.replicate_zero, Nat.reduceAdd, Nat.reduceSub, Nat.reduceLeDiff, Bool.false_eq_true, reduceIte, true_and, and_true, true_or, or_true, or_self, am_i32, am_i64, bz_0, bz_01, bz_em, bz_n0, Classical.not_not, am_cmp_lt0, am_cmp_gt0, am_cmp_eq0, am_cmp_ge0, am_cmp_le0, am_cmp_ne0]
    refine ⟨fun z => ?_, fun z => ⟨fun z2 => by omega, fun _ => ⟨fun z2 => ?_, fun z2 => ?_⟩⟩⟩
    · have zt : ¬ (t + D 7 k ≤ 80) := fun u => by rw [hw, bz_t u] at z; omega
      exact out (m + 1) c X _ _ M (noT zt _ _) (by split at hl <;> omega) hs hG hA h55 hL hX
    · have cb : c = b ∧ m = 0 := by
        by_cases u : b < c
        · rw [if_pos u] at hl; omega
        · rw [if_neg u] at hl; omega
      refine out (m + 1) c X _ _ M ?_ (by split at hl <;> omega) hs hG hA h55 hL hX
      rw [cb.2]
      show (if okL D b t k c then [enL D b t k c] else []) ++ [] = []
      rw [if_neg (fun q => q.1 cb.1)]
      rfl
    · have zt : t + D 7 k ≤ 80 := by
        by_cases u : t + D 7 k ≤ 80
        · exact u
        · rw [hw, bz_f u] at z; exact absurd rfl z
      refine k_aim hG hE ht.1 (by omega) (fun fl M1 s1 g1 a1 => ?_) (fun fl => ?_)
      · have l1 := hs.tr s1.lf
        have hA1 := hA.lf hR s1.lf
        have e6' : M1 50 6 = R := by rw [s1.1 50 (by decide) (by decide)]; exact e6
        have h55' : ∀ j, j < p → M1 55 j = M0 55 j := fun j hj => by rw [s1.1 55 (by decide) (by decide)]; exact h55 j hj
        have hL1 := hL.fr (M' := M1) (s1.1 55 (by decide) (by decide))
        have hC := g1.P
        simp only [kd_1, kd_2, ln_3, ll_3, kd_46, kd_47, ln_48, ll_48, ln_49, ll_49, kd_50, kd_51, ln_52, ll_52, ln_53, ll_53, ln_54, ll_54, ln_55, ll_55, ln_56, ll_56, ln_57, ll_57, ln_58, ll_58, kd_59, ln_60, ll_60, ln_61, ll_61, ln_62, ll_62, ln_63, ll_63, kd_64, ln_127, ll_127, ln_128, ll_128, ln_129, ll_129, ln_130, ll_130, ln_131, ll_131, ln_132, ll_132, ln_133, ll_133, ln_134, ll_134, kd_135, ln_136, ll_136, pc_1_0 hC, pc_1_3 hC, pc_1_4 hC, pc_1_5 hC, pc_1_6 hC, pc_1_7 hC, pc_1_8 hC, pc_2_0 hC, pc_46_0 hC, pc_50_0 hC, pc_50_1 hC, pc_50_2 hC, pc_50_3 hC, pc_50_4 hC, pc_50_5 hC, pc_64_2 hC, pc_64_3 hC, pc_135_0 hC, am_up_eq, Int.reduceEq, Int.reduceLT, Int.reduceLE, Int.reduceNeg, if_true, if_false, c_const, c_lconst, c_ref, c_iload, c_lload, c_aload, c_istore, c_lstore, c_astore, c_iinc, c_iadd, c_isub, c_imul, c_ladd, c_lsub, c_lmul, c_idiv, c_irem, c_ldiv, c_lrem, c_iand, c_ior, c_ixor, c_ishl, c_ishr, c_ineg, c_i2l, c_l2i, c_i2c, c_lcmp, c_dup, c_pop, c_dup2, c_at, c_icmp_eq, c_icmp_ne, c_icmp_lt, c_icmp_ge, c_icmp_gt, c_icmp_le, c_if_eq, c_if_ne, c_if_lt, c_if_ge, c_if_gt, c_if_le, c_ifnull, c_ifnonnull, am_swK, c_sw, c_iret, c_zret, c_cret, c_bret, c_lret, c_aret, c_vret, c_getI, c_getR, c_putI, c_putZ, c_putR, c_iald, c_zald, c_cald, c_lald, c_oald, c_gald, c_iast, c_zast, c_cast, c_last, c_oast, c_alen, c_callS0, c_callS1, c_callS2, c_callS3, c_callS4, c_callS5, c_callS6, c_callS7, c_callV0, c_callV1, c_callV2, c_callV3, c_callV4, c_callV5, c_callV6, c_callV7, c_callT0, c_callT1, am_nx_eq, am_set, am_set2, am_clr, am_isL, am_push, am_w, am_ent, am_ent1, List.getElem?_cons_zero, List.getElem?_cons_succ, List.set_cons_zero, List.set_cons_succ, List.getD_cons_zero, List.getD_cons_succ, List.cons_append, List.nil_append, List.append_nil, List.replicate_succ, List.replicate_zero, Nat.reduceAdd, Nat.reduceSub, Nat.reduceLeDiff, Bool.false_eq_true, reduceIte, true_and, and_true, true_or, or_true, or_self, am_i32, am_i64, bz_0, bz_01, bz_em, bz_n0, Classical.not_not, am_cmp_lt0, am_cmp_gt0, am_cmp_eq0, am_cmp_ge0, am_cmp_le0, am_cmp_ne0]
        try simp only [Int.reduceEq, Int.reduceLT, Int.reduceLE, Int.reduceNeg, not_true_eq_false, not_false_eq_true, false_implies, true_implies, implies_true, true_and, and_true]
        refine k_isNear hE a1 (fun r hr => ?_)
        subst hr
        simp only [kd_1, kd_2, ln_3, ll_3, kd_46, kd_47, ln_48, ll_48, ln_49, ll_49, kd_50, kd_51, ln_52, ll_52, ln_53, ll_53, ln_54, ll_54, ln_55, ll_55, ln_56, ll_56, ln_57, ll_57, ln_58, ll_58, kd_59, ln_60, ll_60, ln_61, ll_61, ln_62, ll_62, ln_63, ll_63, kd_64, ln_127, ll_127, ln_128, ll_128, ln_129, ll_129, ln_130, ll_130, ln_131, ll_131, ln_132, ll_132, ln_133, ll_133, ln_134, ll_134, kd_135, ln_136, ll_136, pc_1_0 hC, pc_1_3 hC, pc_1_4 hC, pc_1_5 hC, pc_1_6 hC, pc_1_7 hC, pc_1_8 hC, pc_2_0 hC, pc_46_0 hC, pc_50_0 hC, pc_50_1 hC, pc_50_2 hC, pc_50_3 hC, pc_50_4 hC, pc_50_5 hC, pc_64_2 hC, pc_64_3 hC, pc_135_0 hC, am_up_eq, Int.reduceEq, Int.reduceLT, Int.reduceLE, Int.reduceNeg, if_true, if_false, c_const, c_lconst, c_ref, c_iload, c_lload, c_aload, c_istore, c_lstore, c_astore, c_iinc, c_iadd, c_isub, c_imul, c_ladd, c_lsub, c_lmul, c_idiv, c_irem, c_ldiv, c_lrem, c_iand, c_ior, c_ixor, c_ishl, c_ishr, c_ineg, c_i2l, c_l2i, c_i2c, c_lcmp, c_dup, c_pop, c_dup2, c_at, c_icmp_eq, c_icmp_ne, c_icmp_lt, c_icmp_ge, c_icmp_gt, c_icmp_le, c_if_eq, c_if_ne, c_if_lt, c_if_ge, c_if_gt, c_if_le, c_ifnull, c_ifnonnull, am_swK, c_sw, c_iret, c_zret, c_cret, c_bret, c_lret, c_aret, c_vret, c_getI, c_getR, c_putI, c_putZ, c_putR, c_iald, c_zald, c_cald, c_lald, c_oald, c_gald, c_iast, c_zast, c_cast, c_last, c_oast, c_alen, c_callS0, c_callS1, c_callS2, c_callS3, c_callS4, c_callS5, c_callS6, c_callS7, c_callV0, c_callV1, c_callV2, c_callV3, c_callV4, c_callV5, c_callV6, c_callV7, c_callT0, c_callT1, am_nx_eq, am_set, am_set2, am_clr, am_isL, am_push, am_w, am_ent, am_ent1, List.getElem?_cons_zero, List.getElem?_cons_succ, List.set_cons_zero, List.set_cons_succ, List.getD_cons_zero, List.getD_cons_succ, List.cons_append, List.nil_append, List.append_nil, List.replicate_succ, List.replicate_zero, Nat.reduceAdd, Nat.reduceSub, Nat.reduceLeDiff, Bool.false_eq_true, reduceIte, true_and, and_true, true_or, or_true, or_self, am_i32, am_i64, bz_0, bz_01, bz_em, bz_n0, Classical.not_not, am_cmp_lt0, am_cmp_gt0, am_cmp_eq0, am_cmp_ge0, am_cmp_le0, am_cmp_ne0]
        refine ⟨fun q => nxt _ M1 (fun u => q u.2.2.1) l1 g1 hA1 e6' h55' hL1, fun q => ?_⟩
        have add : ∀ (v : Int) M2, okL D b t k c → v = (if D 16 k = 1 ∨ D 17 k = 1 then 1001 else wth D b t k c 0 0) → LF M0 M2 → CG M2 D R → CA M2 D R → M2 50 6 = R → (∀ j, j < p → M2 55 j = M0 55 j) → LsAt M2 p X → b_Search_listFrom_194 (d + 4) Q 0 0 [vR 50, vI b, vI t, vI p, vI (p + X.length), vI k, vI w, vI y, vI c, x9] [vI v] (am_SH, M2) := by
          intro v M2 ok hv w1 w2 w3 w4 w5 w6
          have hC := w2.P
          have wi := wth_in D b t k c 0 0
          have v1 : 0 ≤ v ∧ v ≤ 2000 := by rw [hv]; split <;> omega
          have en : v * 64 + k * 8 + c = enL D b t k c := by unfold enL; rw [hv]
          rw [eL, if_pos ok] at hX
          have el : p + (X.length : Int) + 1 = p + ((X ++ [enL D b t k c]).length : Nat) := by simp; omega
          refine k_list_add hC v1 (by omega) (by omega) en (by omega) ?_
          rw [el]
          have l2 : LF M0 (am_up M2 55 (p + X.length) (enL D b t k c)) := w1.tr (LF.up _ _ _)
          have l3 := LF.up M2 (p + X.length) (enL D b t k c)
          refine ih (c + 1) (X ++ [enL D b t k c]) _ _ (by omega) (by omega) l2 (w2.lf l3) (w3.lf hR l3) (by rw [am_up_o _ (by decide)]; exact w4) (fun j hj => by rw [am_up_j _ (by omega)]; exact w5 j hj) w6.snoc (by rw [← hX]; simp) ?_
          have cb := ok.1
          simp
          by_cases v : b < c
          · rw [if_pos v] at hl
            rw [if_pos (by omega)]
            omega
          · rw [if_neg v] at hl
            rw [if_neg (by omega)]
            omega
        refine ⟨fun q2 => ?_, fun q2 => k_isGood g1 hE fl.fl a1 ht.1 (by omega) (by omega) (by omega) (by omega) (by omega) (fun M2 r s2 g2 a2 hr => ?_)⟩
        · have vr : D 16 k = 1 ∨ D 17 k = 1 := by
            by_cases u : D 16 k = 1 ∨ D 17 k = 1
            · exact u
            · rw [hy, bz_f u] at q2; exact absurd rfl q2
          simp only [b_Search_listFrom_174, kd_1, kd_2, ln_3, ll_3, kd_46, kd_47, ln_48, ll_48, ln_49, ll_49, kd_50, kd_51, ln_52, ll_52, ln_53, ll_53, ln_54, ll_54, ln_55, ll_55, ln_56, ll_56, ln_57, ll_57, ln_58, ll_58, kd_59, ln_60, ll_60, ln_61, ll_61, ln_62, ll_62, ln_63, ll_63, kd_64, ln_127, ll_127, ln_128, ll_128, ln_129, ll_129, ln_130, ll_130, ln_131, ll_131, ln_132, ll_132, ln_133, ll_133, ln_134, ll_134, kd_135, ln_136, ll_136, pc_1_0 hC, pc_1_3 hC, pc_1_4 hC, pc_1_5 hC, pc_1_6 hC, pc_1_7 hC, pc_1_8 hC, pc_2_0 hC, pc_46_0 hC, pc_50_0 hC, pc_50_1 hC, pc_50_2 hC, pc_50_3 hC, pc_50_4 hC, pc_50_5 hC, pc_64_2 hC, pc_64_3 hC, pc_135_0 hC, am_up_eq, Int.reduceEq, Int.reduceLT, Int.reduceLE, Int.reduceNeg, if_true, if_false, c_const, c_lconst, c_ref, c_iload, c_lload, c_aload, c_istore, c_lstore, c_astore, c_iinc, c_iadd, c_isub, c_imul, c_ladd, c_lsub, c_lmul, c_idiv, c_irem, c_ldiv, c_lrem, c_iand, c_ior, c_ixor, c_ishl, c_ishr, c_ineg, c_i2l, c_l2i, c_i2c, c_lcmp, c_dup, c_pop, c_dup2, c_at, c_icmp_eq, c_icmp_ne, c_icmp_lt, c_icmp_ge, c_icmp_gt, c_icmp_le, c_if_eq, c_if_ne, c_if_lt, c_if_ge, c_if_gt, c_if_le, c_ifnull, c_ifnonnull, am_swK, c_sw, c_iret, c_zret, c_cret, c_bret, c_lret, c_aret, c_vret, c_getI, c_getR, c_putI, c_putZ, c_putR, c_iald, c_zald, c_cald, c_lald, c_oald, c_gald, c_iast, c_zast, c_cast, c_last, c_oast, c_alen, c_callS0, c_callS1, c_callS2, c_callS3, c_callS4, c_callS5, c_callS6, c_callS7, c_callV0, c_callV1, c_callV2, c_callV3, c_callV4, c_callV5, c_callV6, c_callV7, c_callT0, c_callT1, am_nx_eq, am_set, am_set2, am_clr, am_isL, am_push, am_w, am_ent, am_ent1, List.getElem?_cons_zero, List.getElem?_cons_succ, List.set_cons_zero, List.set_cons_succ, List.getD_cons_zero, List.getD_cons_succ, List.cons_append, List.nil_append, List.append_nil, List.replicate_succ, List.replicate_zero, Nat.reduceAdd, Nat.reduceSub, Nat.reduceLeDiff, Bool.false_eq_true, reduceIte, true_and, and_true, true_or, or_true, or_self, am_i32, am_i64, bz_0, bz_01, bz_em, bz_n0, Classical.not_not, am_cmp_lt0, am_cmp_gt0, am_cmp_eq0, am_cmp_ge0, am_cmp_le0, am_cmp_ne0]
          refine ⟨fun u => absurd u q2, fun _ => add _ M1 ⟨fun u => fl.2.2.2 u.symm, zt, q, by rcases vr with v | v <;> simp [v]⟩ (by rw [if_pos vr]) l1 g1 hA1 e6' h55' hL1⟩
        · have nv : ¬ (D 16 k = 1 ∨ D 17 k = 1) := fun u => by rw [hy, bz_t u] at q2; omega
          have r2 := gd_in D b t k c 0 0
          rw [← hr] at r2
          have l2 := l1.tr s2.sc.lf
          have hA2 := hA1.lf hR s2.sc.lf
          have e6'' : M2 50 6 = R := by rw [s2 50 (by decide)]; exact e6'
          have h55'' : ∀ j, j < p → M2 55 j = M0 55 j := fun j hj => by rw [s2 55 (by decide)]; exact h55' j hj
          have hL2 := hL1.fr (M' := M2) (s2 55 (by decide))
          have hC := g2.P
          simp only [b_Search_listFrom_174, b_Search_listFrom_185, kd_1, kd_2, ln_3, ll_3, kd_46, kd_47, ln_48, ll_48, ln_49, ll_49, kd_50, kd_51, ln_52, ll_52, ln_53, ll_53, ln_54, ll_54, ln_55, ll_55, ln_56, ll_56, ln_57, ll_57, ln_58, ll_58, kd_59, ln_60, ll_60, ln_61, ll_61, ln_62, ll_62, ln_63, ll_63, kd_64, ln_127, ll_127, ln_128, ll_128, ln_129, ll_129, ln_130, ll_130, ln_131, ll_131, ln_132, ll_132, ln_133, ll_133, ln_134, ll_134, kd_135, ln_136, ll_136, pc_1_0 hC, pc_1_3 hC, pc_1_4 hC, pc_1_5 hC, pc_1_6 hC, pc_1_7 hC, pc_1_8 hC, pc_2_0 hC, pc_46_0 hC, pc_50_0 hC, pc_50_1 hC, pc_50_2 hC, pc_50_3 hC, pc_50_4 hC, pc_50_5 hC, pc_64_2 hC, pc_64_3 hC, pc_135_0 hC, am_up_eq, Int.reduceEq, Int.reduceLT, Int.reduceLE, Int.reduceNeg, if_true, if_false, c_const, c_lconst, c_ref, c_iload, c_lload, c_aload, c_istore, c_lstore, c_astore, c_iinc, c_iadd, c_isub, c_imul, c_ladd, c_lsub, c_lmul, c_idiv, c_irem, c_ldiv, c_lrem, c_iand, c_ior, c_ixor, c_ishl, c_ishr, c_ineg, c_i2l, c_l2i, c_i2c, c_lcmp, c_dup, c_pop, c_dup2, c_at, c_icmp_eq, c_icmp_ne, c_icmp_lt, c_icmp_ge, c_icmp_gt, c_icmp_le, c_if_eq, c_if_ne, c_if_lt, c_if_ge, c_if_gt, c_if_le, c_ifnull, c_ifnonnull, am_swK, c_sw, c_iret, c_zret, c_cret, c_bret, c_lret, c_aret, c_vret, c_getI, c_getR, c_putI, c_putZ, c_putR, c_iald, c_zald, c_cald, c_lald, c_oald, c_gald, c_iast, c_zast, c_cast, c_last, c_oast, c_alen, c_callS0, c_callS1, c_callS2, c_callS3, c_callS4, c_callS5, c_callS6, c_callS7, c_callV0, c_callV1, c_callV2, c_callV3, c_callV4, c_callV5, c_callV6, c_callV7, c_callT0, c_callT1, am_nx_eq, am_set, am_set2, am_clr, am_isL, am_push, am_w, am_ent, am_ent1, List.getElem?_cons_zero, List.getElem?_cons_succ, List.set_cons_zero, List.set_cons_succ, List.getD_cons_zero, List.getD_cons_succ, List.cons_append, List.nil_append, List.append_nil, List.replicate_succ, List.replicate_zero, Nat.reduceAdd, Nat.reduceSub, Nat.reduceLeDiff, Bool.false_eq_true, reduceIte, true_and, and_true, true_or, or_true, or_self, am_i32, am_i64, bz_0, bz_01, bz_em, bz_n0, Classical.not_not, am_cmp_lt0, am_cmp_gt0, am_cmp_eq0, am_cmp_ge0, am_cmp_le0, am_cmp_ne0]
          refine ⟨fun u => nxt _ M2 (fun v => by have := v.2.2.2; omega) l2 g2 hA2 e6'' h55'' hL2, fun u => ⟨fun _ => k_worthBy g2 hE fl.fl a2 ht.1 (by omega) (by omega) (by omega) (by omega) (by omega) (fun M3 s3 g3 a3 => ?_), fun v => absurd q2 v⟩⟩
          have l3 := l2.tr s3.sc.lf
          simp only [kd_1, kd_2, ln_3, ll_3, kd_46, kd_47, ln_48, ll_48, ln_49, ll_49, kd_50, kd_51, ln_52, ll_52, ln_53, ll_53, ln_54, ll_54, ln_55, ll_55, ln_56, ll_56, ln_57, ll_57, ln_58, ll_58, kd_59, ln_60, ll_60, ln_61, ll_61, ln_62, ll_62, ln_63, ll_63, kd_64, ln_127, ll_127, ln_128, ll_128, ln_129, ll_129, ln_130, ll_130, ln_131, ll_131, ln_132, ll_132, ln_133, ll_133, ln_134, ll_134, kd_135, ln_136, ll_136, pc_1_0 hC, pc_1_3 hC, pc_1_4 hC, pc_1_5 hC, pc_1_6 hC, pc_1_7 hC, pc_1_8 hC, pc_2_0 hC, pc_46_0 hC, pc_50_0 hC, pc_50_1 hC, pc_50_2 hC, pc_50_3 hC, pc_50_4 hC, pc_50_5 hC, pc_64_2 hC, pc_64_3 hC, pc_135_0 hC, am_up_eq, Int.reduceEq, Int.reduceLT, Int.reduceLE, Int.reduceNeg, if_true, if_false, c_const, c_lconst, c_ref, c_iload, c_lload, c_aload, c_istore, c_lstore, c_astore, c_iinc, c_iadd, c_isub, c_imul, c_ladd, c_lsub, c_lmul, c_idiv, c_irem, c_ldiv, c_lrem, c_iand, c_ior, c_ixor, c_ishl, c_ishr, c_ineg, c_i2l, c_l2i, c_i2c, c_lcmp, c_dup, c_pop, c_dup2, c_at, c_icmp_eq, c_icmp_ne, c_icmp_lt, c_icmp_ge, c_icmp_gt, c_icmp_le, c_if_eq, c_if_ne, c_if_lt, c_if_ge, c_if_gt, c_if_le, c_ifnull, c_ifnonnull, am_swK, c_sw, c_iret, c_zret, c_cret, c_bret, c_lret, c_aret, c_vret, c_getI, c_getR, c_putI, c_putZ, c_putR, c_iald, c_zald, c_cald, c_lald, c_oald, c_gald, c_iast, c_zast, c_cast, c_last, c_oast, c_alen, c_callS0, c_callS1, c_callS2, c_callS3, c_callS4, c_callS5, c_callS6, c_callS7, c_callV0, c_callV1, c_callV2, c_callV3, c_callV4, c_callV5, c_callV6, c_callV7, c_callT0, c_callT1, am_nx_eq, am_set, am_set2, am_clr, am_isL, am_push, am_w, am_ent, am_ent1, List.getElem?_cons_zero, List.getElem?_cons_succ, List.set_cons_zero, List.set_cons_succ, List.getD_cons_zero, List.getD_cons_succ, List.cons_append, List.nil_append, List.append_nil, List.replicate_succ, List.replicate_zero, Nat.reduceAdd, Nat.reduceSub, Nat.reduceLeDiff, Bool.false_eq_true, reduceIte, true_and, and_true, true_or, or_true, or_self, am_i32, am_i64, bz_0, bz_01, bz_em, bz_n0, Classical.not_not, am_cmp_lt0, am_cmp_gt0, am_cmp_eq0, am_cmp_ge0, am_cmp_le0, am_cmp_ne0]
          exact add _ M3 ⟨fun u => fl.2.2.2 u.symm, zt, q, Or.inr (Or.inr (by omega))⟩ (by rw [if_neg nv]) l3 g3 (hA2.lf hR s3.sc.lf) (by rw [s3 50 (by decide)]; exact e6'') (fun j hj => by rw [s3 55 (by decide)]; exact h55'' j hj) (hL2.fr (s3 55 (by decide)))
      · simp only [kd_1, kd_2, ln_3, ll_3, kd_46, kd_47, ln_48, ll_48, ln_49, ll_49, kd_50, kd_51, ln_52, ll_52, ln_53, ll_53, ln_54, ll_54, ln_55, ll_55, ln_56, ll_56, ln_57, ll_57, ln_58, ll_58, kd_59, ln_60, ll_60, ln_61, ll_61, ln_62, ll_62, ln_63, ll_63, kd_64, ln_127, ll_127, ln_128, ll_128, ln_129, ll_129, ln_130, ll_130, ln_131, ll_131, ln_132, ll_132, ln_133, ll_133, ln_134, ll_134, kd_135, ln_136, ll_136, pc_1_0 hC, pc_1_3 hC, pc_1_4 hC, pc_1_5 hC, pc_1_6 hC, pc_1_7 hC, pc_1_8 hC, pc_2_0 hC, pc_46_0 hC, pc_50_0 hC, pc_50_1 hC, pc_50_2 hC, pc_50_3 hC, pc_50_4 hC, pc_50_5 hC, pc_64_2 hC, pc_64_3 hC, pc_135_0 hC, am_up_eq, Int.reduceEq, Int.reduceLT, Int.reduceLE, Int.reduceNeg, if_true, if_false, c_const, c_lconst, c_ref, c_iload, c_lload, c_aload, c_istore, c_lstore, c_astore, c_iinc, c_iadd, c_isub, c_imul, c_ladd, c_lsub, c_lmul, c_idiv, c_irem, c_ldiv, c_lrem, c_iand, c_ior, c_ixor, c_ishl, c_ishr, c_ineg, c_i2l, c_l2i, c_i2c, c_lcmp, c_dup, c_pop, c_dup2, c_at, c_icmp_eq, c_icmp_ne, c_icmp_lt, c_icmp_ge, c_icmp_gt, c_icmp_le, c_if_eq, c_if_ne, c_if_lt, c_if_ge, c_if_gt, c_if_le, c_ifnull, c_ifnonnull, am_swK, c_sw, c_iret, c_zret, c_cret, c_bret, c_lret, c_aret, c_vret, c_getI, c_getR, c_putI, c_putZ, c_putR, c_iald, c_zald, c_cald, c_lald, c_oald, c_gald, c_iast, c_zast, c_cast, c_last, c_oast, c_alen, c_callS0, c_callS1, c_callS2, c_callS3, c_callS4, c_callS5, c_callS6, c_callS7, c_callV0, c_callV1, c_callV2, c_callV3, c_callV4, c_callV5, c_callV6, c_callV7, c_callT0, c_callT1, am_nx_eq, am_set, am_set2, am_clr, am_isL, am_push, am_w, am_ent, am_ent1, List.getElem?_cons_zero, List.getElem?_cons_succ, List.set_cons_zero, List.set_cons_succ, List.getD_cons_zero, List.getD_cons_succ, List.cons_append, List.nil_append, List.append_nil, List.replicate_succ, List.replicate_zero, Nat.reduceAdd, Nat.reduceSub, Nat.reduceLeDiff, Bool.false_eq_true, reduceIte, true_and, and_true, true_or, or_true, or_self, am_i32, am_i64, bz_0, bz_01, bz_em, bz_n0, Classical.not_not, am_cmp_lt0, am_cmp_gt0, am_cmp_eq0, am_cmp_ge0, am_cmp_le0, am_cmp_ne0]
        try simp only [Int.reduceEq, Int.reduceLT, Int.reduceLE, Int.reduceNeg, not_true_eq_false, not_false_eq_true, false_implies, true_implies, implies_true, true_and, and_true]
        refine nxt _ M (fun u => fl ⟨hb, hk, ⟨hc, by omega⟩, fun v => u.1 v.symm⟩) hs hG hA e6 h55 hL
end
