/-! the constructors -/
section
variable {M M0 : Int → Int → Int} {d : Nat} {Q : AV → am_S → Prop} {st : am_S} {k : Nat} {l : List (Int × Int × Int)} {nx J : am_K} {rc rs rc' rs' : Nat} {ls r stk : List AV} {o i v x : Int} {kc N : Nat}
/-- what the writes leave in a store of zeros -/
def wr : List (Int × Int × Int) → Int → Int → Int
  | [], _, _ => 0
  | w :: t, a, b => if a = w.1 then (if b = w.2.1 then w.2.2 else wr t a b) else wr t a b
/-- the store while it is built: k objects, the writes l -/
def CS (k : Nat) (l : List (Int × Int × Int)) (M0 : Int → Int → Int) (st : am_S) : Prop := st.1 = am_SH.take k ∧ (∀ a b, 1 ≤ a → a ≤ (k : Int) → st.2 a b = wr l a b) ∧ (∀ a, a < 1 → st.2 a = M0 a) ∧ (∀ a b, (k : Int) < a → wr l a b = 0) ∧ k ≤ 191
theorem CS.len (h : CS k l M0 st) : st.1.length = k := by
  rw [h.1, List.length_take, show am_SH.length = 191 from rfl]
  have := h.2.2.2.2
  omega
theorem CS.at9 (h : CS k l M0 st) (h2 : o ≤ (k : Int)) : am_at st.1 o = am_at am_SH o := by
  unfold am_at
  by_cases e : 1 ≤ o
  · rw [if_pos e, if_pos e, h.1, List.getElem?_take, if_pos (by omega)]
  · rw [if_neg e, if_neg e]
theorem CS.kd (h : CS k l M0 st) (h2 : o ≤ (k : Int)) : am_kd st.1 o = am_kd am_SH o := by
  unfold am_kd; rw [h.at9 h2]
theorem CS.ln (h : CS k l M0 st) (h2 : o ≤ (k : Int)) : am_ln st.1 o kc = am_ln am_SH o kc := by
  unfold am_ln; rw [h.at9 h2]
theorem CS.up (h : CS k l M0 st) (h1 : 1 ≤ o) (h2 : o ≤ (k : Int)) : CS k ((o, i, v) :: l) M0 (st.1, am_up st.2 o i v) := by
  refine ⟨h.1, fun a b a1 a2 => ?_, fun a a1 => ?_, fun a b a1 => ?_, h.2.2.2.2⟩
  · show am_up st.2 o i v a b = _
    unfold am_up wr
    rw [h.2.1 a b a1 a2]
  · rw [← h.2.2.1 a a1]
    exact am_up_o st.2 (by omega)
  · unfold wr
    rw [if_neg (by show ¬ a = o; omega)]
    exact h.2.2.2.1 a b a1
theorem CS.new (h : CS k l M0 st) (e : am_SH[k]? = some (kc, N)) (hk : k < 191) : CS (k + 1) l M0 (am_new st kc N) := by
  refine ⟨?_, fun a b a1 a2 => ?_, fun a a1 => ?_, fun a b a1 => h.2.2.2.1 a b (by omega), by omega⟩
  · show st.1 ++ [(kc, N)] = _
    rw [h.1, List.take_succ, e]; rfl
  · show (if a = (st.1.length : Int) + 1 then 0 else st.2 a b) = _
    rw [h.len]
    by_cases z : a = (k : Int) + 1
    · rw [if_pos z, h.2.2.2.1 a b (by omega)]
    · rw [if_neg z, h.2.1 a b a1 (by omega)]
  · funext b
    show (if a = (st.1.length : Int) + 1 then 0 else st.2 a b) = _
    rw [if_neg (by omega), h.2.2.1 a a1]
theorem CS.newM (h : CS 126 l M0 st) : CS 133 ((127, 0, 128) :: (127, 1, 129) :: (127, 2, 130) :: (127, 3, 131) :: (127, 4, 132) :: (127, 5, 133) :: l) M0 (am_newM st 6 81) := by
  have hl := h.len
  refine ⟨?_, fun a b a1 a2 => ?_, fun a a1 => ?_, fun a b a1 => ?_, by decide⟩
  · show st.1 ++ [(25, 6)] ++ List.replicate 6 (20, 81) = _
    rw [h.1]; rfl
  · show (if a = (st.1.length : Int) + 1 then (if 0 ≤ b ∧ b < ((6 : Nat) : Int) then (st.1.length : Int) + 2 + b else 0) else if (st.1.length : Int) + 1 < a ∧ a ≤ (st.1.length : Int) + 1 + ((6 : Nat) : Int) then 0 else st.2 a b) = _
    rw [hl]
    simp only [wr]
    by_cases z : a = 127
    · rw [if_pos (show a = ((126 : Nat) : Int) + 1 by omega), h.2.2.2.1 a b (by omega)]
      simp only [z, if_true]
      repeat' split
      all_goals omega
    · rw [if_neg (show ¬ a = ((126 : Nat) : Int) + 1 by omega)]
      simp only [z, if_false]
      split
      · exact (h.2.2.2.1 a b (by omega)).symm
      · exact h.2.1 a b a1 (by omega)
  · funext b
    show (if a = (st.1.length : Int) + 1 then (if 0 ≤ b ∧ b < ((6 : Nat) : Int) then (st.1.length : Int) + 2 + b else 0) else if (st.1.length : Int) + 1 < a ∧ a ≤ (st.1.length : Int) + 1 + ((6 : Nat) : Int) then 0 else st.2 a b) = _
    rw [if_neg (by omega), if_neg (by omega), h.2.2.1 a a1]
  · have : ¬ a = 127 := by omega
    simp only [wr, this, if_false]
    exact h.2.2.2.1 a b (by omega)
theorem q_aload {j : Nat} (e : ls[j]? = some (vR x)) (h : nx rc rs ls (vR x :: stk) st) : c_aload j nx rc rs ls stk st := by unfold c_aload; rw [e]; exact h
theorem q_iload {j : Nat} (e : ls[j]? = some (vI x)) (h : nx rc rs ls (vI x :: stk) st) : c_iload j nx rc rs ls stk st := by unfold c_iload; rw [e]; exact h
theorem q_dup (h : nx rc rs ls (vR x :: vR x :: stk) st) : c_dup nx rc rs ls (vR x :: stk) st := h
theorem q_const (h : nx rc rs ls (vI x :: stk) st) : c_const x nx rc rs ls stk st := h
theorem q_oini (c : CS k l M0 st) (h2 : o ≤ (k : Int)) (hk : am_kd am_SH o < 13) (hw : am_w r ≤ 8) (h : nx rc rs ls r st) : c_oini nx rc rs ls (vR o :: r) st := ⟨by rw [c.kd h2]; exact hk, hw, h⟩
theorem q_putR (c : CS k l M0 st) (h1 : 1 ≤ o) (h2 : o ≤ (k : Int)) (hk : am_kd am_SH o = kc) (h : ∀ st, CS k ((o, i, v) :: l) M0 st → nx rc rs ls r st) : c_putR kc i nx rc rs ls (vR v :: vR o :: r) st := ⟨by rw [c.kd h2]; exact hk, h _ (c.up h1 h2)⟩
theorem q_putI (c : CS k l M0 st) (h1 : 1 ≤ o) (h2 : o ≤ (k : Int)) (hk : am_kd am_SH o = kc) (h : ∀ st, CS k ((o, i, v) :: l) M0 st → nx rc rs ls r st) : c_putI kc i nx rc rs ls (vI v :: vR o :: r) st := ⟨by rw [c.kd h2]; exact hk, h _ (c.up h1 h2)⟩
theorem q_cast (c : CS k l M0 st) (h1 : 1 ≤ o) (h2 : o ≤ (k : Int)) (i0 : 0 ≤ i) (hk : i < am_ln am_SH o 23) (hv : 0 ≤ v ∧ v < 65536) (h : ∀ st, CS k ((o, i, v) :: l) M0 st → nx rc rs ls r st) : c_cast nx rc rs ls (vI v :: vI i :: vR o :: r) st := ⟨i0, by rw [c.ln h2]; exact hk, hv, h _ (c.up h1 h2)⟩
theorem q_oast (c : CS k l M0 st) (h1 : 1 ≤ o) (h2 : o ≤ (k : Int)) (h3 : v ≤ (k : Int)) (i0 : 0 ≤ i) (hk : i < am_ln am_SH o 24) (hv : am_kd am_SH v = 0) (h : ∀ st, CS k ((o, i, v) :: l) M0 st → nx rc rs ls r st) : c_oast nx rc rs ls (vR v :: vI i :: vR o :: r) st := ⟨i0, by rw [c.ln h2]; exact hk, by rw [c.kd h3]; exact hv, h _ (c.up h1 h2)⟩
theorem q_getR (c : CS k l M0 st) (h1 : 1 ≤ o) (h2 : o ≤ (k : Int)) (hk : am_kd am_SH o = kc) (e : wr l o i = v) (h : nx rc rs ls (vR v :: r) st) : c_getR kc i nx rc rs ls (vR o :: r) st := ⟨by rw [c.kd h2]; exact hk, by rw [c.2.1 o i h1 h2, e]; exact h⟩
theorem q_new (c : CS k l M0 st) (e : am_SH[k]? = some (kc, N)) (hk : k < 191) (eo : o = (k : Int) + 1) (e1 : rc = rc' + 1) (e2 : rs = rs' + N) (h : ∀ st, CS (k + 1) l M0 st → nx rc' rs' ls (vR o :: stk) st) : c_new kc N nx rc rs ls stk st := by
  unfold c_new
  rw [c.len, e1, e2, ← eo]
  exact ⟨by omega, by omega, by rw [Nat.add_sub_cancel, Nat.add_sub_cancel]; exact h _ (c.new e hk)⟩
theorem q_newa_int (c : CS k l M0 st) (e : am_SH[k]? = some (20, N)) (hk : k < 191) (eo : o = (k : Int) + 1) (e1 : rc = rc' + 1) (e2 : rs = rs' + N) (hx : x = (N : Int)) (hN : N ≤ 100000) (h : ∀ st, CS (k + 1) l M0 st → nx rc' rs' ls (vR o :: stk) st) : c_newa_int nx rc rs ls (vI x :: stk) st := by
  have := h _ (c.new e hk)
  unfold c_newa_int
  show 0 ≤ x ∧ x ≤ 100000 ∧ 1 ≤ rc ∧ x.toNat ≤ rs ∧ nx (rc - 1) (rs - x.toNat) ls (vR ((st.1.length : Int) + 1) :: stk) (am_new st 20 x.toNat)
  rw [c.len, e1, e2, ← eo, show x.toNat = N by omega, Nat.add_sub_cancel, Nat.add_sub_cancel]
  exact ⟨by omega, by omega, by omega, by omega, this⟩
theorem q_newa_long (c : CS k l M0 st) (e : am_SH[k]? = some (21, N)) (hk : k < 191) (eo : o = (k : Int) + 1) (e1 : rc = rc' + 1) (e2 : rs = rs' + N) (hx : x = (N : Int)) (hN : N ≤ 100000) (h : ∀ st, CS (k + 1) l M0 st → nx rc' rs' ls (vR o :: stk) st) : c_newa_long nx rc rs ls (vI x :: stk) st := by
  have := h _ (c.new e hk)
  unfold c_newa_long
  show 0 ≤ x ∧ x ≤ 100000 ∧ 1 ≤ rc ∧ x.toNat ≤ rs ∧ nx (rc - 1) (rs - x.toNat) ls (vR ((st.1.length : Int) + 1) :: stk) (am_new st 21 x.toNat)
  rw [c.len, e1, e2, ← eo, show x.toNat = N by omega, Nat.add_sub_cancel, Nat.add_sub_cancel]
  exact ⟨by omega, by omega, by omega, by omega, this⟩
theorem q_newa_bool (c : CS k l M0 st) (e : am_SH[k]? = some (22, N)) (hk : k < 191) (eo : o = (k : Int) + 1) (e1 : rc = rc' + 1) (e2 : rs = rs' + N) (hx : x = (N : Int)) (hN : N ≤ 100000) (h : ∀ st, CS (k + 1) l M0 st → nx rc' rs' ls (vR o :: stk) st) : c_newa_bool nx rc rs ls (vI x :: stk) st := by
  have := h _ (c.new e hk)
  unfold c_newa_bool
  show 0 ≤ x ∧ x ≤ 100000 ∧ 1 ≤ rc ∧ x.toNat ≤ rs ∧ nx (rc - 1) (rs - x.toNat) ls (vR ((st.1.length : Int) + 1) :: stk) (am_new st 22 x.toNat)
  rw [c.len, e1, e2, ← eo, show x.toNat = N by omega, Nat.add_sub_cancel, Nat.add_sub_cancel]
  exact ⟨by omega, by omega, by omega, by omega, this⟩
theorem q_newa_char (c : CS k l M0 st) (e : am_SH[k]? = some (23, N)) (hk : k < 191) (eo : o = (k : Int) + 1) (e1 : rc = rc' + 1) (e2 : rs = rs' + N) (hx : x = (N : Int)) (hN : N ≤ 100000) (h : ∀ st, CS (k + 1) l M0 st → nx rc' rs' ls (vR o :: stk) st) : c_newa_char nx rc rs ls (vI x :: stk) st := by
  have := h _ (c.new e hk)
  unfold c_newa_char
  show 0 ≤ x ∧ x ≤ 100000 ∧ 1 ≤ rc ∧ x.toNat ≤ rs ∧ nx (rc - 1) (rs - x.toNat) ls (vR ((st.1.length : Int) + 1) :: stk) (am_new st 23 x.toNat)
  rw [c.len, e1, e2, ← eo, show x.toNat = N by omega, Nat.add_sub_cancel, Nat.add_sub_cancel]
  exact ⟨by omega, by omega, by omega, by omega, this⟩
theorem q_newq (c : CS k l M0 st) (e : am_SH[k]? = some (24, N)) (hk : k < 191) (eo : o = (k : Int) + 1) (e1 : rc = rc' + 1) (e2 : rs = rs' + N) (hx : x = (N : Int)) (hN : N ≤ 100000) (h : ∀ st, CS (k + 1) l M0 st → nx rc' rs' ls (vR o :: stk) st) : c_newq nx rc rs ls (vI x :: stk) st := by
  have := h _ (c.new e hk)
  unfold c_newq
  show 0 ≤ x ∧ x ≤ 100000 ∧ 1 ≤ rc ∧ x.toNat ≤ rs ∧ nx (rc - 1) (rs - x.toNat) ls (vR ((st.1.length : Int) + 1) :: stk) (am_new st 24 x.toNat)
  rw [c.len, e1, e2, ← eo, show x.toNat = N by omega, Nat.add_sub_cancel, Nat.add_sub_cancel]
  exact ⟨by omega, by omega, by omega, by omega, this⟩
theorem q_mna (c : CS 126 l M0 st) (e1 : rc = rc' + 7) (e2 : rs = rs' + 492) (h : ∀ st, CS 133 ((127, 0, 128) :: (127, 1, 129) :: (127, 2, 130) :: (127, 3, 131) :: (127, 4, 132) :: (127, 5, 133) :: l) M0 st → nx rc' rs' ls (vR 127 :: stk) st) : c_mna nx rc rs ls (vI 81 :: vI 6 :: stk) st := by
  have := h _ c.newM
  have e3 : ((st.1.length : Nat) : Int) + 1 = 127 := by rw [c.len]; rfl
  show (0 ≤ (6 : Int) ∧ (6 : Int) ≤ 10000 ∧ 0 ≤ (81 : Int) ∧ (81 : Int) ≤ 10000) ∧ 7 ≤ rc ∧ 492 ≤ rs ∧ nx (rc - 7) (rs - 492) ls (vR ((st.1.length : Int) + 1) :: stk) (am_newM st 6 81)
  rw [e1, e2, e3, Nat.add_sub_cancel, Nat.add_sub_cancel]
  exact ⟨by decide, by omega, by omega, this⟩
theorem q_astore {j : Nat} (h : nx rc rs (am_set ls j (vR x)) r st) : c_astore j nx rc rs ls (vR x :: r) st := h
theorem q_istore {j : Nat} (h : nx rc rs (am_set ls j (vI x)) r st) : c_istore j nx rc rs ls (vI x :: r) st := h
theorem q_iinc {j : Nat} {n : Int} (e : ls[j]? = some (vI x)) (hx : am_i32 (x + n)) (ev : v = x + n) (h : nx rc rs (am_set ls j (vI v)) stk st) : c_iinc j n nx rc rs ls stk st := by
  unfold c_iinc; rw [e]; subst ev; exact ⟨hx, h⟩
theorem q_lt {a b : Int} (e : ¬ b ≤ a) (h : nx rc rs ls r st) : c_icmp_ge J nx rc rs ls (vI b :: vI a :: r) st := ⟨fun w => absurd w e, fun _ => h⟩
theorem q_ge {a b : Int} (e : b ≤ a) (h : J rc rs ls r st) : c_icmp_ge J nx rc rs ls (vI b :: vI a :: r) st := ⟨fun _ => h, fun w => absurd e w⟩
theorem q_vret (h : Q none st) : c_vret Q rc rs ls [] st := h
theorem q_aret (h : Q (vR x) st) : c_aret Q rc rs ls [vR x] st := h
theorem q_callI0 {y : am_M} {mc ms : Nat} (c : CS k l M0 st) (h2 : o ≤ (k : Int)) (hk : am_kd am_SH o < 13) (hw : am_w r ≤ 8) (e1 : rc = rc' + mc) (e2 : rs = rs' + ms) (h : am_Call d y mc ms [vR o] st (am_nx nx rc' rs' ls r)) : c_callI0 d y mc ms nx rc rs ls (vR o :: r) st := by
  refine ⟨by rw [c.kd h2]; exact hk, hw, by omega, by omega, ?_⟩
  rw [e1, e2, Nat.add_sub_cancel, Nat.add_sub_cancel]; exact h
theorem q_callI1 {y : am_M} {mc ms : Nat} {a0 : AV} (c : CS k l M0 st) (h2 : o ≤ (k : Int)) (hk : am_kd am_SH o < 13) (hw : am_w r ≤ 8) (e1 : rc = rc' + mc) (e2 : rs = rs' + ms) (h : am_Call d y mc ms [vR o, a0] st (am_nx nx rc' rs' ls r)) : c_callI1 d y mc ms nx rc rs ls (a0 :: vR o :: r) st := by
  refine ⟨by rw [c.kd h2]; exact hk, hw, by omega, by omega, ?_⟩
  rw [e1, e2, Nat.add_sub_cancel, Nat.add_sub_cancel]; exact h
theorem q_callI2 {y : am_M} {mc ms : Nat} {a0 a1 : AV} (c : CS k l M0 st) (h2 : o ≤ (k : Int)) (hk : am_kd am_SH o < 13) (hw : am_w r ≤ 8) (e1 : rc = rc' + mc) (e2 : rs = rs' + ms) (h : am_Call d y mc ms [vR o, a0, a1] st (am_nx nx rc' rs' ls r)) : c_callI2 d y mc ms nx rc rs ls (a1 :: a0 :: vR o :: r) st := by
  refine ⟨by rw [c.kd h2]; exact hk, hw, by omega, by omega, ?_⟩
  rw [e1, e2, Nat.add_sub_cancel, Nat.add_sub_cancel]; exact h
theorem q_callA {y : am_M} {mc ms : Nat} (hw : am_w r ≤ 8) (e1 : rc = rc' + mc) (e2 : rs = rs' + ms) (h : am_Call d y mc ms [] st (am_nx nx rc' rs' ls r)) : c_callA d y mc ms nx rc rs ls r st := by
  refine ⟨hw, by omega, by omega, ?_⟩
  rw [e1, e2, Nat.add_sub_cancel, Nat.add_sub_cancel]; exact h
theorem z_Tape_2 (c : CS 2 l M0 st) (h : ∀ st, CS 3 ((2, 0, 3) :: l) M0 st → Q none st) : am_Call (d + 5) m_Tape_init 1 900 [vR 2] st Q := by
  refine am_go B_Tape_init_0 rfl (Nat.le_of_ble_eq_true rfl) ?_
  unfold b_Tape_init_0
  refine q_aload (x := 2) rfl ?_
  refine q_oini c (by decide) (by decide) (by decide) ?_
  refine q_aload (x := 2) rfl ?_
  refine q_const ?_
  refine q_newa_int (o := 3) (N := 900) (rc' := 0) (rs' := 0) c rfl (by decide) rfl rfl rfl rfl (by decide) (fun st c => ?_)
  refine q_putR c (by decide) (by decide) rfl (fun st c => ?_)
  exact h _ c
theorem z_Bars_5 (c : CS 5 l M0 st) (h : ∀ st, CS 11 ((5, 5, 11) :: (5, 4, 10) :: (5, 3, 9) :: (5, 2, 8) :: (5, 1, 7) :: (5, 0, 6) :: l) M0 st → Q none st) : am_Call (d + 4) m_Bars_init 6 48 [vR 5] st Q := by
  refine am_go B_Bars_init_0 rfl (Nat.le_of_ble_eq_true rfl) ?_
  unfold b_Bars_init_0
  refine q_aload (x := 5) rfl ?_
  refine q_oini c (by decide) (by decide) (by decide) ?_
  refine q_aload (x := 5) rfl ?_
  refine q_const ?_
  refine q_newa_int (o := 6) (N := 8) (rc' := 5) (rs' := 40) c rfl (by decide) rfl rfl rfl rfl (by decide) (fun st c => ?_)
  refine q_putR c (by decide) (by decide) rfl (fun st c => ?_)
  refine q_aload (x := 5) rfl ?_
  refine q_const ?_
  refine q_newa_int (o := 7) (N := 8) (rc' := 4) (rs' := 32) c rfl (by decide) rfl rfl rfl rfl (by decide) (fun st c => ?_)
  refine q_putR c (by decide) (by decide) rfl (fun st c => ?_)
  refine q_aload (x := 5) rfl ?_
  refine q_const ?_
  refine q_newa_int (o := 8) (N := 8) (rc' := 3) (rs' := 24) c rfl (by decide) rfl rfl rfl rfl (by decide) (fun st c => ?_)
  refine q_putR c (by decide) (by decide) rfl (fun st c => ?_)
  refine q_aload (x := 5) rfl ?_
  refine q_const ?_
  refine q_newa_int (o := 9) (N := 8) (rc' := 2) (rs' := 16) c rfl (by decide) rfl rfl rfl rfl (by decide) (fun st c => ?_)
  refine q_putR c (by decide) (by decide) rfl (fun st c => ?_)
  refine q_aload (x := 5) rfl ?_
  refine q_const ?_
  refine q_newa_int (o := 10) (N := 8) (rc' := 1) (rs' := 8) c rfl (by decide) rfl rfl rfl rfl (by decide) (fun st c => ?_)
  refine q_putR c (by decide) (by decide) rfl (fun st c => ?_)
  refine q_aload (x := 5) rfl ?_
  refine q_const ?_
  refine q_newa_bool (o := 11) (N := 8) (rc' := 0) (rs' := 0) c rfl (by decide) rfl rfl rfl rfl (by decide) (fun st c => ?_)
  refine q_putR c (by decide) (by decide) rfl (fun st c => ?_)
  exact h _ c
theorem z_Boards_12 (c : CS 12 l M0 st) (h : ∀ st, CS 14 ((12, 1, 14) :: (12, 0, 13) :: l) M0 st → Q none st) : am_Call (d + 4) m_Boards_init 2 8 [vR 12] st Q := by
  refine am_go B_Boards_init_0 rfl (Nat.le_of_ble_eq_true rfl) ?_
  unfold b_Boards_init_0
  refine q_aload (x := 12) rfl ?_
  refine q_oini c (by decide) (by decide) (by decide) ?_
  refine q_aload (x := 12) rfl ?_
  refine q_const ?_
  refine q_newa_int (o := 13) (N := 4) (rc' := 1) (rs' := 4) c rfl (by decide) rfl rfl rfl rfl (by decide) (fun st c => ?_)
  refine q_putR c (by decide) (by decide) rfl (fun st c => ?_)
  refine q_aload (x := 12) rfl ?_
  refine q_const ?_
  refine q_newa_int (o := 14) (N := 4) (rc' := 0) (rs' := 0) c rfl (by decide) rfl rfl rfl rfl (by decide) (fun st c => ?_)
  refine q_putR c (by decide) (by decide) rfl (fun st c => ?_)
  exact h _ c
theorem z_Tricks_15 (c : CS 15 l M0 st) (h : ∀ st, CS 24 ((15, 8, 24) :: (15, 7, 23) :: (15, 6, 22) :: (15, 5, 21) :: (15, 4, 20) :: (15, 3, 19) :: (15, 2, 18) :: (15, 1, 17) :: (15, 0, 16) :: l) M0 st → Q none st) : am_Call (d + 4) m_Tricks_init 9 964 [vR 15] st Q := by
  refine am_go B_Tricks_init_0 rfl (Nat.le_of_ble_eq_true rfl) ?_
  unfold b_Tricks_init_0
  refine q_aload (x := 15) rfl ?_
  refine q_oini c (by decide) (by decide) (by decide) ?_
  refine q_aload (x := 15) rfl ?_
  refine q_const ?_
  refine q_newa_int (o := 16) (N := 8) (rc' := 8) (rs' := 956) c rfl (by decide) rfl rfl rfl rfl (by decide) (fun st c => ?_)
  refine q_putR c (by decide) (by decide) rfl (fun st c => ?_)
  refine q_aload (x := 15) rfl ?_
  refine q_const ?_
  refine q_newa_int (o := 17) (N := 8) (rc' := 7) (rs' := 948) c rfl (by decide) rfl rfl rfl rfl (by decide) (fun st c => ?_)
  refine q_putR c (by decide) (by decide) rfl (fun st c => ?_)
  refine q_aload (x := 15) rfl ?_
  refine q_const ?_
  refine q_newa_int (o := 18) (N := 8) (rc' := 6) (rs' := 940) c rfl (by decide) rfl rfl rfl rfl (by decide) (fun st c => ?_)
  refine q_putR c (by decide) (by decide) rfl (fun st c => ?_)
  refine q_aload (x := 15) rfl ?_
  refine q_const ?_
  refine q_newa_int (o := 19) (N := 8) (rc' := 5) (rs' := 932) c rfl (by decide) rfl rfl rfl rfl (by decide) (fun st c => ?_)
  refine q_putR c (by decide) (by decide) rfl (fun st c => ?_)
  refine q_aload (x := 15) rfl ?_
  refine q_const ?_
  refine q_newa_int (o := 20) (N := 8) (rc' := 4) (rs' := 924) c rfl (by decide) rfl rfl rfl rfl (by decide) (fun st c => ?_)
  refine q_putR c (by decide) (by decide) rfl (fun st c => ?_)
  refine q_aload (x := 15) rfl ?_
  refine q_const ?_
  refine q_newa_int (o := 21) (N := 8) (rc' := 3) (rs' := 916) c rfl (by decide) rfl rfl rfl rfl (by decide) (fun st c => ?_)
  refine q_putR c (by decide) (by decide) rfl (fun st c => ?_)
  refine q_aload (x := 15) rfl ?_
  refine q_const ?_
  refine q_newa_bool (o := 22) (N := 8) (rc' := 2) (rs' := 908) c rfl (by decide) rfl rfl rfl rfl (by decide) (fun st c => ?_)
  refine q_putR c (by decide) (by decide) rfl (fun st c => ?_)
  refine q_aload (x := 15) rfl ?_
  refine q_const ?_
  refine q_newa_bool (o := 23) (N := 8) (rc' := 1) (rs' := 900) c rfl (by decide) rfl rfl rfl rfl (by decide) (fun st c => ?_)
  refine q_putR c (by decide) (by decide) rfl (fun st c => ?_)
  refine q_aload (x := 15) rfl ?_
  refine q_const ?_
  refine q_newa_int (o := 24) (N := 900) (rc' := 0) (rs' := 0) c rfl (by decide) rfl rfl rfl rfl (by decide) (fun st c => ?_)
  refine q_putR c (by decide) (by decide) rfl (fun st c => ?_)
  exact h _ c
theorem z_Rig_4 (c : CS 4 l M0 st) (h : ∀ st, CS 24 ((4, 2, 15) :: (15, 8, 24) :: (15, 7, 23) :: (15, 6, 22) :: (15, 5, 21) :: (15, 4, 20) :: (15, 3, 19) :: (15, 2, 18) :: (15, 1, 17) :: (15, 0, 16) :: (4, 1, 12) :: (12, 1, 14) :: (12, 0, 13) :: (4, 0, 5) :: (5, 5, 11) :: (5, 4, 10) :: (5, 3, 9) :: (5, 2, 8) :: (5, 1, 7) :: (5, 0, 6) :: l) M0 st → Q none st) : am_Call (d + 5) m_Rig_init 20 1041 [vR 4] st Q := by
  refine am_go B_Rig_init_0 rfl (Nat.le_of_ble_eq_true rfl) ?_
  unfold b_Rig_init_0
  refine q_aload (x := 4) rfl ?_
  refine q_oini c (by decide) (by decide) (by decide) ?_
  refine q_aload (x := 4) rfl ?_
  refine q_new (o := 5) (rc' := 19) (rs' := 1034) c rfl (by decide) rfl rfl rfl (fun st c => ?_)
  refine q_dup ?_
  refine q_callI0 (rc' := 13) (rs' := 986) c (by decide) (by decide) (by decide) rfl rfl (z_Bars_5 c (fun st c => ?_))
  unfold am_nx am_push
  dsimp only
  refine q_putR c (by decide) (by decide) rfl (fun st c => ?_)
  refine q_aload (x := 4) rfl ?_
  refine q_new (o := 12) (rc' := 12) (rs' := 983) c rfl (by decide) rfl rfl rfl (fun st c => ?_)
  refine q_dup ?_
  refine q_callI0 (rc' := 10) (rs' := 975) c (by decide) (by decide) (by decide) rfl rfl (z_Boards_12 c (fun st c => ?_))
  unfold am_nx am_push
  dsimp only
  refine q_putR c (by decide) (by decide) rfl (fun st c => ?_)
  refine q_aload (x := 4) rfl ?_
  refine q_new (o := 15) (rc' := 9) (rs' := 964) c rfl (by decide) rfl rfl rfl (fun st c => ?_)
  refine q_dup ?_
  refine q_callI0 (rc' := 0) (rs' := 0) c (by decide) (by decide) (by decide) rfl rfl (z_Tricks_15 c (fun st c => ?_))
  unfold am_nx am_push
  dsimp only
  refine q_putR c (by decide) (by decide) rfl (fun st c => ?_)
  exact h _ c
theorem z_Bars_26 (c : CS 26 l M0 st) (h : ∀ st, CS 32 ((26, 5, 32) :: (26, 4, 31) :: (26, 3, 30) :: (26, 2, 29) :: (26, 1, 28) :: (26, 0, 27) :: l) M0 st → Q none st) : am_Call (d + 4) m_Bars_init 6 48 [vR 26] st Q := by
  refine am_go B_Bars_init_0 rfl (Nat.le_of_ble_eq_true rfl) ?_
  unfold b_Bars_init_0
  refine q_aload (x := 26) rfl ?_
  refine q_oini c (by decide) (by decide) (by decide) ?_
  refine q_aload (x := 26) rfl ?_
  refine q_const ?_
  refine q_newa_int (o := 27) (N := 8) (rc' := 5) (rs' := 40) c rfl (by decide) rfl rfl rfl rfl (by decide) (fun st c => ?_)
  refine q_putR c (by decide) (by decide) rfl (fun st c => ?_)
  refine q_aload (x := 26) rfl ?_
  refine q_const ?_
  refine q_newa_int (o := 28) (N := 8) (rc' := 4) (rs' := 32) c rfl (by decide) rfl rfl rfl rfl (by decide) (fun st c => ?_)
  refine q_putR c (by decide) (by decide) rfl (fun st c => ?_)
  refine q_aload (x := 26) rfl ?_
  refine q_const ?_
  refine q_newa_int (o := 29) (N := 8) (rc' := 3) (rs' := 24) c rfl (by decide) rfl rfl rfl rfl (by decide) (fun st c => ?_)
  refine q_putR c (by decide) (by decide) rfl (fun st c => ?_)
  refine q_aload (x := 26) rfl ?_
  refine q_const ?_
  refine q_newa_int (o := 30) (N := 8) (rc' := 2) (rs' := 16) c rfl (by decide) rfl rfl rfl rfl (by decide) (fun st c => ?_)
  refine q_putR c (by decide) (by decide) rfl (fun st c => ?_)
  refine q_aload (x := 26) rfl ?_
  refine q_const ?_
  refine q_newa_int (o := 31) (N := 8) (rc' := 1) (rs' := 8) c rfl (by decide) rfl rfl rfl rfl (by decide) (fun st c => ?_)
  refine q_putR c (by decide) (by decide) rfl (fun st c => ?_)
  refine q_aload (x := 26) rfl ?_
  refine q_const ?_
  refine q_newa_bool (o := 32) (N := 8) (rc' := 0) (rs' := 0) c rfl (by decide) rfl rfl rfl rfl (by decide) (fun st c => ?_)
  refine q_putR c (by decide) (by decide) rfl (fun st c => ?_)
  exact h _ c
theorem z_Boards_33 (c : CS 33 l M0 st) (h : ∀ st, CS 35 ((33, 1, 35) :: (33, 0, 34) :: l) M0 st → Q none st) : am_Call (d + 4) m_Boards_init 2 8 [vR 33] st Q := by
  refine am_go B_Boards_init_0 rfl (Nat.le_of_ble_eq_true rfl) ?_
  unfold b_Boards_init_0
  refine q_aload (x := 33) rfl ?_
  refine q_oini c (by decide) (by decide) (by decide) ?_
  refine q_aload (x := 33) rfl ?_
  refine q_const ?_
  refine q_newa_int (o := 34) (N := 4) (rc' := 1) (rs' := 4) c rfl (by decide) rfl rfl rfl rfl (by decide) (fun st c => ?_)
  refine q_putR c (by decide) (by decide) rfl (fun st c => ?_)
  refine q_aload (x := 33) rfl ?_
  refine q_const ?_
  refine q_newa_int (o := 35) (N := 4) (rc' := 0) (rs' := 0) c rfl (by decide) rfl rfl rfl rfl (by decide) (fun st c => ?_)
  refine q_putR c (by decide) (by decide) rfl (fun st c => ?_)
  exact h _ c
theorem z_Tricks_36 (c : CS 36 l M0 st) (h : ∀ st, CS 45 ((36, 8, 45) :: (36, 7, 44) :: (36, 6, 43) :: (36, 5, 42) :: (36, 4, 41) :: (36, 3, 40) :: (36, 2, 39) :: (36, 1, 38) :: (36, 0, 37) :: l) M0 st → Q none st) : am_Call (d + 4) m_Tricks_init 9 964 [vR 36] st Q := by
  refine am_go B_Tricks_init_0 rfl (Nat.le_of_ble_eq_true rfl) ?_
  unfold b_Tricks_init_0
  refine q_aload (x := 36) rfl ?_
  refine q_oini c (by decide) (by decide) (by decide) ?_
  refine q_aload (x := 36) rfl ?_
  refine q_const ?_
  refine q_newa_int (o := 37) (N := 8) (rc' := 8) (rs' := 956) c rfl (by decide) rfl rfl rfl rfl (by decide) (fun st c => ?_)
  refine q_putR c (by decide) (by decide) rfl (fun st c => ?_)
  refine q_aload (x := 36) rfl ?_
  refine q_const ?_
  refine q_newa_int (o := 38) (N := 8) (rc' := 7) (rs' := 948) c rfl (by decide) rfl rfl rfl rfl (by decide) (fun st c => ?_)
  refine q_putR c (by decide) (by decide) rfl (fun st c => ?_)
  refine q_aload (x := 36) rfl ?_
  refine q_const ?_
  refine q_newa_int (o := 39) (N := 8) (rc' := 6) (rs' := 940) c rfl (by decide) rfl rfl rfl rfl (by decide) (fun st c => ?_)
  refine q_putR c (by decide) (by decide) rfl (fun st c => ?_)
  refine q_aload (x := 36) rfl ?_
  refine q_const ?_
  refine q_newa_int (o := 40) (N := 8) (rc' := 5) (rs' := 932) c rfl (by decide) rfl rfl rfl rfl (by decide) (fun st c => ?_)
  refine q_putR c (by decide) (by decide) rfl (fun st c => ?_)
  refine q_aload (x := 36) rfl ?_
  refine q_const ?_
  refine q_newa_int (o := 41) (N := 8) (rc' := 4) (rs' := 924) c rfl (by decide) rfl rfl rfl rfl (by decide) (fun st c => ?_)
  refine q_putR c (by decide) (by decide) rfl (fun st c => ?_)
  refine q_aload (x := 36) rfl ?_
  refine q_const ?_
  refine q_newa_int (o := 42) (N := 8) (rc' := 3) (rs' := 916) c rfl (by decide) rfl rfl rfl rfl (by decide) (fun st c => ?_)
  refine q_putR c (by decide) (by decide) rfl (fun st c => ?_)
  refine q_aload (x := 36) rfl ?_
  refine q_const ?_
  refine q_newa_bool (o := 43) (N := 8) (rc' := 2) (rs' := 908) c rfl (by decide) rfl rfl rfl rfl (by decide) (fun st c => ?_)
  refine q_putR c (by decide) (by decide) rfl (fun st c => ?_)
  refine q_aload (x := 36) rfl ?_
  refine q_const ?_
  refine q_newa_bool (o := 44) (N := 8) (rc' := 1) (rs' := 900) c rfl (by decide) rfl rfl rfl rfl (by decide) (fun st c => ?_)
  refine q_putR c (by decide) (by decide) rfl (fun st c => ?_)
  refine q_aload (x := 36) rfl ?_
  refine q_const ?_
  refine q_newa_int (o := 45) (N := 900) (rc' := 0) (rs' := 0) c rfl (by decide) rfl rfl rfl rfl (by decide) (fun st c => ?_)
  refine q_putR c (by decide) (by decide) rfl (fun st c => ?_)
  exact h _ c
theorem z_Rig_25 (c : CS 25 l M0 st) (h : ∀ st, CS 45 ((25, 2, 36) :: (36, 8, 45) :: (36, 7, 44) :: (36, 6, 43) :: (36, 5, 42) :: (36, 4, 41) :: (36, 3, 40) :: (36, 2, 39) :: (36, 1, 38) :: (36, 0, 37) :: (25, 1, 33) :: (33, 1, 35) :: (33, 0, 34) :: (25, 0, 26) :: (26, 5, 32) :: (26, 4, 31) :: (26, 3, 30) :: (26, 2, 29) :: (26, 1, 28) :: (26, 0, 27) :: l) M0 st → Q none st) : am_Call (d + 5) m_Rig_init 20 1041 [vR 25] st Q := by
  refine am_go B_Rig_init_0 rfl (Nat.le_of_ble_eq_true rfl) ?_
  unfold b_Rig_init_0
  refine q_aload (x := 25) rfl ?_
  refine q_oini c (by decide) (by decide) (by decide) ?_
  refine q_aload (x := 25) rfl ?_
  refine q_new (o := 26) (rc' := 19) (rs' := 1034) c rfl (by decide) rfl rfl rfl (fun st c => ?_)
  refine q_dup ?_
  refine q_callI0 (rc' := 13) (rs' := 986) c (by decide) (by decide) (by decide) rfl rfl (z_Bars_26 c (fun st c => ?_))
  unfold am_nx am_push
  dsimp only
  refine q_putR c (by decide) (by decide) rfl (fun st c => ?_)
  refine q_aload (x := 25) rfl ?_
  refine q_new (o := 33) (rc' := 12) (rs' := 983) c rfl (by decide) rfl rfl rfl (fun st c => ?_)
  refine q_dup ?_
  refine q_callI0 (rc' := 10) (rs' := 975) c (by decide) (by decide) (by decide) rfl rfl (z_Boards_33 c (fun st c => ?_))
  unfold am_nx am_push
  dsimp only
  refine q_putR c (by decide) (by decide) rfl (fun st c => ?_)
  refine q_aload (x := 25) rfl ?_
  refine q_new (o := 36) (rc' := 9) (rs' := 964) c rfl (by decide) rfl rfl rfl (fun st c => ?_)
  refine q_dup ?_
  refine q_callI0 (rc' := 0) (rs' := 0) c (by decide) (by decide) (by decide) rfl rfl (z_Tricks_36 c (fun st c => ?_))
  unfold am_nx am_push
  dsimp only
  refine q_putR c (by decide) (by decide) rfl (fun st c => ?_)
  exact h _ c
theorem z_Reader_46 (c : CS 46 l M0 st) (h : ∀ st, CS 46 ((46, 1, 25) :: (46, 0, 2) :: (46, 6, (-1)) :: l) M0 st → Q none st) : am_Call (d + 5) m_Reader_init 0 0 [vR 46, vR 2, vR 25] st Q := by
  refine am_go B_Reader_init_0 rfl (Nat.le_of_ble_eq_true rfl) ?_
  unfold b_Reader_init_0
  refine q_aload (x := 46) rfl ?_
  refine q_oini c (by decide) (by decide) (by decide) ?_
  refine q_aload (x := 46) rfl ?_
  refine q_const ?_
  refine q_putI c (by decide) (by decide) rfl (fun st c => ?_)
  refine q_aload (x := 46) rfl ?_
  refine q_aload (x := 2) rfl ?_
  refine q_putR c (by decide) (by decide) rfl (fun st c => ?_)
  refine q_aload (x := 46) rfl ?_
  refine q_aload (x := 25) rfl ?_
  refine q_putR c (by decide) (by decide) rfl (fun st c => ?_)
  exact h _ c
theorem z_Flight_47 (c : CS 47 l M0 st) (h : ∀ st, CS 49 ((47, 1, 49) :: (47, 0, 48) :: l) M0 st → Q none st) : am_Call (d + 4) m_Flight_init 2 65 [vR 47] st Q := by
  refine am_go B_Flight_init_0 rfl (Nat.le_of_ble_eq_true rfl) ?_
  unfold b_Flight_init_0
  refine q_aload (x := 47) rfl ?_
  refine q_oini c (by decide) (by decide) (by decide) ?_
  refine q_aload (x := 47) rfl ?_
  refine q_const ?_
  refine q_newa_int (o := 48) (N := 64) (rc' := 1) (rs' := 1) c rfl (by decide) rfl rfl rfl rfl (by decide) (fun st c => ?_)
  refine q_putR c (by decide) (by decide) rfl (fun st c => ?_)
  refine q_aload (x := 47) rfl ?_
  refine q_const ?_
  refine q_newa_int (o := 49) (N := 1) (rc' := 0) (rs' := 0) c rfl (by decide) rfl rfl rfl rfl (by decide) (fun st c => ?_)
  refine q_putR c (by decide) (by decide) rfl (fun st c => ?_)
  exact h _ c
theorem z_Flight_51 (c : CS 51 l M0 st) (h : ∀ st, CS 53 ((51, 1, 53) :: (51, 0, 52) :: l) M0 st → Q none st) : am_Call (d + 4) m_Flight_init 2 65 [vR 51] st Q := by
  refine am_go B_Flight_init_0 rfl (Nat.le_of_ble_eq_true rfl) ?_
  unfold b_Flight_init_0
  refine q_aload (x := 51) rfl ?_
  refine q_oini c (by decide) (by decide) (by decide) ?_
  refine q_aload (x := 51) rfl ?_
  refine q_const ?_
  refine q_newa_int (o := 52) (N := 64) (rc' := 1) (rs' := 1) c rfl (by decide) rfl rfl rfl rfl (by decide) (fun st c => ?_)
  refine q_putR c (by decide) (by decide) rfl (fun st c => ?_)
  refine q_aload (x := 51) rfl ?_
  refine q_const ?_
  refine q_newa_int (o := 53) (N := 1) (rc' := 0) (rs' := 0) c rfl (by decide) rfl rfl rfl rfl (by decide) (fun st c => ?_)
  refine q_putR c (by decide) (by decide) rfl (fun st c => ?_)
  exact h _ c
theorem z_Search_50 (c : CS 50 l M0 st) (h : ∀ st, CS 58 ((50, 6, 4) :: (50, 5, 58) :: (50, 4, 57) :: (50, 3, 56) :: (50, 2, 55) :: (50, 1, 54) :: (50, 0, 51) :: (51, 1, 53) :: (51, 0, 52) :: l) M0 st → Q none st) : am_Call (d + 5) m_Search_init 8 90150 [vR 50, vR 4] st Q := by
  refine am_go B_Search_init_0 rfl (Nat.le_of_ble_eq_true rfl) ?_
  unfold b_Search_init_0
  refine q_aload (x := 50) rfl ?_
  refine q_oini c (by decide) (by decide) (by decide) ?_
  refine q_aload (x := 50) rfl ?_
  refine q_new (o := 51) (rc' := 7) (rs' := 90138) c rfl (by decide) rfl rfl rfl (fun st c => ?_)
  refine q_dup ?_
  refine q_callI0 (rc' := 5) (rs' := 90073) c (by decide) (by decide) (by decide) rfl rfl (z_Flight_51 c (fun st c => ?_))
  unfold am_nx am_push
  dsimp only
  refine q_putR c (by decide) (by decide) rfl (fun st c => ?_)
  refine q_aload (x := 50) rfl ?_
  refine q_const ?_
  refine q_newa_int (o := 54) (N := 649) (rc' := 4) (rs' := 89424) c rfl (by decide) rfl rfl rfl rfl (by decide) (fun st c => ?_)
  refine q_putR c (by decide) (by decide) rfl (fun st c => ?_)
  refine q_aload (x := 50) rfl ?_
  refine q_const ?_
  refine q_newa_int (o := 55) (N := 36288) (rc' := 3) (rs' := 53136) c rfl (by decide) rfl rfl rfl rfl (by decide) (fun st c => ?_)
  refine q_putR c (by decide) (by decide) rfl (fun st c => ?_)
  refine q_aload (x := 50) rfl ?_
  refine q_const ?_
  refine q_newa_bool (o := 56) (N := 648) (rc' := 2) (rs' := 52488) c rfl (by decide) rfl rfl rfl rfl (by decide) (fun st c => ?_)
  refine q_putR c (by decide) (by decide) rfl (fun st c => ?_)
  refine q_aload (x := 50) rfl ?_
  refine q_const ?_
  refine q_newa_int (o := 57) (N := 46656) (rc' := 1) (rs' := 5832) c rfl (by decide) rfl rfl rfl rfl (by decide) (fun st c => ?_)
  refine q_putR c (by decide) (by decide) rfl (fun st c => ?_)
  refine q_aload (x := 50) rfl ?_
  refine q_const ?_
  refine q_newa_int (o := 58) (N := 5832) (rc' := 0) (rs' := 0) c rfl (by decide) rfl rfl rfl rfl (by decide) (fun st c => ?_)
  refine q_putR c (by decide) (by decide) rfl (fun st c => ?_)
  refine q_aload (x := 50) rfl ?_
  refine q_aload (x := 4) rfl ?_
  refine q_putR c (by decide) (by decide) rfl (fun st c => ?_)
  exact h _ c
theorem z_Act_59 (c : CS 59 l M0 st) (h : ∀ st, CS 63 ((59, 3, 63) :: (59, 2, 62) :: (59, 1, 61) :: (59, 0, 60) :: l) M0 st → Q none st) : am_Call (d + 3) m_Act_init 4 32 [vR 59] st Q := by
  refine am_go B_Act_init_0 rfl (Nat.le_of_ble_eq_true rfl) ?_
  unfold b_Act_init_0
  refine q_aload (x := 59) rfl ?_
  refine q_oini c (by decide) (by decide) (by decide) ?_
  refine q_aload (x := 59) rfl ?_
  refine q_const ?_
  refine q_newa_int (o := 60) (N := 8) (rc' := 3) (rs' := 24) c rfl (by decide) rfl rfl rfl rfl (by decide) (fun st c => ?_)
  refine q_putR c (by decide) (by decide) rfl (fun st c => ?_)
  refine q_aload (x := 59) rfl ?_
  refine q_const ?_
  refine q_newa_int (o := 61) (N := 8) (rc' := 2) (rs' := 16) c rfl (by decide) rfl rfl rfl rfl (by decide) (fun st c => ?_)
  refine q_putR c (by decide) (by decide) rfl (fun st c => ?_)
  refine q_aload (x := 59) rfl ?_
  refine q_const ?_
  refine q_newa_int (o := 62) (N := 8) (rc' := 1) (rs' := 8) c rfl (by decide) rfl rfl rfl rfl (by decide) (fun st c => ?_)
  refine q_putR c (by decide) (by decide) rfl (fun st c => ?_)
  refine q_aload (x := 59) rfl ?_
  refine q_const ?_
  refine q_newa_int (o := 63) (N := 8) (rc' := 0) (rs' := 0) c rfl (by decide) rfl rfl rfl rfl (by decide) (fun st c => ?_)
  refine q_putR c (by decide) (by decide) rfl (fun st c => ?_)
  exact h _ c
theorem z_Act_66 (c : CS 66 l M0 st) (h : ∀ st, CS 70 ((66, 3, 70) :: (66, 2, 69) :: (66, 1, 68) :: (66, 0, 67) :: l) M0 st → Q none st) : am_Call (d + 3) m_Act_init 4 32 [vR 66] st Q := by
  refine am_go B_Act_init_0 rfl (Nat.le_of_ble_eq_true rfl) ?_
  unfold b_Act_init_0
  refine q_aload (x := 66) rfl ?_
  refine q_oini c (by decide) (by decide) (by decide) ?_
  refine q_aload (x := 66) rfl ?_
  refine q_const ?_
  refine q_newa_int (o := 67) (N := 8) (rc' := 3) (rs' := 24) c rfl (by decide) rfl rfl rfl rfl (by decide) (fun st c => ?_)
  refine q_putR c (by decide) (by decide) rfl (fun st c => ?_)
  refine q_aload (x := 66) rfl ?_
  refine q_const ?_
  refine q_newa_int (o := 68) (N := 8) (rc' := 2) (rs' := 16) c rfl (by decide) rfl rfl rfl rfl (by decide) (fun st c => ?_)
  refine q_putR c (by decide) (by decide) rfl (fun st c => ?_)
  refine q_aload (x := 66) rfl ?_
  refine q_const ?_
  refine q_newa_int (o := 69) (N := 8) (rc' := 1) (rs' := 8) c rfl (by decide) rfl rfl rfl rfl (by decide) (fun st c => ?_)
  refine q_putR c (by decide) (by decide) rfl (fun st c => ?_)
  refine q_aload (x := 66) rfl ?_
  refine q_const ?_
  refine q_newa_int (o := 70) (N := 8) (rc' := 0) (rs' := 0) c rfl (by decide) rfl rfl rfl rfl (by decide) (fun st c => ?_)
  refine q_putR c (by decide) (by decide) rfl (fun st c => ?_)
  exact h _ c
theorem z_Act_71 (c : CS 71 l M0 st) (h : ∀ st, CS 75 ((71, 3, 75) :: (71, 2, 74) :: (71, 1, 73) :: (71, 0, 72) :: l) M0 st → Q none st) : am_Call (d + 3) m_Act_init 4 32 [vR 71] st Q := by
  refine am_go B_Act_init_0 rfl (Nat.le_of_ble_eq_true rfl) ?_
  unfold b_Act_init_0
  refine q_aload (x := 71) rfl ?_
  refine q_oini c (by decide) (by decide) (by decide) ?_
  refine q_aload (x := 71) rfl ?_
  refine q_const ?_
  refine q_newa_int (o := 72) (N := 8) (rc' := 3) (rs' := 24) c rfl (by decide) rfl rfl rfl rfl (by decide) (fun st c => ?_)
  refine q_putR c (by decide) (by decide) rfl (fun st c => ?_)
  refine q_aload (x := 71) rfl ?_
  refine q_const ?_
  refine q_newa_int (o := 73) (N := 8) (rc' := 2) (rs' := 16) c rfl (by decide) rfl rfl rfl rfl (by decide) (fun st c => ?_)
  refine q_putR c (by decide) (by decide) rfl (fun st c => ?_)
  refine q_aload (x := 71) rfl ?_
  refine q_const ?_
  refine q_newa_int (o := 74) (N := 8) (rc' := 1) (rs' := 8) c rfl (by decide) rfl rfl rfl rfl (by decide) (fun st c => ?_)
  refine q_putR c (by decide) (by decide) rfl (fun st c => ?_)
  refine q_aload (x := 71) rfl ?_
  refine q_const ?_
  refine q_newa_int (o := 75) (N := 8) (rc' := 0) (rs' := 0) c rfl (by decide) rfl rfl rfl rfl (by decide) (fun st c => ?_)
  refine q_putR c (by decide) (by decide) rfl (fun st c => ?_)
  exact h _ c
theorem z_Act_76 (c : CS 76 l M0 st) (h : ∀ st, CS 80 ((76, 3, 80) :: (76, 2, 79) :: (76, 1, 78) :: (76, 0, 77) :: l) M0 st → Q none st) : am_Call (d + 3) m_Act_init 4 32 [vR 76] st Q := by
  refine am_go B_Act_init_0 rfl (Nat.le_of_ble_eq_true rfl) ?_
  unfold b_Act_init_0
  refine q_aload (x := 76) rfl ?_
  refine q_oini c (by decide) (by decide) (by decide) ?_
  refine q_aload (x := 76) rfl ?_
  refine q_const ?_
  refine q_newa_int (o := 77) (N := 8) (rc' := 3) (rs' := 24) c rfl (by decide) rfl rfl rfl rfl (by decide) (fun st c => ?_)
  refine q_putR c (by decide) (by decide) rfl (fun st c => ?_)
  refine q_aload (x := 76) rfl ?_
  refine q_const ?_
  refine q_newa_int (o := 78) (N := 8) (rc' := 2) (rs' := 16) c rfl (by decide) rfl rfl rfl rfl (by decide) (fun st c => ?_)
  refine q_putR c (by decide) (by decide) rfl (fun st c => ?_)
  refine q_aload (x := 76) rfl ?_
  refine q_const ?_
  refine q_newa_int (o := 79) (N := 8) (rc' := 1) (rs' := 8) c rfl (by decide) rfl rfl rfl rfl (by decide) (fun st c => ?_)
  refine q_putR c (by decide) (by decide) rfl (fun st c => ?_)
  refine q_aload (x := 76) rfl ?_
  refine q_const ?_
  refine q_newa_int (o := 80) (N := 8) (rc' := 0) (rs' := 0) c rfl (by decide) rfl rfl rfl rfl (by decide) (fun st c => ?_)
  refine q_putR c (by decide) (by decide) rfl (fun st c => ?_)
  exact h _ c
theorem z_Act_81 (c : CS 81 l M0 st) (h : ∀ st, CS 85 ((81, 3, 85) :: (81, 2, 84) :: (81, 1, 83) :: (81, 0, 82) :: l) M0 st → Q none st) : am_Call (d + 3) m_Act_init 4 32 [vR 81] st Q := by
  refine am_go B_Act_init_0 rfl (Nat.le_of_ble_eq_true rfl) ?_
  unfold b_Act_init_0
  refine q_aload (x := 81) rfl ?_
  refine q_oini c (by decide) (by decide) (by decide) ?_
  refine q_aload (x := 81) rfl ?_
  refine q_const ?_
  refine q_newa_int (o := 82) (N := 8) (rc' := 3) (rs' := 24) c rfl (by decide) rfl rfl rfl rfl (by decide) (fun st c => ?_)
  refine q_putR c (by decide) (by decide) rfl (fun st c => ?_)
  refine q_aload (x := 81) rfl ?_
  refine q_const ?_
  refine q_newa_int (o := 83) (N := 8) (rc' := 2) (rs' := 16) c rfl (by decide) rfl rfl rfl rfl (by decide) (fun st c => ?_)
  refine q_putR c (by decide) (by decide) rfl (fun st c => ?_)
  refine q_aload (x := 81) rfl ?_
  refine q_const ?_
  refine q_newa_int (o := 84) (N := 8) (rc' := 1) (rs' := 8) c rfl (by decide) rfl rfl rfl rfl (by decide) (fun st c => ?_)
  refine q_putR c (by decide) (by decide) rfl (fun st c => ?_)
  refine q_aload (x := 81) rfl ?_
  refine q_const ?_
  refine q_newa_int (o := 85) (N := 8) (rc' := 0) (rs' := 0) c rfl (by decide) rfl rfl rfl rfl (by decide) (fun st c => ?_)
  refine q_putR c (by decide) (by decide) rfl (fun st c => ?_)
  exact h _ c
theorem z_Act_86 (c : CS 86 l M0 st) (h : ∀ st, CS 90 ((86, 3, 90) :: (86, 2, 89) :: (86, 1, 88) :: (86, 0, 87) :: l) M0 st → Q none st) : am_Call (d + 3) m_Act_init 4 32 [vR 86] st Q := by
  refine am_go B_Act_init_0 rfl (Nat.le_of_ble_eq_true rfl) ?_
  unfold b_Act_init_0
  refine q_aload (x := 86) rfl ?_
  refine q_oini c (by decide) (by decide) (by decide) ?_
  refine q_aload (x := 86) rfl ?_
  refine q_const ?_
  refine q_newa_int (o := 87) (N := 8) (rc' := 3) (rs' := 24) c rfl (by decide) rfl rfl rfl rfl (by decide) (fun st c => ?_)
  refine q_putR c (by decide) (by decide) rfl (fun st c => ?_)
  refine q_aload (x := 86) rfl ?_
  refine q_const ?_
  refine q_newa_int (o := 88) (N := 8) (rc' := 2) (rs' := 16) c rfl (by decide) rfl rfl rfl rfl (by decide) (fun st c => ?_)
  refine q_putR c (by decide) (by decide) rfl (fun st c => ?_)
  refine q_aload (x := 86) rfl ?_
  refine q_const ?_
  refine q_newa_int (o := 89) (N := 8) (rc' := 1) (rs' := 8) c rfl (by decide) rfl rfl rfl rfl (by decide) (fun st c => ?_)
  refine q_putR c (by decide) (by decide) rfl (fun st c => ?_)
  refine q_aload (x := 86) rfl ?_
  refine q_const ?_
  refine q_newa_int (o := 90) (N := 8) (rc' := 0) (rs' := 0) c rfl (by decide) rfl rfl rfl rfl (by decide) (fun st c => ?_)
  refine q_putR c (by decide) (by decide) rfl (fun st c => ?_)
  exact h _ c
theorem z_Act_91 (c : CS 91 l M0 st) (h : ∀ st, CS 95 ((91, 3, 95) :: (91, 2, 94) :: (91, 1, 93) :: (91, 0, 92) :: l) M0 st → Q none st) : am_Call (d + 3) m_Act_init 4 32 [vR 91] st Q := by
  refine am_go B_Act_init_0 rfl (Nat.le_of_ble_eq_true rfl) ?_
  unfold b_Act_init_0
  refine q_aload (x := 91) rfl ?_
  refine q_oini c (by decide) (by decide) (by decide) ?_
  refine q_aload (x := 91) rfl ?_
  refine q_const ?_
  refine q_newa_int (o := 92) (N := 8) (rc' := 3) (rs' := 24) c rfl (by decide) rfl rfl rfl rfl (by decide) (fun st c => ?_)
  refine q_putR c (by decide) (by decide) rfl (fun st c => ?_)
  refine q_aload (x := 91) rfl ?_
  refine q_const ?_
  refine q_newa_int (o := 93) (N := 8) (rc' := 2) (rs' := 16) c rfl (by decide) rfl rfl rfl rfl (by decide) (fun st c => ?_)
  refine q_putR c (by decide) (by decide) rfl (fun st c => ?_)
  refine q_aload (x := 91) rfl ?_
  refine q_const ?_
  refine q_newa_int (o := 94) (N := 8) (rc' := 1) (rs' := 8) c rfl (by decide) rfl rfl rfl rfl (by decide) (fun st c => ?_)
  refine q_putR c (by decide) (by decide) rfl (fun st c => ?_)
  refine q_aload (x := 91) rfl ?_
  refine q_const ?_
  refine q_newa_int (o := 95) (N := 8) (rc' := 0) (rs' := 0) c rfl (by decide) rfl rfl rfl rfl (by decide) (fun st c => ?_)
  refine q_putR c (by decide) (by decide) rfl (fun st c => ?_)
  exact h _ c
theorem z_Bill_newActs_65 (c : CS 64 l M0 st) (h : ∀ st, CS 95 ((65, 5, 91) :: (91, 3, 95) :: (91, 2, 94) :: (91, 1, 93) :: (91, 0, 92) :: (65, 4, 86) :: (86, 3, 90) :: (86, 2, 89) :: (86, 1, 88) :: (86, 0, 87) :: (65, 3, 81) :: (81, 3, 85) :: (81, 2, 84) :: (81, 1, 83) :: (81, 0, 82) :: (65, 2, 76) :: (76, 3, 80) :: (76, 2, 79) :: (76, 1, 78) :: (76, 0, 77) :: (65, 1, 71) :: (71, 3, 75) :: (71, 2, 74) :: (71, 1, 73) :: (71, 0, 72) :: (65, 0, 66) :: (66, 3, 70) :: (66, 2, 69) :: (66, 1, 68) :: (66, 0, 67) :: l) M0 st → Q (vR 65) st) : am_Call (d + 4) m_Bill_newActs 31 270 [] st Q := by
  refine am_go B_Bill_newActs_0 rfl (Nat.le_of_ble_eq_true rfl) ?_
  unfold b_Bill_newActs_0
  refine q_const ?_
  refine q_newq (o := 65) (N := 6) (rc' := 30) (rs' := 264) c rfl (by decide) rfl rfl rfl rfl (by decide) (fun st c => ?_)
  refine q_astore ?_
  refine q_const ?_
  refine q_istore ?_
  unfold c_at
  refine B_Bill_newActs_8 _ _ _ _ _ ?_
  unfold b_Bill_newActs_8
  refine q_iload (x := 0) rfl ?_
  refine q_const ?_
  refine q_lt (by decide) ?_
  refine q_aload (x := 65) rfl ?_
  refine q_iload (x := 0) rfl ?_
  refine q_new (o := 66) (rc' := 29) (rs' := 252) c rfl (by decide) rfl rfl rfl (fun st c => ?_)
  refine q_dup ?_
  refine q_callI0 (rc' := 25) (rs' := 220) c (by decide) (by decide) (by decide) rfl rfl (z_Act_66 c (fun st c => ?_))
  unfold am_nx am_push
  dsimp only
  refine q_oast c (by decide) (by decide) (by decide) (by decide) (by decide) rfl (fun st c => ?_)
  refine q_iinc (x := 0) (v := 1) rfl ⟨by decide, by decide⟩ rfl ?_
  unfold c_at
  refine B_Bill_newActs_8 _ _ _ _ _ ?_
  unfold b_Bill_newActs_8
  refine q_iload (x := 1) rfl ?_
  refine q_const ?_
  refine q_lt (by decide) ?_
  refine q_aload (x := 65) rfl ?_
  refine q_iload (x := 1) rfl ?_
  refine q_new (o := 71) (rc' := 24) (rs' := 208) c rfl (by decide) rfl rfl rfl (fun st c => ?_)
  refine q_dup ?_
  refine q_callI0 (rc' := 20) (rs' := 176) c (by decide) (by decide) (by decide) rfl rfl (z_Act_71 c (fun st c => ?_))
  unfold am_nx am_push
  dsimp only
  refine q_oast c (by decide) (by decide) (by decide) (by decide) (by decide) rfl (fun st c => ?_)
  refine q_iinc (x := 1) (v := 2) rfl ⟨by decide, by decide⟩ rfl ?_
  unfold c_at
  refine B_Bill_newActs_8 _ _ _ _ _ ?_
  unfold b_Bill_newActs_8
  refine q_iload (x := 2) rfl ?_
  refine q_const ?_
  refine q_lt (by decide) ?_
  refine q_aload (x := 65) rfl ?_
  refine q_iload (x := 2) rfl ?_
  refine q_new (o := 76) (rc' := 19) (rs' := 164) c rfl (by decide) rfl rfl rfl (fun st c => ?_)
  refine q_dup ?_
  refine q_callI0 (rc' := 15) (rs' := 132) c (by decide) (by decide) (by decide) rfl rfl (z_Act_76 c (fun st c => ?_))
  unfold am_nx am_push
  dsimp only
  refine q_oast c (by decide) (by decide) (by decide) (by decide) (by decide) rfl (fun st c => ?_)
  refine q_iinc (x := 2) (v := 3) rfl ⟨by decide, by decide⟩ rfl ?_
  unfold c_at
  refine B_Bill_newActs_8 _ _ _ _ _ ?_
  unfold b_Bill_newActs_8
  refine q_iload (x := 3) rfl ?_
  refine q_const ?_
  refine q_lt (by decide) ?_
  refine q_aload (x := 65) rfl ?_
  refine q_iload (x := 3) rfl ?_
  refine q_new (o := 81) (rc' := 14) (rs' := 120) c rfl (by decide) rfl rfl rfl (fun st c => ?_)
  refine q_dup ?_
  refine q_callI0 (rc' := 10) (rs' := 88) c (by decide) (by decide) (by decide) rfl rfl (z_Act_81 c (fun st c => ?_))
  unfold am_nx am_push
  dsimp only
  refine q_oast c (by decide) (by decide) (by decide) (by decide) (by decide) rfl (fun st c => ?_)
  refine q_iinc (x := 3) (v := 4) rfl ⟨by decide, by decide⟩ rfl ?_
  unfold c_at
  refine B_Bill_newActs_8 _ _ _ _ _ ?_
  unfold b_Bill_newActs_8
  refine q_iload (x := 4) rfl ?_
  refine q_const ?_
  refine q_lt (by decide) ?_
  refine q_aload (x := 65) rfl ?_
  refine q_iload (x := 4) rfl ?_
  refine q_new (o := 86) (rc' := 9) (rs' := 76) c rfl (by decide) rfl rfl rfl (fun st c => ?_)
  refine q_dup ?_
  refine q_callI0 (rc' := 5) (rs' := 44) c (by decide) (by decide) (by decide) rfl rfl (z_Act_86 c (fun st c => ?_))
  unfold am_nx am_push
  dsimp only
  refine q_oast c (by decide) (by decide) (by decide) (by decide) (by decide) rfl (fun st c => ?_)
  refine q_iinc (x := 4) (v := 5) rfl ⟨by decide, by decide⟩ rfl ?_
  unfold c_at
  refine B_Bill_newActs_8 _ _ _ _ _ ?_
  unfold b_Bill_newActs_8
  refine q_iload (x := 5) rfl ?_
  refine q_const ?_
  refine q_lt (by decide) ?_
  refine q_aload (x := 65) rfl ?_
  refine q_iload (x := 5) rfl ?_
  refine q_new (o := 91) (rc' := 4) (rs' := 32) c rfl (by decide) rfl rfl rfl (fun st c => ?_)
  refine q_dup ?_
  refine q_callI0 (rc' := 0) (rs' := 0) c (by decide) (by decide) (by decide) rfl rfl (z_Act_91 c (fun st c => ?_))
  unfold am_nx am_push
  dsimp only
  refine q_oast c (by decide) (by decide) (by decide) (by decide) (by decide) rfl (fun st c => ?_)
  refine q_iinc (x := 5) (v := 6) rfl ⟨by decide, by decide⟩ rfl ?_
  unfold c_at
  refine B_Bill_newActs_8 _ _ _ _ _ ?_
  unfold b_Bill_newActs_8
  refine q_iload (x := 6) rfl ?_
  refine q_const ?_
  refine q_ge (by decide) ?_
  unfold b_Bill_newActs_30
  refine q_aload (x := 65) rfl ?_
  exact h _ c
theorem z_Act_97 (c : CS 97 l M0 st) (h : ∀ st, CS 101 ((97, 3, 101) :: (97, 2, 100) :: (97, 1, 99) :: (97, 0, 98) :: l) M0 st → Q none st) : am_Call (d + 3) m_Act_init 4 32 [vR 97] st Q := by
  refine am_go B_Act_init_0 rfl (Nat.le_of_ble_eq_true rfl) ?_
  unfold b_Act_init_0
  refine q_aload (x := 97) rfl ?_
  refine q_oini c (by decide) (by decide) (by decide) ?_
  refine q_aload (x := 97) rfl ?_
  refine q_const ?_
  refine q_newa_int (o := 98) (N := 8) (rc' := 3) (rs' := 24) c rfl (by decide) rfl rfl rfl rfl (by decide) (fun st c => ?_)
  refine q_putR c (by decide) (by decide) rfl (fun st c => ?_)
  refine q_aload (x := 97) rfl ?_
  refine q_const ?_
  refine q_newa_int (o := 99) (N := 8) (rc' := 2) (rs' := 16) c rfl (by decide) rfl rfl rfl rfl (by decide) (fun st c => ?_)
  refine q_putR c (by decide) (by decide) rfl (fun st c => ?_)
  refine q_aload (x := 97) rfl ?_
  refine q_const ?_
  refine q_newa_int (o := 100) (N := 8) (rc' := 1) (rs' := 8) c rfl (by decide) rfl rfl rfl rfl (by decide) (fun st c => ?_)
  refine q_putR c (by decide) (by decide) rfl (fun st c => ?_)
  refine q_aload (x := 97) rfl ?_
  refine q_const ?_
  refine q_newa_int (o := 101) (N := 8) (rc' := 0) (rs' := 0) c rfl (by decide) rfl rfl rfl rfl (by decide) (fun st c => ?_)
  refine q_putR c (by decide) (by decide) rfl (fun st c => ?_)
  exact h _ c
theorem z_Act_102 (c : CS 102 l M0 st) (h : ∀ st, CS 106 ((102, 3, 106) :: (102, 2, 105) :: (102, 1, 104) :: (102, 0, 103) :: l) M0 st → Q none st) : am_Call (d + 3) m_Act_init 4 32 [vR 102] st Q := by
  refine am_go B_Act_init_0 rfl (Nat.le_of_ble_eq_true rfl) ?_
  unfold b_Act_init_0
  refine q_aload (x := 102) rfl ?_
  refine q_oini c (by decide) (by decide) (by decide) ?_
  refine q_aload (x := 102) rfl ?_
  refine q_const ?_
  refine q_newa_int (o := 103) (N := 8) (rc' := 3) (rs' := 24) c rfl (by decide) rfl rfl rfl rfl (by decide) (fun st c => ?_)
  refine q_putR c (by decide) (by decide) rfl (fun st c => ?_)
  refine q_aload (x := 102) rfl ?_
  refine q_const ?_
  refine q_newa_int (o := 104) (N := 8) (rc' := 2) (rs' := 16) c rfl (by decide) rfl rfl rfl rfl (by decide) (fun st c => ?_)
  refine q_putR c (by decide) (by decide) rfl (fun st c => ?_)
  refine q_aload (x := 102) rfl ?_
  refine q_const ?_
  refine q_newa_int (o := 105) (N := 8) (rc' := 1) (rs' := 8) c rfl (by decide) rfl rfl rfl rfl (by decide) (fun st c => ?_)
  refine q_putR c (by decide) (by decide) rfl (fun st c => ?_)
  refine q_aload (x := 102) rfl ?_
  refine q_const ?_
  refine q_newa_int (o := 106) (N := 8) (rc' := 0) (rs' := 0) c rfl (by decide) rfl rfl rfl rfl (by decide) (fun st c => ?_)
  refine q_putR c (by decide) (by decide) rfl (fun st c => ?_)
  exact h _ c
theorem z_Act_107 (c : CS 107 l M0 st) (h : ∀ st, CS 111 ((107, 3, 111) :: (107, 2, 110) :: (107, 1, 109) :: (107, 0, 108) :: l) M0 st → Q none st) : am_Call (d + 3) m_Act_init 4 32 [vR 107] st Q := by
  refine am_go B_Act_init_0 rfl (Nat.le_of_ble_eq_true rfl) ?_
  unfold b_Act_init_0
  refine q_aload (x := 107) rfl ?_
  refine q_oini c (by decide) (by decide) (by decide) ?_
  refine q_aload (x := 107) rfl ?_
  refine q_const ?_
  refine q_newa_int (o := 108) (N := 8) (rc' := 3) (rs' := 24) c rfl (by decide) rfl rfl rfl rfl (by decide) (fun st c => ?_)
  refine q_putR c (by decide) (by decide) rfl (fun st c => ?_)
  refine q_aload (x := 107) rfl ?_
  refine q_const ?_
  refine q_newa_int (o := 109) (N := 8) (rc' := 2) (rs' := 16) c rfl (by decide) rfl rfl rfl rfl (by decide) (fun st c => ?_)
  refine q_putR c (by decide) (by decide) rfl (fun st c => ?_)
  refine q_aload (x := 107) rfl ?_
  refine q_const ?_
  refine q_newa_int (o := 110) (N := 8) (rc' := 1) (rs' := 8) c rfl (by decide) rfl rfl rfl rfl (by decide) (fun st c => ?_)
  refine q_putR c (by decide) (by decide) rfl (fun st c => ?_)
  refine q_aload (x := 107) rfl ?_
  refine q_const ?_
  refine q_newa_int (o := 111) (N := 8) (rc' := 0) (rs' := 0) c rfl (by decide) rfl rfl rfl rfl (by decide) (fun st c => ?_)
  refine q_putR c (by decide) (by decide) rfl (fun st c => ?_)
  exact h _ c
theorem z_Act_112 (c : CS 112 l M0 st) (h : ∀ st, CS 116 ((112, 3, 116) :: (112, 2, 115) :: (112, 1, 114) :: (112, 0, 113) :: l) M0 st → Q none st) : am_Call (d + 3) m_Act_init 4 32 [vR 112] st Q := by
  refine am_go B_Act_init_0 rfl (Nat.le_of_ble_eq_true rfl) ?_
  unfold b_Act_init_0
  refine q_aload (x := 112) rfl ?_
  refine q_oini c (by decide) (by decide) (by decide) ?_
  refine q_aload (x := 112) rfl ?_
  refine q_const ?_
  refine q_newa_int (o := 113) (N := 8) (rc' := 3) (rs' := 24) c rfl (by decide) rfl rfl rfl rfl (by decide) (fun st c => ?_)
  refine q_putR c (by decide) (by decide) rfl (fun st c => ?_)
  refine q_aload (x := 112) rfl ?_
  refine q_const ?_
  refine q_newa_int (o := 114) (N := 8) (rc' := 2) (rs' := 16) c rfl (by decide) rfl rfl rfl rfl (by decide) (fun st c => ?_)
  refine q_putR c (by decide) (by decide) rfl (fun st c => ?_)
  refine q_aload (x := 112) rfl ?_
  refine q_const ?_
  refine q_newa_int (o := 115) (N := 8) (rc' := 1) (rs' := 8) c rfl (by decide) rfl rfl rfl rfl (by decide) (fun st c => ?_)
  refine q_putR c (by decide) (by decide) rfl (fun st c => ?_)
  refine q_aload (x := 112) rfl ?_
  refine q_const ?_
  refine q_newa_int (o := 116) (N := 8) (rc' := 0) (rs' := 0) c rfl (by decide) rfl rfl rfl rfl (by decide) (fun st c => ?_)
  refine q_putR c (by decide) (by decide) rfl (fun st c => ?_)
  exact h _ c
theorem z_Act_117 (c : CS 117 l M0 st) (h : ∀ st, CS 121 ((117, 3, 121) :: (117, 2, 120) :: (117, 1, 119) :: (117, 0, 118) :: l) M0 st → Q none st) : am_Call (d + 3) m_Act_init 4 32 [vR 117] st Q := by
  refine am_go B_Act_init_0 rfl (Nat.le_of_ble_eq_true rfl) ?_
  unfold b_Act_init_0
  refine q_aload (x := 117) rfl ?_
  refine q_oini c (by decide) (by decide) (by decide) ?_
  refine q_aload (x := 117) rfl ?_
  refine q_const ?_
  refine q_newa_int (o := 118) (N := 8) (rc' := 3) (rs' := 24) c rfl (by decide) rfl rfl rfl rfl (by decide) (fun st c => ?_)
  refine q_putR c (by decide) (by decide) rfl (fun st c => ?_)
  refine q_aload (x := 117) rfl ?_
  refine q_const ?_
  refine q_newa_int (o := 119) (N := 8) (rc' := 2) (rs' := 16) c rfl (by decide) rfl rfl rfl rfl (by decide) (fun st c => ?_)
  refine q_putR c (by decide) (by decide) rfl (fun st c => ?_)
  refine q_aload (x := 117) rfl ?_
  refine q_const ?_
  refine q_newa_int (o := 120) (N := 8) (rc' := 1) (rs' := 8) c rfl (by decide) rfl rfl rfl rfl (by decide) (fun st c => ?_)
  refine q_putR c (by decide) (by decide) rfl (fun st c => ?_)
  refine q_aload (x := 117) rfl ?_
  refine q_const ?_
  refine q_newa_int (o := 121) (N := 8) (rc' := 0) (rs' := 0) c rfl (by decide) rfl rfl rfl rfl (by decide) (fun st c => ?_)
  refine q_putR c (by decide) (by decide) rfl (fun st c => ?_)
  exact h _ c
theorem z_Act_122 (c : CS 122 l M0 st) (h : ∀ st, CS 126 ((122, 3, 126) :: (122, 2, 125) :: (122, 1, 124) :: (122, 0, 123) :: l) M0 st → Q none st) : am_Call (d + 3) m_Act_init 4 32 [vR 122] st Q := by
  refine am_go B_Act_init_0 rfl (Nat.le_of_ble_eq_true rfl) ?_
  unfold b_Act_init_0
  refine q_aload (x := 122) rfl ?_
  refine q_oini c (by decide) (by decide) (by decide) ?_
  refine q_aload (x := 122) rfl ?_
  refine q_const ?_
  refine q_newa_int (o := 123) (N := 8) (rc' := 3) (rs' := 24) c rfl (by decide) rfl rfl rfl rfl (by decide) (fun st c => ?_)
  refine q_putR c (by decide) (by decide) rfl (fun st c => ?_)
  refine q_aload (x := 122) rfl ?_
  refine q_const ?_
  refine q_newa_int (o := 124) (N := 8) (rc' := 2) (rs' := 16) c rfl (by decide) rfl rfl rfl rfl (by decide) (fun st c => ?_)
  refine q_putR c (by decide) (by decide) rfl (fun st c => ?_)
  refine q_aload (x := 122) rfl ?_
  refine q_const ?_
  refine q_newa_int (o := 125) (N := 8) (rc' := 1) (rs' := 8) c rfl (by decide) rfl rfl rfl rfl (by decide) (fun st c => ?_)
  refine q_putR c (by decide) (by decide) rfl (fun st c => ?_)
  refine q_aload (x := 122) rfl ?_
  refine q_const ?_
  refine q_newa_int (o := 126) (N := 8) (rc' := 0) (rs' := 0) c rfl (by decide) rfl rfl rfl rfl (by decide) (fun st c => ?_)
  refine q_putR c (by decide) (by decide) rfl (fun st c => ?_)
  exact h _ c
theorem z_Bill_newActs_96 (c : CS 95 l M0 st) (h : ∀ st, CS 126 ((96, 5, 122) :: (122, 3, 126) :: (122, 2, 125) :: (122, 1, 124) :: (122, 0, 123) :: (96, 4, 117) :: (117, 3, 121) :: (117, 2, 120) :: (117, 1, 119) :: (117, 0, 118) :: (96, 3, 112) :: (112, 3, 116) :: (112, 2, 115) :: (112, 1, 114) :: (112, 0, 113) :: (96, 2, 107) :: (107, 3, 111) :: (107, 2, 110) :: (107, 1, 109) :: (107, 0, 108) :: (96, 1, 102) :: (102, 3, 106) :: (102, 2, 105) :: (102, 1, 104) :: (102, 0, 103) :: (96, 0, 97) :: (97, 3, 101) :: (97, 2, 100) :: (97, 1, 99) :: (97, 0, 98) :: l) M0 st → Q (vR 96) st) : am_Call (d + 4) m_Bill_newActs 31 270 [] st Q := by
  refine am_go B_Bill_newActs_0 rfl (Nat.le_of_ble_eq_true rfl) ?_
  unfold b_Bill_newActs_0
  refine q_const ?_
  refine q_newq (o := 96) (N := 6) (rc' := 30) (rs' := 264) c rfl (by decide) rfl rfl rfl rfl (by decide) (fun st c => ?_)
  refine q_astore ?_
  refine q_const ?_
  refine q_istore ?_
  unfold c_at
  refine B_Bill_newActs_8 _ _ _ _ _ ?_
  unfold b_Bill_newActs_8
  refine q_iload (x := 0) rfl ?_
  refine q_const ?_
  refine q_lt (by decide) ?_
  refine q_aload (x := 96) rfl ?_
  refine q_iload (x := 0) rfl ?_
  refine q_new (o := 97) (rc' := 29) (rs' := 252) c rfl (by decide) rfl rfl rfl (fun st c => ?_)
  refine q_dup ?_
  refine q_callI0 (rc' := 25) (rs' := 220) c (by decide) (by decide) (by decide) rfl rfl (z_Act_97 c (fun st c => ?_))
  unfold am_nx am_push
  dsimp only
  refine q_oast c (by decide) (by decide) (by decide) (by decide) (by decide) rfl (fun st c => ?_)
  refine q_iinc (x := 0) (v := 1) rfl ⟨by decide, by decide⟩ rfl ?_
  unfold c_at
  refine B_Bill_newActs_8 _ _ _ _ _ ?_
  unfold b_Bill_newActs_8
  refine q_iload (x := 1) rfl ?_
  refine q_const ?_
  refine q_lt (by decide) ?_
  refine q_aload (x := 96) rfl ?_
  refine q_iload (x := 1) rfl ?_
  refine q_new (o := 102) (rc' := 24) (rs' := 208) c rfl (by decide) rfl rfl rfl (fun st c => ?_)
  refine q_dup ?_
  refine q_callI0 (rc' := 20) (rs' := 176) c (by decide) (by decide) (by decide) rfl rfl (z_Act_102 c (fun st c => ?_))
  unfold am_nx am_push
  dsimp only
  refine q_oast c (by decide) (by decide) (by decide) (by decide) (by decide) rfl (fun st c => ?_)
  refine q_iinc (x := 1) (v := 2) rfl ⟨by decide, by decide⟩ rfl ?_
  unfold c_at
  refine B_Bill_newActs_8 _ _ _ _ _ ?_
  unfold b_Bill_newActs_8
  refine q_iload (x := 2) rfl ?_
  refine q_const ?_
  refine q_lt (by decide) ?_
  refine q_aload (x := 96) rfl ?_
  refine q_iload (x := 2) rfl ?_
  refine q_new (o := 107) (rc' := 19) (rs' := 164) c rfl (by decide) rfl rfl rfl (fun st c => ?_)
  refine q_dup ?_
  refine q_callI0 (rc' := 15) (rs' := 132) c (by decide) (by decide) (by decide) rfl rfl (z_Act_107 c (fun st c => ?_))
  unfold am_nx am_push
  dsimp only
  refine q_oast c (by decide) (by decide) (by decide) (by decide) (by decide) rfl (fun st c => ?_)
  refine q_iinc (x := 2) (v := 3) rfl ⟨by decide, by decide⟩ rfl ?_
  unfold c_at
  refine B_Bill_newActs_8 _ _ _ _ _ ?_
  unfold b_Bill_newActs_8
  refine q_iload (x := 3) rfl ?_
  refine q_const ?_
  refine q_lt (by decide) ?_
  refine q_aload (x := 96) rfl ?_
  refine q_iload (x := 3) rfl ?_
  refine q_new (o := 112) (rc' := 14) (rs' := 120) c rfl (by decide) rfl rfl rfl (fun st c => ?_)
  refine q_dup ?_
  refine q_callI0 (rc' := 10) (rs' := 88) c (by decide) (by decide) (by decide) rfl rfl (z_Act_112 c (fun st c => ?_))
  unfold am_nx am_push
  dsimp only
  refine q_oast c (by decide) (by decide) (by decide) (by decide) (by decide) rfl (fun st c => ?_)
  refine q_iinc (x := 3) (v := 4) rfl ⟨by decide, by decide⟩ rfl ?_
  unfold c_at
  refine B_Bill_newActs_8 _ _ _ _ _ ?_
  unfold b_Bill_newActs_8
  refine q_iload (x := 4) rfl ?_
  refine q_const ?_
  refine q_lt (by decide) ?_
  refine q_aload (x := 96) rfl ?_
  refine q_iload (x := 4) rfl ?_
  refine q_new (o := 117) (rc' := 9) (rs' := 76) c rfl (by decide) rfl rfl rfl (fun st c => ?_)
  refine q_dup ?_
  refine q_callI0 (rc' := 5) (rs' := 44) c (by decide) (by decide) (by decide) rfl rfl (z_Act_117 c (fun st c => ?_))
  unfold am_nx am_push
  dsimp only
  refine q_oast c (by decide) (by decide) (by decide) (by decide) (by decide) rfl (fun st c => ?_)
  refine q_iinc (x := 4) (v := 5) rfl ⟨by decide, by decide⟩ rfl ?_
  unfold c_at
  refine B_Bill_newActs_8 _ _ _ _ _ ?_
  unfold b_Bill_newActs_8
  refine q_iload (x := 5) rfl ?_
  refine q_const ?_
  refine q_lt (by decide) ?_
  refine q_aload (x := 96) rfl ?_
  refine q_iload (x := 5) rfl ?_
  refine q_new (o := 122) (rc' := 4) (rs' := 32) c rfl (by decide) rfl rfl rfl (fun st c => ?_)
  refine q_dup ?_
  refine q_callI0 (rc' := 0) (rs' := 0) c (by decide) (by decide) (by decide) rfl rfl (z_Act_122 c (fun st c => ?_))
  unfold am_nx am_push
  dsimp only
  refine q_oast c (by decide) (by decide) (by decide) (by decide) (by decide) rfl (fun st c => ?_)
  refine q_iinc (x := 5) (v := 6) rfl ⟨by decide, by decide⟩ rfl ?_
  unfold c_at
  refine B_Bill_newActs_8 _ _ _ _ _ ?_
  unfold b_Bill_newActs_8
  refine q_iload (x := 6) rfl ?_
  refine q_const ?_
  refine q_ge (by decide) ?_
  unfold b_Bill_newActs_30
  refine q_aload (x := 96) rfl ?_
  exact h _ c
theorem z_Bill_64 (c : CS 64 l M0 st) (h : ∀ st, CS 134 ((64, 3, 134) :: (64, 2, 127) :: (127, 0, 128) :: (127, 1, 129) :: (127, 2, 130) :: (127, 3, 131) :: (127, 4, 132) :: (127, 5, 133) :: (64, 1, 96) :: (96, 5, 122) :: (122, 3, 126) :: (122, 2, 125) :: (122, 1, 124) :: (122, 0, 123) :: (96, 4, 117) :: (117, 3, 121) :: (117, 2, 120) :: (117, 1, 119) :: (117, 0, 118) :: (96, 3, 112) :: (112, 3, 116) :: (112, 2, 115) :: (112, 1, 114) :: (112, 0, 113) :: (96, 2, 107) :: (107, 3, 111) :: (107, 2, 110) :: (107, 1, 109) :: (107, 0, 108) :: (96, 1, 102) :: (102, 3, 106) :: (102, 2, 105) :: (102, 1, 104) :: (102, 0, 103) :: (96, 0, 97) :: (97, 3, 101) :: (97, 2, 100) :: (97, 1, 99) :: (97, 0, 98) :: (64, 0, 65) :: (65, 5, 91) :: (91, 3, 95) :: (91, 2, 94) :: (91, 1, 93) :: (91, 0, 92) :: (65, 4, 86) :: (86, 3, 90) :: (86, 2, 89) :: (86, 1, 88) :: (86, 0, 87) :: (65, 3, 81) :: (81, 3, 85) :: (81, 2, 84) :: (81, 1, 83) :: (81, 0, 82) :: (65, 2, 76) :: (76, 3, 80) :: (76, 2, 79) :: (76, 1, 78) :: (76, 0, 77) :: (65, 1, 71) :: (71, 3, 75) :: (71, 2, 74) :: (71, 1, 73) :: (71, 0, 72) :: (65, 0, 66) :: (66, 3, 70) :: (66, 2, 69) :: (66, 1, 68) :: (66, 0, 67) :: l) M0 st → Q none st) : am_Call (d + 5) m_Bill_init 70 1113 [vR 64] st Q := by
  refine am_go B_Bill_init_0 rfl (Nat.le_of_ble_eq_true rfl) ?_
  unfold b_Bill_init_0
  refine q_aload (x := 64) rfl ?_
  refine q_oini c (by decide) (by decide) (by decide) ?_
  refine q_aload (x := 64) rfl ?_
  refine q_callA (rc' := 39) (rs' := 843) (by decide) rfl rfl (z_Bill_newActs_65 c (fun st c => ?_))
  unfold am_nx am_push
  dsimp only
  refine q_putR c (by decide) (by decide) rfl (fun st c => ?_)
  refine q_aload (x := 64) rfl ?_
  refine q_callA (rc' := 8) (rs' := 573) (by decide) rfl rfl (z_Bill_newActs_96 c (fun st c => ?_))
  unfold am_nx am_push
  dsimp only
  refine q_putR c (by decide) (by decide) rfl (fun st c => ?_)
  refine q_aload (x := 64) rfl ?_
  refine q_const ?_
  refine q_const ?_
  refine q_mna (rc' := 1) (rs' := 81) c rfl rfl (fun st c => ?_)
  refine q_putR c (by decide) (by decide) rfl (fun st c => ?_)
  refine q_aload (x := 64) rfl ?_
  refine q_const ?_
  refine q_newa_int (o := 134) (N := 81) (rc' := 0) (rs' := 0) c rfl (by decide) rfl rfl rfl rfl (by decide) (fun st c => ?_)
  refine q_putR c (by decide) (by decide) rfl (fun st c => ?_)
  exact h _ c
theorem z_Image_135 (c : CS 135 l M0 st) (h : ∀ st, CS 136 ((135, 0, 136) :: l) M0 st → Q none st) : am_Call (d + 5) m_Image_init 1 290 [vR 135] st Q := by
  refine am_go B_Image_init_0 rfl (Nat.le_of_ble_eq_true rfl) ?_
  unfold b_Image_init_0
  refine q_aload (x := 135) rfl ?_
  refine q_oini c (by decide) (by decide) (by decide) ?_
  refine q_aload (x := 135) rfl ?_
  refine q_const ?_
  refine q_newa_int (o := 136) (N := 290) (rc' := 0) (rs' := 0) c rfl (by decide) rfl rfl rfl rfl (by decide) (fun st c => ?_)
  refine q_putR c (by decide) (by decide) rfl (fun st c => ?_)
  exact h _ c
theorem z_FB_1 (c : CS 1 [] M0 st) (h : ∀ st, CS 136 ((1, 8, 135) :: (135, 0, 136) :: (1, 7, 64) :: (64, 3, 134) :: (64, 2, 127) :: (127, 0, 128) :: (127, 1, 129) :: (127, 2, 130) :: (127, 3, 131) :: (127, 4, 132) :: (127, 5, 133) :: (64, 1, 96) :: (96, 5, 122) :: (122, 3, 126) :: (122, 2, 125) :: (122, 1, 124) :: (122, 0, 123) :: (96, 4, 117) :: (117, 3, 121) :: (117, 2, 120) :: (117, 1, 119) :: (117, 0, 118) :: (96, 3, 112) :: (112, 3, 116) :: (112, 2, 115) :: (112, 1, 114) :: (112, 0, 113) :: (96, 2, 107) :: (107, 3, 111) :: (107, 2, 110) :: (107, 1, 109) :: (107, 0, 108) :: (96, 1, 102) :: (102, 3, 106) :: (102, 2, 105) :: (102, 1, 104) :: (102, 0, 103) :: (96, 0, 97) :: (97, 3, 101) :: (97, 2, 100) :: (97, 1, 99) :: (97, 0, 98) :: (64, 0, 65) :: (65, 5, 91) :: (91, 3, 95) :: (91, 2, 94) :: (91, 1, 93) :: (91, 0, 92) :: (65, 4, 86) :: (86, 3, 90) :: (86, 2, 89) :: (86, 1, 88) :: (86, 0, 87) :: (65, 3, 81) :: (81, 3, 85) :: (81, 2, 84) :: (81, 1, 83) :: (81, 0, 82) :: (65, 2, 76) :: (76, 3, 80) :: (76, 2, 79) :: (76, 1, 78) :: (76, 0, 77) :: (65, 1, 71) :: (71, 3, 75) :: (71, 2, 74) :: (71, 1, 73) :: (71, 0, 72) :: (65, 0, 66) :: (66, 3, 70) :: (66, 2, 69) :: (66, 1, 68) :: (66, 0, 67) :: (1, 6, 59) :: (59, 3, 63) :: (59, 2, 62) :: (59, 1, 61) :: (59, 0, 60) :: (1, 5, 50) :: (50, 6, 4) :: (50, 5, 58) :: (50, 4, 57) :: (50, 3, 56) :: (50, 2, 55) :: (50, 1, 54) :: (50, 0, 51) :: (51, 1, 53) :: (51, 0, 52) :: (1, 4, 47) :: (47, 1, 49) :: (47, 0, 48) :: (1, 3, 46) :: (46, 1, 25) :: (46, 0, 2) :: (46, 6, (-1)) :: (1, 2, 25) :: (25, 2, 36) :: (36, 8, 45) :: (36, 7, 44) :: (36, 6, 43) :: (36, 5, 42) :: (36, 4, 41) :: (36, 3, 40) :: (36, 2, 39) :: (36, 1, 38) :: (36, 0, 37) :: (25, 1, 33) :: (33, 1, 35) :: (33, 0, 34) :: (25, 0, 26) :: (26, 5, 32) :: (26, 4, 31) :: (26, 3, 30) :: (26, 2, 29) :: (26, 1, 28) :: (26, 0, 27) :: (1, 1, 4) :: (4, 2, 15) :: (15, 8, 24) :: (15, 7, 23) :: (15, 6, 22) :: (15, 5, 21) :: (15, 4, 20) :: (15, 3, 19) :: (15, 2, 18) :: (15, 1, 17) :: (15, 0, 16) :: (4, 1, 12) :: (12, 1, 14) :: (12, 0, 13) :: (4, 0, 5) :: (5, 5, 11) :: (5, 4, 10) :: (5, 3, 9) :: (5, 2, 8) :: (5, 1, 7) :: (5, 0, 6) :: (1, 0, 2) :: (2, 0, 3) :: []) M0 st → Q none st) : am_Call (d + 6) m_FB_init 135 94699 [vR 1] st Q := by
  refine am_go B_FB_init_0 rfl (Nat.le_of_ble_eq_true rfl) ?_
  unfold b_FB_init_0
  refine q_aload (x := 1) rfl ?_
  refine q_oini c (by decide) (by decide) (by decide) ?_
  refine q_aload (x := 1) rfl ?_
  refine q_new (o := 2) (rc' := 134) (rs' := 94696) c rfl (by decide) rfl rfl rfl (fun st c => ?_)
  refine q_dup ?_
  refine q_callI0 (rc' := 133) (rs' := 93796) c (by decide) (by decide) (by decide) rfl rfl (z_Tape_2 c (fun st c => ?_))
  unfold am_nx am_push
  dsimp only
  refine q_putR c (by decide) (by decide) rfl (fun st c => ?_)
  refine q_aload (x := 1) rfl ?_
  refine q_new (o := 4) (rc' := 132) (rs' := 93792) c rfl (by decide) rfl rfl rfl (fun st c => ?_)
  refine q_dup ?_
  refine q_callI0 (rc' := 112) (rs' := 92751) c (by decide) (by decide) (by decide) rfl rfl (z_Rig_4 c (fun st c => ?_))
  unfold am_nx am_push
  dsimp only
  refine q_putR c (by decide) (by decide) rfl (fun st c => ?_)
  refine q_aload (x := 1) rfl ?_
  refine q_new (o := 25) (rc' := 111) (rs' := 92747) c rfl (by decide) rfl rfl rfl (fun st c => ?_)
  refine q_dup ?_
  refine q_callI0 (rc' := 91) (rs' := 91706) c (by decide) (by decide) (by decide) rfl rfl (z_Rig_25 c (fun st c => ?_))
  unfold am_nx am_push
  dsimp only
  refine q_putR c (by decide) (by decide) rfl (fun st c => ?_)
  refine q_aload (x := 1) rfl ?_
  refine q_new (o := 46) (rc' := 90) (rs' := 91699) c rfl (by decide) rfl rfl rfl (fun st c => ?_)
  refine q_dup ?_
  refine q_aload (x := 1) rfl ?_
  refine q_getR (v := 2) c (by decide) (by decide) rfl (by decide) ?_
  refine q_aload (x := 1) rfl ?_
  refine q_getR (v := 25) c (by decide) (by decide) rfl (by decide) ?_
  refine q_callI2 (rc' := 90) (rs' := 91699) c (by decide) (by decide) (by decide) rfl rfl (z_Reader_46 c (fun st c => ?_))
  unfold am_nx am_push
  dsimp only
  refine q_putR c (by decide) (by decide) rfl (fun st c => ?_)
  refine q_aload (x := 1) rfl ?_
  refine q_new (o := 47) (rc' := 89) (rs' := 91687) c rfl (by decide) rfl rfl rfl (fun st c => ?_)
  refine q_dup ?_
  refine q_callI0 (rc' := 87) (rs' := 91622) c (by decide) (by decide) (by decide) rfl rfl (z_Flight_47 c (fun st c => ?_))
  unfold am_nx am_push
  dsimp only
  refine q_putR c (by decide) (by decide) rfl (fun st c => ?_)
  refine q_aload (x := 1) rfl ?_
  refine q_new (o := 50) (rc' := 86) (rs' := 91605) c rfl (by decide) rfl rfl rfl (fun st c => ?_)
  refine q_dup ?_
  refine q_aload (x := 1) rfl ?_
  refine q_getR (v := 4) c (by decide) (by decide) rfl (by decide) ?_
  refine q_callI1 (rc' := 78) (rs' := 1455) c (by decide) (by decide) (by decide) rfl rfl (z_Search_50 c (fun st c => ?_))
  unfold am_nx am_push
  dsimp only
  refine q_putR c (by decide) (by decide) rfl (fun st c => ?_)
  refine q_aload (x := 1) rfl ?_
  refine q_new (o := 59) (rc' := 77) (rs' := 1443) c rfl (by decide) rfl rfl rfl (fun st c => ?_)
  refine q_dup ?_
  refine q_callI0 (rc' := 73) (rs' := 1411) c (by decide) (by decide) (by decide) rfl rfl (z_Act_59 c (fun st c => ?_))
  unfold am_nx am_push
  dsimp only
  refine q_putR c (by decide) (by decide) rfl (fun st c => ?_)
  refine q_aload (x := 1) rfl ?_
  refine q_new (o := 64) (rc' := 72) (rs' := 1406) c rfl (by decide) rfl rfl rfl (fun st c => ?_)
  unfold b_FB_init_97
  refine q_dup ?_
  refine q_callI0 (rc' := 2) (rs' := 293) c (by decide) (by decide) (by decide) rfl rfl (z_Bill_64 c (fun st c => ?_))
  unfold am_nx am_push
  dsimp only
  refine q_putR c (by decide) (by decide) rfl (fun st c => ?_)
  refine q_aload (x := 1) rfl ?_
  refine q_new (o := 135) (rc' := 1) (rs' := 290) c rfl (by decide) rfl rfl rfl (fun st c => ?_)
  refine q_dup ?_
  refine q_callI0 (rc' := 0) (rs' := 0) c (by decide) (by decide) (by decide) rfl rfl (z_Image_135 c (fun st c => ?_))
  unfold am_nx am_push
  dsimp only
  refine q_putR c (by decide) (by decide) rfl (fun st c => ?_)
  exact h _ c
end
