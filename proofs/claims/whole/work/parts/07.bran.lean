/-! division, bits, compares, branches -/
def am_and (a b : Int) : Int := (Int32.ofInt a &&& Int32.ofInt b).toInt
def am_or (a b : Int) : Int := (Int32.ofInt a ||| Int32.ofInt b).toInt
def am_xor (a b : Int) : Int := (Int32.ofInt a ^^^ Int32.ofInt b).toInt
def am_shl (a b : Int) : Int := (Int32.ofInt a <<< (Int32.ofInt b &&& 31)).toInt
def am_shr (a b : Int) : Int := (Int32.ofInt a >>> (Int32.ofInt b &&& 31)).toInt
def am_i2c (a : Int) : Int := ((Int32.ofInt a).toUInt32 % 65536).toInt32.toInt
def am_cmp (a b : Int) : Int := if a < b then -1 else if a = b then 0 else 1
theorem am_min32 : Int32.minValue.toInt = -2147483648 := by decide
theorem am_max32 : Int32.maxValue.toInt = 2147483647 := by decide
theorem am_min64 : Int64.minValue.toInt = -9223372036854775808 := by decide
theorem am_max64 : Int64.maxValue.toInt = 9223372036854775807 := by decide
theorem am_div32 {a b : Int} (ha : am_i32 a) (hb : am_i32 b) : Int32.ofInt (a.tdiv b) = Int32.ofInt a / Int32.ofInt b := Int32.ofInt_tdiv (by rw [am_min32]; exact ha.1) (by rw [am_max32]; exact ha.2) (by rw [am_min32]; exact hb.1) (by rw [am_max32]; exact hb.2)
theorem am_div64 {a b : Int} (ha : am_i64 a) (hb : am_i64 b) : Int64.ofInt (a.tdiv b) = Int64.ofInt a / Int64.ofInt b := Int64.ofInt_tdiv (by rw [am_min64]; exact ha.1) (by rw [am_max64]; exact ha.2) (by rw [am_min64]; exact hb.1) (by rw [am_max64]; exact hb.2)
theorem am_rem32 {a b : Int} (ha : am_i32 a) (hb : am_i32 b) : Int32.ofInt (a.tmod b) = Int32.ofInt a - Int32.ofInt a / Int32.ofInt b * Int32.ofInt b := by
  rw [← am_div32 ha hb, ← Int32.ofInt_mul, ← Int32.ofInt_sub, Int.tmod_def, Int.mul_comm b]
theorem am_rem64 {a b : Int} (ha : am_i64 a) (hb : am_i64 b) : Int64.ofInt (a.tmod b) = Int64.ofInt a - Int64.ofInt a / Int64.ofInt b * Int64.ofInt b := by
  rw [← am_div64 ha hb, ← Int64.ofInt_mul, ← Int64.ofInt_sub, Int.tmod_def, Int.mul_comm b]
theorem am_ne0 {b : Int} (hb : am_i32 b) (h : b ≠ 0) : ¬ Int32.ofInt b = 0 := fun e => h ((am_eq hb (am_32c (by omega) (by omega))).mp e)
theorem am_ne0l {b : Int} (hb : am_i64 b) (h : b ≠ 0) : ¬ Int64.ofInt b = 0 := fun e => h ((am_eql hb (show am_i64 0 from ⟨by omega, by omega⟩)).mp e)
theorem am_tmod32 {a b : Int} (ha : am_i32 a) (hb : am_i32 b) : am_i32 (a.tmod b) := by
  have h := Int32.toInt_mod (Int32.ofInt a) (Int32.ofInt b)
  rw [am_ti ha, am_ti hb] at h
  rw [← h]; exact am_32of _
theorem am_tmod64 {a b : Int} (ha : am_i64 a) (hb : am_i64 b) : am_i64 (a.tmod b) := by
  have h := Int64.toInt_mod (Int64.ofInt a) (Int64.ofInt b)
  rw [am_tl ha, am_tl hb] at h
  rw [← h]; unfold am_i64; have := Int64.le_toInt (Int64.ofInt a % Int64.ofInt b); have := Int64.toInt_lt (Int64.ofInt a % Int64.ofInt b); omega
theorem am_cmp_eq {a b : Int} (ha : am_i64 a) (hb : am_i64 b) : Int32.ofInt (am_cmp a b) = lg_cmp (Int64.ofInt a) (Int64.ofInt b) := by
  unfold am_cmp lg_cmp
  simp only [gt_iff_lt, Int64.lt_iff_toInt_lt, am_tl ha, am_tl hb, am_eql ha hb]
  by_cases h1 : a < b
  · have h2 : ¬ a = b := by omega
    have h3 : ¬ b < a := by omega
    rw [if_pos h1, if_neg h3, if_neg h2]; rfl
  · by_cases h2 : a = b
    · subst h2; rw [if_neg h1, if_pos rfl, if_neg h1, if_pos rfl]; rfl
    · have h3 : b < a := by omega
      rw [if_neg h1, if_neg h2, if_pos h3]; rfl
theorem am_cmp_i32 (a b : Int) : am_i32 (am_cmp a b) := by unfold am_cmp am_i32; split <;> (try split) <;> omega
def am_sw (J : Nat → Prop) (a : Int) : Int → List Nat → Prop
  | _, [] => True
  | lo, t :: ts => (a = lo → J t) ∧ am_sw J a (lo + 1) ts
theorem am_sw_get {J : Nat → Prop} {a : Int} : ∀ {lo : Int} {ts : List Nat}, am_sw J a lo ts → ∀ (i t : Nat), ts[i]? = some t → a = lo + i → J t
  | _, [], _, i, t, h, _ => by simp at h
  | lo, x :: ts, hs, 0, t, h, e => by
    simp at h
    subst h
    exact hs.1 (by omega)
  | lo, x :: ts, hs, i + 1, t, h, e => am_sw_get hs.2 i t (by simpa using h) (by omega)
theorem sd_idiv {d : Nat} {k : am_M} {rc rs pc : Nat} {ls stk : List AV} {st : am_S} {Q : AV → am_S → Prop} {a b : Int} (hd : decode k.2.1 pc = .ok (.idiv, 1)) (hb0 : b ≠ 0) (hr : am_i32 (a.tdiv b)) (h : am_Wp d k rc rs (pc + 1) (ls) (vI (a.tdiv b) :: stk) (st) Q) : am_Wp d k rc rs (pc) (ls) (vI b :: vI a :: stk) (st) Q := by
  intro g l p e R s m args below meth c Z ads0 n0 cm sm F O hZ ads H locs cells slots lsA hH he hn hc hs hl hol hos
  obtain ⟨hx, hb, hml, hown, hts, hG, hE, hin⟩ := id F
  have K : W p l e R s m args below meth c H locs cells slots Z (F0 m (pc + 1) lsA (.int (Int32.ofInt (a.tdiv b)) :: stk.map (am_cv g ads))) := h g l p e R s m args below meth c Z ads0 n0 cm sm F O hZ ads H locs cells slots lsA hH he hn hc hs hl hol (am_cns hr (am_tlv (am_tlv hos)))
  rw [am_div32 (am_hd (am_tlv hos)) (am_hd hos)] at K
  exact lv_idiv hx hb hd (am_ne0 (am_hd hos) hb0) K
theorem sd_irem {d : Nat} {k : am_M} {rc rs pc : Nat} {ls stk : List AV} {st : am_S} {Q : AV → am_S → Prop} {a b : Int} (hd : decode k.2.1 pc = .ok (.irem, 1)) (hb0 : b ≠ 0) (h : am_Wp d k rc rs (pc + 1) (ls) (vI (a.tmod b) :: stk) (st) Q) : am_Wp d k rc rs (pc) (ls) (vI b :: vI a :: stk) (st) Q := by
  intro g l p e R s m args below meth c Z ads0 n0 cm sm F O hZ ads H locs cells slots lsA hH he hn hc hs hl hol hos
  obtain ⟨hx, hb, hml, hown, hts, hG, hE, hin⟩ := id F
  have K : W p l e R s m args below meth c H locs cells slots Z (F0 m (pc + 1) lsA (.int (Int32.ofInt (a.tmod b)) :: stk.map (am_cv g ads))) := h g l p e R s m args below meth c Z ads0 n0 cm sm F O hZ ads H locs cells slots lsA hH he hn hc hs hl hol (am_cns (am_tmod32 (am_hd (am_tlv hos)) (am_hd hos)) (am_tlv (am_tlv hos)))
  rw [am_rem32 (am_hd (am_tlv hos)) (am_hd hos)] at K
  exact lv_irem hx hb hd (am_ne0 (am_hd hos) hb0) K
theorem sd_ldiv {d : Nat} {k : am_M} {rc rs pc : Nat} {ls stk : List AV} {st : am_S} {Q : AV → am_S → Prop} {a b : Int} (hd : decode k.2.1 pc = .ok (.ldiv, 1)) (hb0 : b ≠ 0) (hr : am_i64 (a.tdiv b)) (h : am_Wp d k rc rs (pc + 1) (ls) (vL (a.tdiv b) :: stk) (st) Q) : am_Wp d k rc rs (pc) (ls) (vL b :: vL a :: stk) (st) Q := by
  intro g l p e R s m args below meth c Z ads0 n0 cm sm F O hZ ads H locs cells slots lsA hH he hn hc hs hl hol hos
  obtain ⟨hx, hb, hml, hown, hts, hG, hE, hin⟩ := id F
  have K : W p l e R s m args below meth c H locs cells slots Z (F0 m (pc + 1) lsA (.long (Int64.ofInt (a.tdiv b)) :: stk.map (am_cv g ads))) := h g l p e R s m args below meth c Z ads0 n0 cm sm F O hZ ads H locs cells slots lsA hH he hn hc hs hl hol (am_cns hr (am_tlv (am_tlv hos)))
  rw [am_div64 (am_hd (am_tlv hos)) (am_hd hos)] at K
  exact lv_ldiv hx hb hd (am_ne0l (am_hd hos) hb0) K
theorem sd_lrem {d : Nat} {k : am_M} {rc rs pc : Nat} {ls stk : List AV} {st : am_S} {Q : AV → am_S → Prop} {a b : Int} (hd : decode k.2.1 pc = .ok (.lrem, 1)) (hb0 : b ≠ 0) (h : am_Wp d k rc rs (pc + 1) (ls) (vL (a.tmod b) :: stk) (st) Q) : am_Wp d k rc rs (pc) (ls) (vL b :: vL a :: stk) (st) Q := by
  intro g l p e R s m args below meth c Z ads0 n0 cm sm F O hZ ads H locs cells slots lsA hH he hn hc hs hl hol hos
  obtain ⟨hx, hb, hml, hown, hts, hG, hE, hin⟩ := id F
  have K : W p l e R s m args below meth c H locs cells slots Z (F0 m (pc + 1) lsA (.long (Int64.ofInt (a.tmod b)) :: stk.map (am_cv g ads))) := h g l p e R s m args below meth c Z ads0 n0 cm sm F O hZ ads H locs cells slots lsA hH he hn hc hs hl hol (am_cns (am_tmod64 (am_hd (am_tlv hos)) (am_hd hos)) (am_tlv (am_tlv hos)))
  rw [am_rem64 (am_hd (am_tlv hos)) (am_hd hos)] at K
  exact lv_lrem hx hb hd (am_ne0l (am_hd hos) hb0) K
theorem sd_iand {d : Nat} {k : am_M} {rc rs pc : Nat} {ls stk : List AV} {st : am_S} {Q : AV → am_S → Prop} {a b : Int} (hd : decode k.2.1 pc = .ok (.iand, 1)) (h : am_Wp d k rc rs (pc + 1) (ls) (vI (am_and a b) :: stk) (st) Q) : am_Wp d k rc rs (pc) (ls) (vI b :: vI a :: stk) (st) Q := by
  intro g l p e R s m args below meth c Z ads0 n0 cm sm F O hZ ads H locs cells slots lsA hH he hn hc hs hl hol hos
  obtain ⟨hx, hb, hml, hown, hts, hG, hE, hin⟩ := id F
  have K : W p l e R s m args below meth c H locs cells slots Z (F0 m (pc + 1) lsA (.int (Int32.ofInt (am_and a b)) :: stk.map (am_cv g ads))) := h g l p e R s m args below meth c Z ads0 n0 cm sm F O hZ ads H locs cells slots lsA hH he hn hc hs hl hol (am_cns (am_32of _) (am_tlv (am_tlv hos)))
  unfold am_and at K
  rw [Int32.ofInt_toInt] at K
  exact lv_iand hx hb hd K
theorem sd_ior {d : Nat} {k : am_M} {rc rs pc : Nat} {ls stk : List AV} {st : am_S} {Q : AV → am_S → Prop} {a b : Int} (hd : decode k.2.1 pc = .ok (.ior, 1)) (h : am_Wp d k rc rs (pc + 1) (ls) (vI (am_or a b) :: stk) (st) Q) : am_Wp d k rc rs (pc) (ls) (vI b :: vI a :: stk) (st) Q := by
  intro g l p e R s m args below meth c Z ads0 n0 cm sm F O hZ ads H locs cells slots lsA hH he hn hc hs hl hol hos
  obtain ⟨hx, hb, hml, hown, hts, hG, hE, hin⟩ := id F
  have K : W p l e R s m args below meth c H locs cells slots Z (F0 m (pc + 1) lsA (.int (Int32.ofInt (am_or a b)) :: stk.map (am_cv g ads))) := h g l p e R s m args below meth c Z ads0 n0 cm sm F O hZ ads H locs cells slots lsA hH he hn hc hs hl hol (am_cns (am_32of _) (am_tlv (am_tlv hos)))
  unfold am_or at K
  rw [Int32.ofInt_toInt] at K
  exact lv_ior hx hb hd K
theorem sd_ixor {d : Nat} {k : am_M} {rc rs pc : Nat} {ls stk : List AV} {st : am_S} {Q : AV → am_S → Prop} {a b : Int} (hd : decode k.2.1 pc = .ok (.ixor, 1)) (h : am_Wp d k rc rs (pc + 1) (ls) (vI (am_xor a b) :: stk) (st) Q) : am_Wp d k rc rs (pc) (ls) (vI b :: vI a :: stk) (st) Q := by
  intro g l p e R s m args below meth c Z ads0 n0 cm sm F O hZ ads H locs cells slots lsA hH he hn hc hs hl hol hos
  obtain ⟨hx, hb, hml, hown, hts, hG, hE, hin⟩ := id F
  have K : W p l e R s m args below meth c H locs cells slots Z (F0 m (pc + 1) lsA (.int (Int32.ofInt (am_xor a b)) :: stk.map (am_cv g ads))) := h g l p e R s m args below meth c Z ads0 n0 cm sm F O hZ ads H locs cells slots lsA hH he hn hc hs hl hol (am_cns (am_32of _) (am_tlv (am_tlv hos)))
  unfold am_xor at K
  rw [Int32.ofInt_toInt] at K
  exact lv_ixor hx hb hd K
theorem sd_ishl {d : Nat} {k : am_M} {rc rs pc : Nat} {ls stk : List AV} {st : am_S} {Q : AV → am_S → Prop} {a b : Int} (hd : decode k.2.1 pc = .ok (.ishl, 1)) (h : am_Wp d k rc rs (pc + 1) (ls) (vI (am_shl a b) :: stk) (st) Q) : am_Wp d k rc rs (pc) (ls) (vI b :: vI a :: stk) (st) Q := by
  intro g l p e R s m args below meth c Z ads0 n0 cm sm F O hZ ads H locs cells slots lsA hH he hn hc hs hl hol hos
  obtain ⟨hx, hb, hml, hown, hts, hG, hE, hin⟩ := id F
  have K : W p l e R s m args below meth c H locs cells slots Z (F0 m (pc + 1) lsA (.int (Int32.ofInt (am_shl a b)) :: stk.map (am_cv g ads))) := h g l p e R s m args below meth c Z ads0 n0 cm sm F O hZ ads H locs cells slots lsA hH he hn hc hs hl hol (am_cns (am_32of _) (am_tlv (am_tlv hos)))
  unfold am_shl at K
  rw [Int32.ofInt_toInt] at K
  exact lv_ishl hx hb hd K
theorem sd_ishr {d : Nat} {k : am_M} {rc rs pc : Nat} {ls stk : List AV} {st : am_S} {Q : AV → am_S → Prop} {a b : Int} (hd : decode k.2.1 pc = .ok (.ishr, 1)) (h : am_Wp d k rc rs (pc + 1) (ls) (vI (am_shr a b) :: stk) (st) Q) : am_Wp d k rc rs (pc) (ls) (vI b :: vI a :: stk) (st) Q := by
  intro g l p e R s m args below meth c Z ads0 n0 cm sm F O hZ ads H locs cells slots lsA hH he hn hc hs hl hol hos
  obtain ⟨hx, hb, hml, hown, hts, hG, hE, hin⟩ := id F
  have K : W p l e R s m args below meth c H locs cells slots Z (F0 m (pc + 1) lsA (.int (Int32.ofInt (am_shr a b)) :: stk.map (am_cv g ads))) := h g l p e R s m args below meth c Z ads0 n0 cm sm F O hZ ads H locs cells slots lsA hH he hn hc hs hl hol (am_cns (am_32of _) (am_tlv (am_tlv hos)))
  unfold am_shr at K
  rw [Int32.ofInt_toInt] at K
  exact lv_ishr hx hb hd K
theorem sd_i2l {d : Nat} {k : am_M} {rc rs pc : Nat} {ls stk : List AV} {st : am_S} {Q : AV → am_S → Prop} {a : Int} (hd : decode k.2.1 pc = .ok (.i2l, 1)) (h : am_Wp d k rc rs (pc + 1) (ls) (vL a :: stk) (st) Q) : am_Wp d k rc rs (pc) (ls) (vI a :: stk) (st) Q := by
  intro g l p e R s m args below meth c Z ads0 n0 cm sm F O hZ ads H locs cells slots lsA hH he hn hc hs hl hol hos
  obtain ⟨hx, hb, hml, hown, hts, hG, hE, hin⟩ := id F
  have ha : am_i32 a := am_hd hos
  exact lv_i2l hx hb hd (Int64.toInt_inj.mp (by rw [Int32.toInt_toInt64, am_ti ha, am_tl (show am_i64 a by unfold am_i32 at ha; unfold am_i64; omega)])) (h g l p e R s m args below meth c Z ads0 n0 cm sm F O hZ ads H locs cells slots lsA hH he hn hc hs hl hol (am_cns (show am_i64 a by unfold am_i32 at ha; unfold am_i64; omega) (am_tlv hos)))
theorem sd_l2i {d : Nat} {k : am_M} {rc rs pc : Nat} {ls stk : List AV} {st : am_S} {Q : AV → am_S → Prop} {a : Int} (hd : decode k.2.1 pc = .ok (.l2i, 1)) (hr : am_i32 a) (h : am_Wp d k rc rs (pc + 1) (ls) (vI a :: stk) (st) Q) : am_Wp d k rc rs (pc) (ls) (vL a :: stk) (st) Q := by
  intro g l p e R s m args below meth c Z ads0 n0 cm sm F O hZ ads H locs cells slots lsA hH he hn hc hs hl hol hos
  obtain ⟨hx, hb, hml, hown, hts, hG, hE, hin⟩ := id F
  exact lv_l2i hx hb hd Int64.toInt32_ofInt (h g l p e R s m args below meth c Z ads0 n0 cm sm F O hZ ads H locs cells slots lsA hH he hn hc hs hl hol (am_cns hr (am_tlv hos)))
theorem sd_i2c {d : Nat} {k : am_M} {rc rs pc : Nat} {ls stk : List AV} {st : am_S} {Q : AV → am_S → Prop} {a : Int} (hd : decode k.2.1 pc = .ok (.i2c, 1)) (h : am_Wp d k rc rs (pc + 1) (ls) (vI (am_i2c a) :: stk) (st) Q) : am_Wp d k rc rs (pc) (ls) (vI a :: stk) (st) Q := by
  intro g l p e R s m args below meth c Z ads0 n0 cm sm F O hZ ads H locs cells slots lsA hH he hn hc hs hl hol hos
  obtain ⟨hx, hb, hml, hown, hts, hG, hE, hin⟩ := id F
  exact lv_i2c hx hb hd (Int32.ofInt_toInt _).symm (h g l p e R s m args below meth c Z ads0 n0 cm sm F O hZ ads H locs cells slots lsA hH he hn hc hs hl hol (am_cns (am_32of _) (am_tlv hos)))
theorem sd_lcmp {d : Nat} {k : am_M} {rc rs pc : Nat} {ls stk : List AV} {st : am_S} {Q : AV → am_S → Prop} {a b : Int} (hd : decode k.2.1 pc = .ok (.lcmp, 1)) (h : am_Wp d k rc rs (pc + 1) (ls) (vI (am_cmp a b) :: stk) (st) Q) : am_Wp d k rc rs (pc) (ls) (vL b :: vL a :: stk) (st) Q := by
  intro g l p e R s m args below meth c Z ads0 n0 cm sm F O hZ ads H locs cells slots lsA hH he hn hc hs hl hol hos
  obtain ⟨hx, hb, hml, hown, hts, hG, hE, hin⟩ := id F
  have K : W p l e R s m args below meth c H locs cells slots Z (F0 m (pc + 1) lsA (.int (Int32.ofInt (am_cmp a b)) :: stk.map (am_cv g ads))) := h g l p e R s m args below meth c Z ads0 n0 cm sm F O hZ ads H locs cells slots lsA hH he hn hc hs hl hol (am_cns (am_cmp_i32 a b) (am_tlv (am_tlv hos)))
  rw [am_cmp_eq (am_hd (am_tlv hos)) (am_hd hos)] at K
  exact W.lcmp hx hb hd K
theorem sd_dup {d : Nat} {k : am_M} {rc rs pc : Nat} {ls stk : List AV} {st : am_S} {Q : AV → am_S → Prop} {v : Int ⊕ Int ⊕ Int} (hd : decode k.2.1 pc = .ok (.dup, 1)) (hv : ∀ x, v ≠ .inr (.inl x)) (h : am_Wp d k rc rs (pc + 1) (ls) (some v :: some v :: stk) (st) Q) : am_Wp d k rc rs (pc) (ls) (some v :: stk) (st) Q := by
  intro g l p e R s m args below meth c Z ads0 n0 cm sm F O hZ ads H locs cells slots lsA hH he hn hc hs hl hol hos
  obtain ⟨hx, hb, hml, hown, hts, hG, hE, hin⟩ := id F
  exact lv_dup hx hb hd (am_cat1 hv) (h g l p e R s m args below meth c Z ads0 n0 cm sm F O hZ ads H locs cells slots lsA hH he hn hc hs hl hol (am_cns (am_hd hos) hos))
theorem sd_pop {d : Nat} {k : am_M} {rc rs pc : Nat} {ls stk : List AV} {st : am_S} {Q : AV → am_S → Prop} {v : Int ⊕ Int ⊕ Int} (hd : decode k.2.1 pc = .ok (.pop, 1)) (hv : ∀ x, v ≠ .inr (.inl x)) (h : am_Wp d k rc rs (pc + 1) (ls) (stk) (st) Q) : am_Wp d k rc rs (pc) (ls) (some v :: stk) (st) Q := by
  intro g l p e R s m args below meth c Z ads0 n0 cm sm F O hZ ads H locs cells slots lsA hH he hn hc hs hl hol hos
  obtain ⟨hx, hb, hml, hown, hts, hG, hE, hin⟩ := id F
  exact lv_pop hx hb hd (am_cat1 hv) (h g l p e R s m args below meth c Z ads0 n0 cm sm F O hZ ads H locs cells slots lsA hH he hn hc hs hl hol (am_tlv hos))
theorem sd_dup2 {d : Nat} {k : am_M} {rc rs pc : Nat} {ls stk : List AV} {st : am_S} {Q : AV → am_S → Prop} {v w : Int ⊕ Int ⊕ Int} (hd : decode k.2.1 pc = .ok (.dup2, 1)) (hv : ∀ x, v ≠ .inr (.inl x)) (hw : ∀ x, w ≠ .inr (.inl x)) (h : am_Wp d k rc rs (pc + 1) (ls) (some v :: some w :: some v :: some w :: stk) (st) Q) : am_Wp d k rc rs (pc) (ls) (some v :: some w :: stk) (st) Q := by
  intro g l p e R s m args below meth c Z ads0 n0 cm sm F O hZ ads H locs cells slots lsA hH he hn hc hs hl hol hos
  obtain ⟨hx, hb, hml, hown, hts, hG, hE, hin⟩ := id F
  exact lv_dup2_11 hx hb hd (am_cat1 hv) (am_cat1 hw) (h g l p e R s m args below meth c Z ads0 n0 cm sm F O hZ ads H locs cells slots lsA hH he hn hc hs hl hol (am_cns (am_hd hos) (am_cns (am_hd (am_tlv hos)) hos)))
theorem sd_goto {d : Nat} {k : am_M} {rc rs pc : Nat} {ls stk : List AV} {st : am_S} {Q : AV → am_S → Prop} {off : Int} {tgt : Nat} (hd : decode k.2.1 pc = .ok (.goto off, 3)) (ht : (pc : Int) + off = (tgt : Int)) (h : am_Wp d k rc rs (tgt) (ls) (stk) (st) Q) : am_Wp d k rc rs (pc) (ls) (stk) (st) Q := by
  intro g l p e R s m args below meth c Z ads0 n0 cm sm F O hZ ads H locs cells slots lsA hH he hn hc hs hl hol hos
  obtain ⟨hx, hb, hml, hown, hts, hG, hE, hin⟩ := id F
  exact lv_goto hx hb hd ht (h g l p e R s m args below meth c Z ads0 n0 cm sm F O hZ ads H locs cells slots lsA hH he hn hc hs hl hol hos)
theorem sd_icmp_eq {d : Nat} {k : am_M} {rc rs pc : Nat} {ls stk : List AV} {st : am_S} {Q : AV → am_S → Prop} {a b off : Int} {tgt : Nat} (hd : decode k.2.1 pc = .ok (.if_icmp .eq off, 3)) (ht : (pc : Int) + off = (tgt : Int)) (h1 : a = b → am_Wp d k rc rs (tgt) (ls) (stk) (st) Q) (h2 : ¬ a = b → am_Wp d k rc rs (pc + 3) (ls) (stk) (st) Q) : am_Wp d k rc rs (pc) (ls) (vI b :: vI a :: stk) (st) Q := by
  intro g l p e R s m args below meth c Z ads0 n0 cm sm F O hZ ads H locs cells slots lsA hH he hn hc hs hl hol hos
  obtain ⟨hx, hb, hml, hown, hts, hG, hE, hin⟩ := id F
  exact lv_icmp_eq hx hb hd ht (fun z => h1 ((am_eq (am_hd (am_tlv hos)) (am_hd hos)).mp z) g l p e R s m args below meth c Z ads0 n0 cm sm F O hZ ads H locs cells slots lsA hH he hn hc hs hl hol (am_tlv (am_tlv hos))) (fun z => h2 (fun q => z ((am_eq (am_hd (am_tlv hos)) (am_hd hos)).mpr q)) g l p e R s m args below meth c Z ads0 n0 cm sm F O hZ ads H locs cells slots lsA hH he hn hc hs hl hol (am_tlv (am_tlv hos)))
theorem sd_if_eq {d : Nat} {k : am_M} {rc rs pc : Nat} {ls stk : List AV} {st : am_S} {Q : AV → am_S → Prop} {a off : Int} {tgt : Nat} (hd : decode k.2.1 pc = .ok (.ifCond .eq off, 3)) (ht : (pc : Int) + off = (tgt : Int)) (h1 : a = 0 → am_Wp d k rc rs (tgt) (ls) (stk) (st) Q) (h2 : ¬ a = 0 → am_Wp d k rc rs (pc + 3) (ls) (stk) (st) Q) : am_Wp d k rc rs (pc) (ls) (vI a :: stk) (st) Q := by
  intro g l p e R s m args below meth c Z ads0 n0 cm sm F O hZ ads H locs cells slots lsA hH he hn hc hs hl hol hos
  obtain ⟨hx, hb, hml, hown, hts, hG, hE, hin⟩ := id F
  exact lv_if_eq hx hb hd ht (fun z => h1 ((am_eq (am_hd hos) (show am_i32 0 from am_32c (by omega) (by omega))).mp z) g l p e R s m args below meth c Z ads0 n0 cm sm F O hZ ads H locs cells slots lsA hH he hn hc hs hl hol (am_tlv hos)) (fun z => h2 (fun q => z ((am_eq (am_hd hos) (show am_i32 0 from am_32c (by omega) (by omega))).mpr q)) g l p e R s m args below meth c Z ads0 n0 cm sm F O hZ ads H locs cells slots lsA hH he hn hc hs hl hol (am_tlv hos))
theorem sd_icmp_ne {d : Nat} {k : am_M} {rc rs pc : Nat} {ls stk : List AV} {st : am_S} {Q : AV → am_S → Prop} {a b off : Int} {tgt : Nat} (hd : decode k.2.1 pc = .ok (.if_icmp .ne off, 3)) (ht : (pc : Int) + off = (tgt : Int)) (h1 : ¬ a = b → am_Wp d k rc rs (tgt) (ls) (stk) (st) Q) (h2 : a = b → am_Wp d k rc rs (pc + 3) (ls) (stk) (st) Q) : am_Wp d k rc rs (pc) (ls) (vI b :: vI a :: stk) (st) Q := by
  intro g l p e R s m args below meth c Z ads0 n0 cm sm F O hZ ads H locs cells slots lsA hH he hn hc hs hl hol hos
  obtain ⟨hx, hb, hml, hown, hts, hG, hE, hin⟩ := id F
  exact lv_icmp_ne hx hb hd ht (fun z => h1 (fun q => z ((am_eq (am_hd (am_tlv hos)) (am_hd hos)).mpr q)) g l p e R s m args below meth c Z ads0 n0 cm sm F O hZ ads H locs cells slots lsA hH he hn hc hs hl hol (am_tlv (am_tlv hos))) (fun z => h2 ((am_eq (am_hd (am_tlv hos)) (am_hd hos)).mp z) g l p e R s m args below meth c Z ads0 n0 cm sm F O hZ ads H locs cells slots lsA hH he hn hc hs hl hol (am_tlv (am_tlv hos)))
theorem sd_if_ne {d : Nat} {k : am_M} {rc rs pc : Nat} {ls stk : List AV} {st : am_S} {Q : AV → am_S → Prop} {a off : Int} {tgt : Nat} (hd : decode k.2.1 pc = .ok (.ifCond .ne off, 3)) (ht : (pc : Int) + off = (tgt : Int)) (h1 : ¬ a = 0 → am_Wp d k rc rs (tgt) (ls) (stk) (st) Q) (h2 : a = 0 → am_Wp d k rc rs (pc + 3) (ls) (stk) (st) Q) : am_Wp d k rc rs (pc) (ls) (vI a :: stk) (st) Q := by
  intro g l p e R s m args below meth c Z ads0 n0 cm sm F O hZ ads H locs cells slots lsA hH he hn hc hs hl hol hos
  obtain ⟨hx, hb, hml, hown, hts, hG, hE, hin⟩ := id F
  exact lv_if_ne hx hb hd ht (fun z => h1 (fun q => z ((am_eq (am_hd hos) (show am_i32 0 from am_32c (by omega) (by omega))).mpr q)) g l p e R s m args below meth c Z ads0 n0 cm sm F O hZ ads H locs cells slots lsA hH he hn hc hs hl hol (am_tlv hos)) (fun z => h2 ((am_eq (am_hd hos) (show am_i32 0 from am_32c (by omega) (by omega))).mp z) g l p e R s m args below meth c Z ads0 n0 cm sm F O hZ ads H locs cells slots lsA hH he hn hc hs hl hol (am_tlv hos))
theorem sd_icmp_lt {d : Nat} {k : am_M} {rc rs pc : Nat} {ls stk : List AV} {st : am_S} {Q : AV → am_S → Prop} {a b off : Int} {tgt : Nat} (hd : decode k.2.1 pc = .ok (.if_icmp .lt off, 3)) (ht : (pc : Int) + off = (tgt : Int)) (h1 : a < b → am_Wp d k rc rs (tgt) (ls) (stk) (st) Q) (h2 : ¬ a < b → am_Wp d k rc rs (pc + 3) (ls) (stk) (st) Q) : am_Wp d k rc rs (pc) (ls) (vI b :: vI a :: stk) (st) Q := by
  intro g l p e R s m args below meth c Z ads0 n0 cm sm F O hZ ads H locs cells slots lsA hH he hn hc hs hl hol hos
  obtain ⟨hx, hb, hml, hown, hts, hG, hE, hin⟩ := id F
  exact lv_icmp_lt hx hb hd ht (fun z => h1 ((am_lt (am_hd (am_tlv hos)) (am_hd hos)).mp z) g l p e R s m args below meth c Z ads0 n0 cm sm F O hZ ads H locs cells slots lsA hH he hn hc hs hl hol (am_tlv (am_tlv hos))) (fun z => h2 (fun q => z ((am_lt (am_hd (am_tlv hos)) (am_hd hos)).mpr q)) g l p e R s m args below meth c Z ads0 n0 cm sm F O hZ ads H locs cells slots lsA hH he hn hc hs hl hol (am_tlv (am_tlv hos)))
theorem sd_if_lt {d : Nat} {k : am_M} {rc rs pc : Nat} {ls stk : List AV} {st : am_S} {Q : AV → am_S → Prop} {a off : Int} {tgt : Nat} (hd : decode k.2.1 pc = .ok (.ifCond .lt off, 3)) (ht : (pc : Int) + off = (tgt : Int)) (h1 : a < 0 → am_Wp d k rc rs (tgt) (ls) (stk) (st) Q) (h2 : ¬ a < 0 → am_Wp d k rc rs (pc + 3) (ls) (stk) (st) Q) : am_Wp d k rc rs (pc) (ls) (vI a :: stk) (st) Q := by
  intro g l p e R s m args below meth c Z ads0 n0 cm sm F O hZ ads H locs cells slots lsA hH he hn hc hs hl hol hos
  obtain ⟨hx, hb, hml, hown, hts, hG, hE, hin⟩ := id F
  exact lv_if_lt hx hb hd ht (fun z => h1 ((am_lt (am_hd hos) (show am_i32 0 from am_32c (by omega) (by omega))).mp z) g l p e R s m args below meth c Z ads0 n0 cm sm F O hZ ads H locs cells slots lsA hH he hn hc hs hl hol (am_tlv hos)) (fun z => h2 (fun q => z ((am_lt (am_hd hos) (show am_i32 0 from am_32c (by omega) (by omega))).mpr q)) g l p e R s m args below meth c Z ads0 n0 cm sm F O hZ ads H locs cells slots lsA hH he hn hc hs hl hol (am_tlv hos))
theorem sd_icmp_ge {d : Nat} {k : am_M} {rc rs pc : Nat} {ls stk : List AV} {st : am_S} {Q : AV → am_S → Prop} {a b off : Int} {tgt : Nat} (hd : decode k.2.1 pc = .ok (.if_icmp .ge off, 3)) (ht : (pc : Int) + off = (tgt : Int)) (h1 : b ≤ a → am_Wp d k rc rs (tgt) (ls) (stk) (st) Q) (h2 : ¬ b ≤ a → am_Wp d k rc rs (pc + 3) (ls) (stk) (st) Q) : am_Wp d k rc rs (pc) (ls) (vI b :: vI a :: stk) (st) Q := by
  intro g l p e R s m args below meth c Z ads0 n0 cm sm F O hZ ads H locs cells slots lsA hH he hn hc hs hl hol hos
  obtain ⟨hx, hb, hml, hown, hts, hG, hE, hin⟩ := id F
  exact lv_icmp_ge hx hb hd ht (fun z => h1 ((am_le (am_hd hos) (am_hd (am_tlv hos))).mp z) g l p e R s m args below meth c Z ads0 n0 cm sm F O hZ ads H locs cells slots lsA hH he hn hc hs hl hol (am_tlv (am_tlv hos))) (fun z => h2 (fun q => z ((am_le (am_hd hos) (am_hd (am_tlv hos))).mpr q)) g l p e R s m args below meth c Z ads0 n0 cm sm F O hZ ads H locs cells slots lsA hH he hn hc hs hl hol (am_tlv (am_tlv hos)))
theorem sd_if_ge {d : Nat} {k : am_M} {rc rs pc : Nat} {ls stk : List AV} {st : am_S} {Q : AV → am_S → Prop} {a off : Int} {tgt : Nat} (hd : decode k.2.1 pc = .ok (.ifCond .ge off, 3)) (ht : (pc : Int) + off = (tgt : Int)) (h1 : 0 ≤ a → am_Wp d k rc rs (tgt) (ls) (stk) (st) Q) (h2 : ¬ 0 ≤ a → am_Wp d k rc rs (pc + 3) (ls) (stk) (st) Q) : am_Wp d k rc rs (pc) (ls) (vI a :: stk) (st) Q := by
  intro g l p e R s m args below meth c Z ads0 n0 cm sm F O hZ ads H locs cells slots lsA hH he hn hc hs hl hol hos
  obtain ⟨hx, hb, hml, hown, hts, hG, hE, hin⟩ := id F
  exact lv_if_ge hx hb hd ht (fun z => h1 ((am_le (show am_i32 0 from am_32c (by omega) (by omega)) (am_hd hos)).mp z) g l p e R s m args below meth c Z ads0 n0 cm sm F O hZ ads H locs cells slots lsA hH he hn hc hs hl hol (am_tlv hos)) (fun z => h2 (fun q => z ((am_le (show am_i32 0 from am_32c (by omega) (by omega)) (am_hd hos)).mpr q)) g l p e R s m args below meth c Z ads0 n0 cm sm F O hZ ads H locs cells slots lsA hH he hn hc hs hl hol (am_tlv hos))
theorem sd_icmp_gt {d : Nat} {k : am_M} {rc rs pc : Nat} {ls stk : List AV} {st : am_S} {Q : AV → am_S → Prop} {a b off : Int} {tgt : Nat} (hd : decode k.2.1 pc = .ok (.if_icmp .gt off, 3)) (ht : (pc : Int) + off = (tgt : Int)) (h1 : b < a → am_Wp d k rc rs (tgt) (ls) (stk) (st) Q) (h2 : ¬ b < a → am_Wp d k rc rs (pc + 3) (ls) (stk) (st) Q) : am_Wp d k rc rs (pc) (ls) (vI b :: vI a :: stk) (st) Q := by
  intro g l p e R s m args below meth c Z ads0 n0 cm sm F O hZ ads H locs cells slots lsA hH he hn hc hs hl hol hos
  obtain ⟨hx, hb, hml, hown, hts, hG, hE, hin⟩ := id F
  exact lv_icmp_gt hx hb hd ht (fun z => h1 ((am_lt (am_hd hos) (am_hd (am_tlv hos))).mp z) g l p e R s m args below meth c Z ads0 n0 cm sm F O hZ ads H locs cells slots lsA hH he hn hc hs hl hol (am_tlv (am_tlv hos))) (fun z => h2 (fun q => z ((am_lt (am_hd hos) (am_hd (am_tlv hos))).mpr q)) g l p e R s m args below meth c Z ads0 n0 cm sm F O hZ ads H locs cells slots lsA hH he hn hc hs hl hol (am_tlv (am_tlv hos)))
theorem sd_if_gt {d : Nat} {k : am_M} {rc rs pc : Nat} {ls stk : List AV} {st : am_S} {Q : AV → am_S → Prop} {a off : Int} {tgt : Nat} (hd : decode k.2.1 pc = .ok (.ifCond .gt off, 3)) (ht : (pc : Int) + off = (tgt : Int)) (h1 : 0 < a → am_Wp d k rc rs (tgt) (ls) (stk) (st) Q) (h2 : ¬ 0 < a → am_Wp d k rc rs (pc + 3) (ls) (stk) (st) Q) : am_Wp d k rc rs (pc) (ls) (vI a :: stk) (st) Q := by
  intro g l p e R s m args below meth c Z ads0 n0 cm sm F O hZ ads H locs cells slots lsA hH he hn hc hs hl hol hos
  obtain ⟨hx, hb, hml, hown, hts, hG, hE, hin⟩ := id F
  exact lv_if_gt hx hb hd ht (fun z => h1 ((am_lt (show am_i32 0 from am_32c (by omega) (by omega)) (am_hd hos)).mp z) g l p e R s m args below meth c Z ads0 n0 cm sm F O hZ ads H locs cells slots lsA hH he hn hc hs hl hol (am_tlv hos)) (fun z => h2 (fun q => z ((am_lt (show am_i32 0 from am_32c (by omega) (by omega)) (am_hd hos)).mpr q)) g l p e R s m args below meth c Z ads0 n0 cm sm F O hZ ads H locs cells slots lsA hH he hn hc hs hl hol (am_tlv hos))
theorem sd_icmp_le {d : Nat} {k : am_M} {rc rs pc : Nat} {ls stk : List AV} {st : am_S} {Q : AV → am_S → Prop} {a b off : Int} {tgt : Nat} (hd : decode k.2.1 pc = .ok (.if_icmp .le off, 3)) (ht : (pc : Int) + off = (tgt : Int)) (h1 : a ≤ b → am_Wp d k rc rs (tgt) (ls) (stk) (st) Q) (h2 : ¬ a ≤ b → am_Wp d k rc rs (pc + 3) (ls) (stk) (st) Q) : am_Wp d k rc rs (pc) (ls) (vI b :: vI a :: stk) (st) Q := by
  intro g l p e R s m args below meth c Z ads0 n0 cm sm F O hZ ads H locs cells slots lsA hH he hn hc hs hl hol hos
  obtain ⟨hx, hb, hml, hown, hts, hG, hE, hin⟩ := id F
  exact lv_icmp_le hx hb hd ht (fun z => h1 ((am_le (am_hd (am_tlv hos)) (am_hd hos)).mp z) g l p e R s m args below meth c Z ads0 n0 cm sm F O hZ ads H locs cells slots lsA hH he hn hc hs hl hol (am_tlv (am_tlv hos))) (fun z => h2 (fun q => z ((am_le (am_hd (am_tlv hos)) (am_hd hos)).mpr q)) g l p e R s m args below meth c Z ads0 n0 cm sm F O hZ ads H locs cells slots lsA hH he hn hc hs hl hol (am_tlv (am_tlv hos)))
theorem sd_if_le {d : Nat} {k : am_M} {rc rs pc : Nat} {ls stk : List AV} {st : am_S} {Q : AV → am_S → Prop} {a off : Int} {tgt : Nat} (hd : decode k.2.1 pc = .ok (.ifCond .le off, 3)) (ht : (pc : Int) + off = (tgt : Int)) (h1 : a ≤ 0 → am_Wp d k rc rs (tgt) (ls) (stk) (st) Q) (h2 : ¬ a ≤ 0 → am_Wp d k rc rs (pc + 3) (ls) (stk) (st) Q) : am_Wp d k rc rs (pc) (ls) (vI a :: stk) (st) Q := by
  intro g l p e R s m args below meth c Z ads0 n0 cm sm F O hZ ads H locs cells slots lsA hH he hn hc hs hl hol hos
  obtain ⟨hx, hb, hml, hown, hts, hG, hE, hin⟩ := id F
  exact lv_if_le hx hb hd ht (fun z => h1 ((am_le (am_hd hos) (show am_i32 0 from am_32c (by omega) (by omega))).mp z) g l p e R s m args below meth c Z ads0 n0 cm sm F O hZ ads H locs cells slots lsA hH he hn hc hs hl hol (am_tlv hos)) (fun z => h2 (fun q => z ((am_le (am_hd hos) (show am_i32 0 from am_32c (by omega) (by omega))).mpr q)) g l p e R s m args below meth c Z ads0 n0 cm sm F O hZ ads H locs cells slots lsA hH he hn hc hs hl hol (am_tlv hos))
theorem am_ro_none {g : am_G} {ads : Nat → Nat} {x : Int} (hx : -1000000 < x) : am_ro g ads x = none ↔ x = 0 := by
  unfold am_ro
  by_cases h0 : x = 0
  · simp [h0]
  · by_cases h1 : 0 < x
    · simp [h0, h1]
    · by_cases h2 : x = -1
      · simp [h2]
      · have h3 : ¬ x ≤ -1000000 := by omega
        simp only [h0, h1, h2, h3, if_false]
        constructor
        · intro h; split at h <;> cases h
        · intro h; exact absurd h id
theorem sd_ifnull {d : Nat} {k : am_M} {rc rs pc : Nat} {ls stk : List AV} {st : am_S} {Q : AV → am_S → Prop} {x off : Int} {tgt : Nat} (hd : decode k.2.1 pc = .ok (.ifnull off, 3)) (ht : (pc : Int) + off = (tgt : Int)) (hr : -1000000 < x) (h1 : x = 0 → am_Wp d k rc rs (tgt) (ls) (stk) (st) Q) (h2 : ¬ x = 0 → am_Wp d k rc rs (pc + 3) (ls) (stk) (st) Q) : am_Wp d k rc rs (pc) (ls) (vR x :: stk) (st) Q := by
  intro g l p e R s m args below meth c Z ads0 n0 cm sm F O hZ ads H locs cells slots lsA hH he hn hc hs hl hol hos
  obtain ⟨hx, hb, hml, hown, hts, hG, hE, hin⟩ := id F
  show W p l e R s m args below meth c H locs cells slots Z (F0 m (pc) lsA (va_rf (am_ro g ads x) :: stk.map (am_cv g ads)))
  cases e9 : am_ro g ads x with
  | none => exact lv_ifnullN hx hb hd ht (h1 ((am_ro_none hr).mp e9) g l p e R s m args below meth c Z ads0 n0 cm sm F O hZ ads H locs cells slots lsA hH he hn hc hs hl hol (am_tlv hos))
  | some a => exact lv_ifnull hx hb hd (h2 (fun q => by rw [(am_ro_none (g := g) (ads := ads) hr).mpr q] at e9; cases e9) g l p e R s m args below meth c Z ads0 n0 cm sm F O hZ ads H locs cells slots lsA hH he hn hc hs hl hol (am_tlv hos))
theorem sd_ifnonnull {d : Nat} {k : am_M} {rc rs pc : Nat} {ls stk : List AV} {st : am_S} {Q : AV → am_S → Prop} {x off : Int} {tgt : Nat} (hd : decode k.2.1 pc = .ok (.ifnonnull off, 3)) (ht : (pc : Int) + off = (tgt : Int)) (hr : -1000000 < x) (h1 : ¬ x = 0 → am_Wp d k rc rs (tgt) (ls) (stk) (st) Q) (h2 : x = 0 → am_Wp d k rc rs (pc + 3) (ls) (stk) (st) Q) : am_Wp d k rc rs (pc) (ls) (vR x :: stk) (st) Q := by
  intro g l p e R s m args below meth c Z ads0 n0 cm sm F O hZ ads H locs cells slots lsA hH he hn hc hs hl hol hos
  obtain ⟨hx, hb, hml, hown, hts, hG, hE, hin⟩ := id F
  show W p l e R s m args below meth c H locs cells slots Z (F0 m (pc) lsA (va_rf (am_ro g ads x) :: stk.map (am_cv g ads)))
  cases e9 : am_ro g ads x with
  | none => exact lv_ifnonnullN hx hb hd (h2 ((am_ro_none hr).mp e9) g l p e R s m args below meth c Z ads0 n0 cm sm F O hZ ads H locs cells slots lsA hH he hn hc hs hl hol (am_tlv hos))
  | some a => exact lv_ifnonnull hx hb hd ht (h1 (fun q => by rw [(am_ro_none (g := g) (ads := ads) hr).mpr q] at e9; cases e9) g l p e R s m args below meth c Z ads0 n0 cm sm F O hZ ads H locs cells slots lsA hH he hn hc hs hl hol (am_tlv hos))
theorem sd_table {d : Nat} {k : am_M} {rc rs pc : Nat} {ls stk : List AV} {st : am_S} {Q : AV → am_S → Prop} {a lo hi dflt : Int} {offs : Array Int} {len tD : Nat} {ts : List Nat} (hd : decode k.2.1 pc = .ok (.tableswitch dflt lo hi offs, len)) (hD : (pc : Int) + dflt = (tD : Int)) (hT : offs.toList.map (fun o => (pc : Int) + o) = ts.map (fun t : Nat => (t : Int))) (hN : lo + (ts.length : Int) = hi + 1) (h1 : (a < lo ∨ hi < a) → am_Wp d k rc rs (tD) (ls) (stk) (st) Q) (h2 : am_sw (fun t => am_Wp d k rc rs (t) (ls) (stk) (st) Q) a lo ts) : am_Wp d k rc rs (pc) (ls) (vI a :: stk) (st) Q := by
  intro g l p e R s m args below meth c Z ads0 n0 cm sm F O hZ ads H locs cells slots lsA hH he hn hc hs hl hol hos
  obtain ⟨hx, hb, hml, hown, hts, hG, hE, hin⟩ := id F
  have ha : am_i32 a := am_hd hos
  by_cases hO : a < lo ∨ hi < a
  · exact lv_tableOut hx hb hd (by rw [am_ti ha]; exact hO) hD (h1 hO g l p e R s m args below meth c Z ads0 n0 cm sm F O hZ ads H locs cells slots lsA hH he hn hc hs hl hol (am_tlv hos))
  · have hi2 : (a - lo).toNat < ts.length := by omega
    have ht9 : ts[(a - lo).toNat]? = some ts[(a - lo).toNat] := List.getElem?_eq_getElem hi2
    have e1 : (offs.toList.map (fun o => (pc : Int) + o))[(a - lo).toNat]? = some ((ts[(a - lo).toNat] : Nat) : Int) := by rw [hT, List.getElem?_map, ht9]; rfl
    rw [List.getElem?_map] at e1
    cases e2 : offs.toList[(a - lo).toNat]? with
    | none => rw [e2] at e1; cases e1
    | some o =>
      rw [e2] at e1
      have e3 : (pc : Int) + o = ((ts[(a - lo).toNat] : Nat) : Int) := Option.some.inj e1
      exact lv_tableIn hx hb hd (by rw [am_ti ha]; omega) (by rw [am_ti ha]; omega) (by rw [am_ti ha, ← Array.getElem?_toList]; exact e2) e3 ((am_sw_get h2 (a - lo).toNat _ ht9 (by omega)) g l p e R s m args below meth c Z ads0 n0 cm sm F O hZ ads H locs cells slots lsA hH he hn hc hs hl hol (am_tlv hos))
theorem sd_ireturn {d : Nat} {k : am_M} {rc rs pc : Nat} {ls stk : List AV} {st : am_S} {Q : AV → am_S → Prop} {x : Int} (hd : decode k.2.1 pc = .ok (.ireturn, 1)) (hs0 : stk = []) (hf9 : am_rf k.2.2.2 x) (h : Q (vI x) st) : am_Wp d k rc rs (pc) (ls) (vI x :: stk) (st) Q := by
  intro g l p e R s m args below meth c Z ads0 n0 cm sm F O hZ ads H locs cells slots lsA hH he hn hc hs hl hol hos
  obtain ⟨hx, hb, hml, hown, hts, hG, hE, hin⟩ := id F
  subst hs0
  exact hZ (vI x) st ads H locs cells slots lsA pc h (am_hd hos) he hn hH (by omega) (by omega) ⟨hd, hf9⟩
theorem sd_lreturn {d : Nat} {k : am_M} {rc rs pc : Nat} {ls stk : List AV} {st : am_S} {Q : AV → am_S → Prop} {x : Int} (hd : decode k.2.1 pc = .ok (.lreturn, 1)) (hs0 : stk = []) (hf9 : k.2.2.2 = some .long) (h : Q (vL x) st) : am_Wp d k rc rs (pc) (ls) (vL x :: stk) (st) Q := by
  intro g l p e R s m args below meth c Z ads0 n0 cm sm F O hZ ads H locs cells slots lsA hH he hn hc hs hl hol hos
  obtain ⟨hx, hb, hml, hown, hts, hG, hE, hin⟩ := id F
  subst hs0
  exact hZ (vL x) st ads H locs cells slots lsA pc h (am_hd hos) he hn hH (by omega) (by omega) ⟨hd, hf9⟩
theorem sd_areturn {d : Nat} {k : am_M} {rc rs pc : Nat} {ls stk : List AV} {st : am_S} {Q : AV → am_S → Prop} {x : Int} (hd : decode k.2.1 pc = .ok (.areturn, 1)) (hs0 : stk = []) (hf9 : (∃ n, k.2.2.2 = some (.object n)) ∨ ∃ t, k.2.2.2 = some (.array t)) (h : Q (vR x) st) : am_Wp d k rc rs (pc) (ls) (vR x :: stk) (st) Q := by
  intro g l p e R s m args below meth c Z ads0 n0 cm sm F O hZ ads H locs cells slots lsA hH he hn hc hs hl hol hos
  obtain ⟨hx, hb, hml, hown, hts, hG, hE, hin⟩ := id F
  subst hs0
  exact hZ (vR x) st ads H locs cells slots lsA pc h (am_hd hos) he hn hH (by omega) (by omega) ⟨hd, hf9⟩
theorem sd_return {d : Nat} {k : am_M} {rc rs pc : Nat} {ls stk : List AV} {st : am_S} {Q : AV → am_S → Prop} (hd : decode k.2.1 pc = .ok (.return_, 1)) (hs0 : stk = []) (hf9 : k.2.2.2 = none) (h : Q none st) : am_Wp d k rc rs (pc) (ls) (stk) (st) Q := by
  intro g l p e R s m args below meth c Z ads0 n0 cm sm F O hZ ads H locs cells slots lsA hH he hn hc hs hl hol hos
  obtain ⟨hx, hb, hml, hown, hts, hG, hE, hin⟩ := id F
  subst hs0
  exact hZ none st ads H locs cells slots lsA pc h trivial he hn hH (by omega) (by omega) ⟨hd, hf9⟩
