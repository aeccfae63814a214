/-! truth as a number; compares -/
def bz (p : Prop) [Decidable p] : Int := if p then 1 else 0
theorem bz_0 {p : Prop} [Decidable p] : bz p = 0 ↔ ¬ p := by unfold bz; split <;> simp_all
theorem bz_n0 {p : Prop} [Decidable p] : ¬ bz p = 0 ↔ p := by unfold bz; split <;> simp_all
theorem bz_01 {p : Prop} [Decidable p] : (bz p = 0 ∨ bz p = 1) ↔ True := by unfold bz; split <;> simp
theorem bz_t {p : Prop} [Decidable p] (h : p) : bz p = 1 := if_pos h
theorem bz_f {p : Prop} [Decidable p] (h : ¬ p) : bz p = 0 := if_neg h
theorem am_cmp_lt0 (a b : Int) : am_cmp a b < 0 ↔ a < b := by unfold am_cmp; split <;> (try split) <;> omega
theorem am_cmp_gt0 (a b : Int) : 0 < am_cmp a b ↔ b < a := by unfold am_cmp; split <;> (try split) <;> omega
theorem am_cmp_eq0 (a b : Int) : am_cmp a b = 0 ↔ a = b := by unfold am_cmp; split <;> (try split) <;> omega
theorem am_cmp_ne0 (a b : Int) : ¬ am_cmp a b = 0 ↔ ¬ a = b := by rw [am_cmp_eq0]
theorem am_cmp_ge0 (a b : Int) : 0 ≤ am_cmp a b ↔ b ≤ a := by unfold am_cmp; split <;> (try split) <;> omega
theorem am_cmp_le0 (a b : Int) : am_cmp a b ≤ 0 ↔ a ≤ b := by unfold am_cmp; split <;> (try split) <;> omega
theorem bz_em {p : Prop} [Decidable p] : (¬ p ∨ bz p = 1) ↔ True := by unfold bz; split <;> simp_all
theorem bz_iff {p q : Prop} [Decidable p] [Decidable q] (h : p ↔ q) : bz p = bz q := by unfold bz; simp only [h]
