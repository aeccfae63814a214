/-! the class: the reader's memory while sums and tests are read -/
/-- the class's code of a code -/
def ct9 (u : Int) : Int := if 1000 ≤ u then u - 1000 else if u = 17 then 1 else if u = 7 then -1 else if u = 8 then -2 else if u = 9 then -3 else if u = 10 then -4 else if u = 18 then -5 else if u = 30 then -6 else if u = 31 then -7 else if u = 32 then -8 else if u = 1 then -9 else if u = 2 then -10 else if u = 3 then -11 else if u = 4 then -12 else if u = 5 then -13 else if u = 6 then -14 else if u = 11 then -15 else if u = 12 then -16 else if u = 13 then -17 else if u = 16 then -18 else if u = 14 then -19 else -20
def tkM (M : Int → Int → Int) : tk9 := (M 46 2, M 46 3, M 46 4)
section
variable {M M' M1 M2 : Int → Int → Int} {T : Int → Int} {n S : Int} {d : Nat} {Q : AV → am_S → Prop} {q : Nat}
/-- what may change while a sum or a test is read into the rig S -/
def Fq (S : Int) (M M' : Int → Int → Int) : Prop := (∀ o, o ≠ 46 → o ≠ S + 11 → o ≠ S + 18 → o ≠ S + 19 → o ≠ S + 20 → M' o = M o) ∧ (∀ j, j = 0 ∨ j = 1 → M' 46 j = M 46 j) ∧ (∀ j, j ≠ 9 → M' (S + 11) j = M (S + 11) j) ∧ ∀ k, k ≠ M (S + 11) 10 → M' (S + 18) k = M (S + 18) k ∧ M' (S + 19) k = M (S + 19) k
/-- what a code to be written asks -/
def Bq (S : Int) (M : Int → Int → Int) : Prop := am_PC M ∧ isR S ∧ M 46 1 = S ∧ (0 ≤ M (S + 11) 10 ∧ M (S + 11) 10 < 8) ∧ (0 ≤ M (S + 11) 9 ∧ M (S + 11) 9 ≤ 900) ∧ (M (S + 18) (M (S + 11) 10) = 0 ∨ M (S + 18) (M (S + 11) 10) = 1) ∧ (M (S + 19) (M (S + 11) 10) = 0 ∨ M (S + 19) (M (S + 11) 10) = 1) ∧ 0 ≤ M 46 3
/-- these codes have been written behind -/
def Cd (S : Int) (M M' : Int → Int → Int) (us : List Int) : Prop := M' (S + 11) 9 = M (S + 11) 9 + us.length ∧ (∀ i, i < M (S + 11) 9 → M' (S + 20) i = M (S + 20) i) ∧ (∀ i : Nat, i < us.length → M' (S + 20) (M (S + 11) 9 + i) = ct9 (us.getD i 0)) ∧ (M' (S + 18) (M (S + 11) 10) = 1 ↔ M (S + 18) (M (S + 11) 10) = 1 ∨ (31 : Int) ∈ us) ∧ (M' (S + 19) (M (S + 11) 10) = 1 ↔ M (S + 19) (M (S + 11) 10) = 1 ∨ (32 : Int) ∈ us)
def CO (S : Int) (M M' : Int → Int → Int) (out : ou9) : Prop := Fq S M M' ∧ Bq S M' ∧ match out with
  | .inl (r, us) => (∀ j, j = 5 ∨ j = 6 → M' 46 j = M 46 j) ∧ tkM M' = r ∧ Cd S M M' us
  | .inr (f, x) => f ≠ 0 ∧ M' 46 5 = f ∧ M' 46 6 = x
theorem Fq.rf (S : Int) (M : Int → Int → Int) : Fq S M M := ⟨fun _ _ _ _ _ _ => rfl, fun _ _ => rfl, fun _ _ => rfl, fun _ _ => ⟨rfl, rfl⟩⟩
theorem Fq.tr (h1 : Fq S M M1) (h2 : Fq S M1 M2) : Fq S M M2 := by
  refine ⟨fun o a b c d e => (h2.1 o a b c d e).trans (h1.1 o a b c d e), fun j a => (h2.2.1 j a).trans (h1.2.1 j a), fun j a => (h2.2.2.1 j a).trans (h1.2.2.1 j a), fun k a => ?_⟩
  have e : M1 (S + 11) 10 = M (S + 11) 10 := h1.2.2.1 10 (by decide)
  exact ⟨(h2.2.2.2 k (by rw [e]; exact a)).1.trans (h1.2.2.2 k a).1, (h2.2.2.2 k (by rw [e]; exact a)).2.trans (h1.2.2.2 k a).2⟩
theorem Cd.rf (S : Int) (M : Int → Int → Int) : Cd S M M [] := ⟨by simp, fun _ _ => rfl, fun i a => by simp at a, by simp, by simp⟩
theorem Cd.tr {us vs : List Int} (f1 : Fq S M M1) (h1 : Cd S M M1 us) (h2 : Cd S M1 M2 vs) : Cd S M M2 (us ++ vs) := by
  obtain ⟨a1, b1, c1, d1, e1⟩ := h1
  obtain ⟨a2, b2, c2, d2, e2⟩ := h2
  have e : M1 (S + 11) 10 = M (S + 11) 10 := f1.2.2.1 10 (by decide)
  rw [e] at d2 e2
  refine ⟨by rw [a2, a1, List.length_append]; omega, fun i hi => (b2 i (by omega)).trans (b1 i hi), fun i hi => ?_, ?_, ?_⟩
  · rw [List.length_append] at hi
    by_cases z : i < us.length
    · rw [b2 _ (by omega), c1 i z]
      congr 1
      rw [List.getD_eq_getElem?_getD, List.getD_eq_getElem?_getD, List.getElem?_append_left z]
    · have := c2 (i - us.length) (by omega)
      rw [show M1 (S + 11) 9 + ((i - us.length : Nat) : Int) = M (S + 11) 9 + i by omega] at this
      rw [this]
      congr 1
      rw [List.getD_eq_getElem?_getD, List.getD_eq_getElem?_getD, List.getElem?_append_right (by omega)]
  · rw [d2, d1, List.mem_append]; exact or_assoc
  · rw [e2, e1, List.mem_append]; exact or_assoc
theorem CO.tr {r1 : tk9} {us : List Int} {r2 : tk9} {vs : List Int} (h1 : CO S M M1 (ok9 r1 us)) (h2 : CO S M1 M2 (ok9 r2 vs)) : CO S M M2 (ok9 r2 (us ++ vs)) := ⟨h1.1.tr h2.1, h2.2.1, fun j a => (h2.2.2.1 j a).trans (h1.2.2.1 j a), h2.2.2.2.1, Cd.tr h1.1 h1.2.2.2.2 h2.2.2.2.2⟩
theorem CO.tf {r1 : tk9} {us : List Int} {f x : Int} (h1 : CO S M M1 (ok9 r1 us)) (h2 : CO S M1 M2 (fl9 f x)) : CO S M M2 (fl9 f x) := ⟨h1.1.tr h2.1, h2.2.1, h2.2.2⟩
/-- what is done behind a fault -/
def CZ (S : Int) (M M' : Int → Int → Int) : Prop := Fq S M M' ∧ Bq S M' ∧ ∀ j, j = 5 ∨ j = 6 → M' 46 j = M 46 j
theorem CO.ff {f x : Int} (h1 : CO S M M1 (fl9 f x)) (h2 : CZ S M1 M2) : CO S M M2 (fl9 f x) := ⟨h1.1.tr h2.1, h2.2.1, h1.2.2.1, (h2.2.2 5 (Or.inl rfl)).trans h1.2.2.2.1, (h2.2.2 6 (Or.inr rfl)).trans h1.2.2.2.2⟩
theorem CO.z {f x : Int} (h : CO S M M' (fl9 f x)) : M' 46 5 ≠ 0 := by rw [h.2.2.2.1]; exact h.2.2.1
/-- the reader reads a sum or a test into the rig S; it is before any fault -/
def RS9 (S : Int) (T : Int → Int) (n : Int) (M : Int → Int → Int) : Prop := RDs M T n ∧ Bq S M ∧ tkW n (tkM M) ∧ M (S + 11) 9 ≤ M 46 3 ∧ M 46 5 = 0
theorem RS9.co {r : tk9} {us : List Int} (h : RS9 S T n M) (c : CO S M M' (ok9 r us)) (w : tkW n r) (l : M 46 3 + us.length ≤ r.2.1) : RS9 S T n M' := by
  obtain ⟨⟨h1, h2, h3, h4, h5, h6⟩, hB, hW, hl, h0⟩ := h
  obtain ⟨cF, cB, c5, ct, cd⟩ := c
  have er := hB.2.1
  have e : M' 46 2 = r.1 ∧ M' 46 3 = r.2.1 ∧ M' 46 4 = r.2.2 := by rw [← ct]; exact ⟨rfl, rfl, rfl⟩
  have f2 := cF.1 2 (by decide) (by unfold isR at er; omega) (by unfold isR at er; omega) (by unfold isR at er; omega) (by unfold isR at er; omega)
  have f3 := cF.1 3 (by decide) (by unfold isR at er; omega) (by unfold isR at er; omega) (by unfold isR at er; omega) (by unfold isR at er; omega)
  refine ⟨⟨cB.1, h2, by rw [f2]; exact h3, by rw [f3]; exact h4, by rw [e.2.1, e.2.2]; exact w.1, fun z => ?_⟩, cB, by rw [ct]; exact w, by rw [cd.1, e.2.1]; omega, by rw [c5 5 (Or.inl rfl)]; exact h0⟩
  rw [e.1] at z
  rw [e.2.1]
  have := w.2.1 (by omega)
  have := w.1
  omega
theorem RdF.fq (s : RdF M M') (hB : Bq S M) (h3 : 0 ≤ M' 46 3) : Fq S M M' ∧ Bq S M' ∧ (∀ j, j = 5 ∨ j = 6 → M' 46 j = M 46 j) ∧ Cd S M M' [] := by
  obtain ⟨b1, b2, b3, b4, b5, b6, b7, -⟩ := hB
  have er := b2
  unfold isR at er
  have e11 := s.1 (S + 11) (by omega)
  have e18 := s.1 (S + 18) (by omega)
  have e19 := s.1 (S + 19) (by omega)
  have e20 := s.1 (S + 20) (by omega)
  refine ⟨⟨fun o a _ _ _ _ => s.1 o a, fun j a => s.2 j (by omega), fun j _ => by rw [e11], fun k _ => by rw [e18, e19]; exact ⟨rfl, rfl⟩⟩, ⟨s.PC b1, b2, by rw [s.2 1 (by decide)]; exact b3, by rw [e11]; exact b4, by rw [e11]; exact b5, by rw [e11, e18]; exact b6, by rw [e11, e19]; exact b7, h3⟩, fun j a => s.2 j (by omega), ?_⟩
  unfold Cd
  rw [e11, e18, e19, e20]
  exact Cd.rf S M
theorem k_adv9 (hR : RS9 S T n M) (h : ∀ M', CO S M M' (ok9 (tkM M') []) → nx9 T n (tkM M) (tkM M') → Q none (am_SH, M')) : am_Call (d + 2) m_Reader_advance 0 0 [vR 46] (am_SH, M) Q := by
  refine k_advR hR.1 (fun M' s r a => h M' ?_ a)
  have := s.fq hR.2.1 r.2.2.2.2.1.1
  exact ⟨this.1, this.2.1, this.2.2.1, rfl, this.2.2.2⟩
theorem CO_up {f x : Int} (hB : Bq S M) (hf : f ≠ 0) : CO S M (am_up (am_up M 46 5 f) 46 6 x) (fl9 f x) := by
  have er := hB.2.1
  unfold isR at er
  obtain ⟨b1, b2, b3, b4, b5, b6, b7, b8⟩ := hB
  have e : ∀ o, o ≠ 46 → am_up (am_up M 46 5 f) 46 6 x o = M o := fun o a => by rw [am_up_o _ a, am_up_o _ a]
  have e1 : ∀ j, j ≠ 5 → j ≠ 6 → am_up (am_up M 46 5 f) 46 6 x 46 j = M 46 j := fun j a b => by rw [am_up_j _ b, am_up_j _ a]
  exact ⟨⟨fun o a _ _ _ _ => e o a, fun j a => e1 j (by omega) (by omega), fun j _ => by rw [e _ (by omega)], fun k _ => by rw [e _ (by omega), e _ (by omega)]; exact ⟨rfl, rfl⟩⟩, ⟨(b1.up (by unfold pcPl; omega)).up (by unfold pcPl; omega), b2, by rw [e1 1 (by decide) (by decide)]; exact b3, by rw [e _ (by omega)]; exact b4, by rw [e _ (by omega)]; exact b5, by rw [e _ (by omega), e _ (by omega)]; exact b6, by rw [e _ (by omega), e _ (by omega)]; exact b7, by rw [e1 3 (by decide) (by decide)]; exact b8⟩, hf, by rw [am_up_j _ (by decide), am_up_s], am_up_s _ _ _ _⟩
theorem k_refuse9 {f x : Int} (hB : Bq S M) (h0 : M 46 5 = 0) (hf : f ≠ 0) (h : ∀ M', CO S M M' (fl9 f x) → Q none (am_SH, M')) : am_Call (d + 1) m_Reader_refuse 0 0 [vR 46, vI f, vI x] (am_SH, M) Q := k_refuse hB.1 (fun _ => h _ (CO_up hB hf)) (fun z => absurd h0 z)
theorem am_or_b {x y : Int} (hx : x = 0 ∨ x = 1) (hy : y = 0 ∨ y = 1) : am_or x y = if x = 1 ∨ y = 1 then 1 else 0 := by
  rcases hx with rfl | rfl <;> rcases hy with rfl | rfl <;> decide
theorem k_emit0 {v : Int} (hB : Bq S M) (h : ∀ M', Fq S M M' → Bq S M' → (∀ j, M' 46 j = M 46 j) → (M (S + 11) 9 < 900 → M' (S + 11) 9 = M (S + 11) 9 + 1 ∧ M' (S + 20) (M (S + 11) 9) = v) → (∀ i, i ≠ M (S + 11) 9 → M' (S + 20) i = M (S + 20) i) → (M' (S + 18) (M (S + 11) 10) = 1 ↔ M (S + 18) (M (S + 11) 10) = 1 ∨ v = -7) → (M' (S + 19) (M (S + 11) 10) = 1 ↔ M (S + 19) (M (S + 11) 10) = 1 ∨ v = -8) → Q none (am_SH, M')) : am_Call (d + 1) m_Tricks_emit 0 0 [vR (S + 11), vI v] (am_SH, M) Q := by
  obtain ⟨hC, hR, b3, b4, b5, b6, b7, b8⟩ := hB
  have er := hR
  unfold isR at er
  have fin : ∀ (Mb : Int → Int → Int), (∀ o, o ≠ S + 11 → o ≠ S + 20 → Mb o = M o) → (∀ j, j ≠ 9 → Mb (S + 11) j = M (S + 11) j) → (0 ≤ Mb (S + 11) 9 ∧ Mb (S + 11) 9 ≤ 900) → (M (S + 11) 9 < 900 → Mb (S + 11) 9 = M (S + 11) 9 + 1 ∧ Mb (S + 20) (M (S + 11) 9) = v) → (∀ i, i ≠ M (S + 11) 9 → Mb (S + 20) i = M (S + 20) i) → am_PC Mb → ∀ x y : Int, (x = if M (S + 18) (M (S + 11) 10) = 1 ∨ v = -7 then 1 else 0) → (y = if M (S + 19) (M (S + 11) 10) = 1 ∨ v = -8 then 1 else 0) → Q none (am_SH, am_up (am_up Mb (S + 18) (M (S + 11) 10) x) (S + 19) (M (S + 11) 10) y) := by
    intro Mb m1 m2 m3 m4 m5 m6 x y hx hy
    have x01 : x = 0 ∨ x = 1 := by rw [hx]; split <;> simp
    have y01 : y = 0 ∨ y = 1 := by rw [hy]; split <;> simp
    have e : ∀ o, o ≠ S + 18 → o ≠ S + 19 → am_up (am_up Mb (S + 18) (M (S + 11) 10) x) (S + 19) (M (S + 11) 10) y o = Mb o := fun o a b => by rw [am_up_o _ b, am_up_o _ a]
    have e8 : am_up (am_up Mb (S + 18) (M (S + 11) 10) x) (S + 19) (M (S + 11) 10) y (S + 18) = am_up Mb (S + 18) (M (S + 11) 10) x (S + 18) := am_up_o _ (by omega)
    have e11 := e (S + 11) (by omega) (by omega)
    have e20 := e (S + 20) (by omega) (by omega)
    have c10 : Mb (S + 11) 10 = M (S + 11) 10 := m2 10 (by decide)
    refine h _ ⟨fun o a b c f g => (e o c f).trans (m1 o b g), fun j _ => by rw [e 46 (by omega) (by omega), m1 46 (by omega) (by omega)], fun j a => by rw [e11]; exact m2 j a, fun k a => ⟨?_, ?_⟩⟩ ⟨(m6.up (by unfold pcPl; omega)).up (by unfold pcPl; omega), hR, by rw [e 46 (by omega) (by omega), m1 46 (by omega) (by omega)]; exact b3, by rw [e11, c10]; exact b4, by rw [e11]; exact m3, by rw [e11, c10, e8, am_up_s]; exact x01, by rw [e11, c10, am_up_s]; exact y01, by rw [e 46 (by omega) (by omega), m1 46 (by omega) (by omega)]; exact b8⟩ (fun j => by rw [e 46 (by omega) (by omega), m1 46 (by omega) (by omega)]) (fun a => by rw [e11, e20]; exact m4 a) (fun i a => by rw [e20]; exact m5 i a) ?_ ?_
    · rw [e8, am_up_j _ a, m1 _ (by omega) (by omega)]
    · rw [am_up_j _ a, am_up_o _ (by omega), m1 _ (by omega) (by omega)]
    · rw [e8, am_up_s, hx]; split <;> simp_all
    · rw [am_up_s, hy]; split <;> simp_all
  have g32 : ∀ (Mb : Int → Int → Int), (∀ o, o ≠ S + 11 → o ≠ S + 20 → Mb o = M o) → (∀ j, j ≠ 9 → Mb (S + 11) j = M (S + 11) j) → (0 ≤ Mb (S + 11) 9 ∧ Mb (S + 11) 9 ≤ 900) → (M (S + 11) 9 < 900 → Mb (S + 11) 9 = M (S + 11) 9 + 1 ∧ Mb (S + 20) (M (S + 11) 9) = v) → (∀ i, i ≠ M (S + 11) 9 → Mb (S + 20) i = M (S + 20) i) → am_PC Mb → b_Tricks_emit_32 d Q 0 0 [vR (S + 11), vI v] [] (am_SH, Mb) := by
    intro Mb m1 m2 m3 m4 m5 m6
    have c10 : Mb (S + 11) 10 = M (S + 11) 10 := m2 10 (by decide)
    have c18 : Mb (S + 18) = M (S + 18) := m1 _ (by omega) (by omega)
    have c19 : Mb (S + 19) = M (S + 19) := m1 _ (by omega) (by omega)
    have nine : ∀ x : Int, (x = if M (S + 18) (M (S + 11) 10) = 1 ∨ v = -7 then 1 else 0) → ∀ y : Int, (y = if M (S + 19) (M (S + 11) 10) = 1 ∨ v = -8 then 1 else 0) → (x = 0 ∨ x = 1) ∧ (y = 0 ∨ y = 1) ∧ Q none (am_SH, am_up (am_up Mb (S + 18) (M (S + 11) 10) x) (S + 19) (M (S + 11) 10) y) := fun x hx y hy => ⟨by rw [hx]; split <;> simp, by rw [hy]; split <;> simp, fin Mb m1 m2 m3 m4 m5 m6 x y hx hy⟩
    have hC := m6
    have e9 : ∀ a x, am_up Mb (S + 18) a x (S + 11) = Mb (S + 11) := fun a x => am_up_o _ (by omega)
    have e10 : ∀ a x, am_up Mb (S + 18) a x (S + 19) = Mb (S + 19) := fun a x => am_up_o _ (by omega)
    have hC2 : ∀ a x, am_PC (am_up Mb (S + 18) a x) := fun a x => m6.up (by unfold pcPl; omega)
    have p7 : ∀ a x, am_up Mb (S + 18) a x (S + 11) 7 = S + 19 := fun a x => by rw [e9]; exact prt_7 m6 hR
    simp only [b_Tricks_emit_32, kr_0 hR, kr_1 hR, lr_2 hR, mr_2 hR, lr_3 hR, mr_3 hR, lr_4 hR, mr_4 hR, lr_5 hR, mr_5 hR, lr_6 hR, mr_6 hR, lr_7 hR, mr_7 hR, kr_8 hR, lr_9 hR, mr_9 hR, lr_10 hR, mr_10 hR, kr_11 hR, lr_12 hR, mr_12 hR, lr_13 hR, mr_13 hR, lr_14 hR, mr_14 hR, lr_15 hR, mr_15 hR, lr_16 hR, mr_16 hR, lr_17 hR, mr_17 hR, lr_18 hR, mr_18 hR, lr_19 hR, mr_19 hR, lr_20 hR, mr_20 hR, pr_0 hC hR, pr_1 hC hR, pr_2 hC hR, pr1_0 hC hR, pr1_1 hC hR, pr1_2 hC hR, pr1_3 hC hR, pr1_4 hC hR, pr1_5 hC hR, pr8_0 hC hR, pr8_1 hC hR, prt_0 hC hR, prt_1 hC hR, prt_2 hC hR, prt_3 hC hR, prt_4 hC hR, prt_5 hC hR, prt_6 hC hR, prt_7 hC hR, prt_8 hC hR, c10, c18, c19, kd_1, kd_2, ln_3, ll_3, kd_46, kd_47, ln_48, ll_48, ln_49, ll_49, kd_50, kd_51, ln_52, ll_52, ln_53, ll_53, ln_54, ll_54, ln_55, ll_55, ln_56, ll_56, ln_57, ll_57, ln_58, ll_58, kd_59, ln_60, ll_60, ln_61, ll_61, ln_62, ll_62, ln_63, ll_63, kd_64, ln_127, ll_127, ln_128, ll_128, ln_129, ll_129, ln_130, ll_130, ln_131, ll_131, ln_132, ll_132, ln_133, ll_133, ln_134, ll_134, kd_135, ln_136, ll_136, pc_1_0 hC, pc_1_3 hC, pc_1_4 hC, pc_1_5 hC, pc_1_6 hC, pc_1_7 hC, pc_1_8 hC, pc_2_0 hC, pc_46_0 hC, pc_50_0 hC, pc_50_1 hC, pc_50_2 hC, pc_50_3 hC, pc_50_4 hC, pc_50_5 hC, pc_64_2 hC, pc_64_3 hC, pc_135_0 hC, am_up_eq, Int.reduceEq, Int.reduceLT, Int.reduceLE, Int.reduceNeg, if_true, if_false, c_const, c_lconst, c_ref, c_iload, c_lload, c_aload, c_istore, c_lstore, c_astore, c_iinc, c_iadd, c_isub, c_imul, c_ladd, c_lsub, c_lmul, c_idiv, c_irem, c_ldiv, c_lrem, c_iand, c_ior, c_ixor, c_ishl, c_ishr, c_ineg, c_i2l, c_l2i, c_i2c, c_lcmp, c_dup, c_pop, c_dup2, c_at, c_icmp_eq, c_icmp_ne, c_icmp_lt, c_icmp_ge, c_icmp_gt, c_icmp_le, c_if_eq, c_if_ne, c_if_lt, c_if_ge, c_if_gt, c_if_le, c_ifnull, c_ifnonnull, am_swK, c_sw, c_iret, c_zret, c_cret, c_bret, c_lret, c_aret, c_vret, c_getI, c_getR, c_putI, c_putZ, c_putR, c_iald, c_zald, c_cald, c_lald, c_oald, c_gald, c_iast, c_zast, c_cast, c_last, c_oast, c_alen, c_callS0, c_callS1, c_callS2, c_callS3, c_callS4, c_callS5, c_callS6, c_callS7, c_callV0, c_callV1, c_callV2, c_callV3, c_callV4, c_callV5, c_callV6, c_callV7, c_callT0, c_callT1, am_nx_eq, am_set, am_set2, am_clr, am_isL, am_push, am_w, am_ent, am_ent1, List.getElem?_cons_zero, List.getElem?_cons_succ, List.set_cons_zero, List.set_cons_succ, List.getD_cons_zero, List.getD_cons_succ, List.cons_append, List.nil_append, List.append_nil, List.replicate_succ, List.replicate_zero, Nat.reduceAdd, Nat.reduceSub, Nat.reduceLeDiff, Bool.false_eq_true, reduceIte, true_and, and_true, true_or, or_true, or_self, am_i32, am_i64, bz_0, bz_01, bz_em, bz_n0, Classical.not_not, am_cmp_lt0, am_cmp_gt0, am_cmp_eq0, am_cmp_ge0, am_cmp_le0, am_cmp_ne0]
    refine ⟨fun z => by omega, fun _ => ⟨by omega, by omega, ?_⟩⟩
    have tail : ∀ x : Int, (x = if M (S + 18) (M (S + 11) 10) = 1 ∨ v = -7 then 1 else 0) → ∀ z, am_or (M (S + 18) (M (S + 11) 10)) z = x → b_Tricks_emit_62 d Q 0 0 [vR (S + 11), vI v] [vI z, vI (M (S + 18) (M (S + 11) 10)), vI (M (S + 11) 10), vR (S + 18)] (am_SH, Mb) := by
      intro x hx z hz
      have x01 : x = 0 ∨ x = 1 := by rw [hx]; split <;> simp
      simp only [b_Tricks_emit_62, b_Tricks_emit_84, b_Tricks_emit_85, b_Tricks_emit_87, kr_0 hR, kr_1 hR, lr_2 hR, mr_2 hR, lr_3 hR, mr_3 hR, lr_4 hR, mr_4 hR, lr_5 hR, mr_5 hR, lr_6 hR, mr_6 hR, lr_7 hR, mr_7 hR, kr_8 hR, lr_9 hR, mr_9 hR, lr_10 hR, mr_10 hR, kr_11 hR, lr_12 hR, mr_12 hR, lr_13 hR, mr_13 hR, lr_14 hR, mr_14 hR, lr_15 hR, mr_15 hR, lr_16 hR, mr_16 hR, lr_17 hR, mr_17 hR, lr_18 hR, mr_18 hR, lr_19 hR, mr_19 hR, lr_20 hR, mr_20 hR, pr_0 hC hR, pr_1 hC hR, pr_2 hC hR, pr1_0 hC hR, pr1_1 hC hR, pr1_2 hC hR, pr1_3 hC hR, pr1_4 hC hR, pr1_5 hC hR, pr8_0 hC hR, pr8_1 hC hR, prt_0 hC hR, prt_1 hC hR, prt_2 hC hR, prt_3 hC hR, prt_4 hC hR, prt_5 hC hR, prt_6 hC hR, prt_7 hC hR, prt_8 hC hR, hz, p7, e9, e10, c10, c18, c19, c_const, c_lconst, c_ref, c_iload, c_lload, c_aload, c_istore, c_lstore, c_astore, c_iinc, c_iadd, c_isub, c_imul, c_ladd, c_lsub, c_lmul, c_idiv, c_irem, c_ldiv, c_lrem, c_iand, c_ior, c_ixor, c_ishl, c_ishr, c_ineg, c_i2l, c_l2i, c_i2c, c_lcmp, c_dup, c_pop, c_dup2, c_at, c_icmp_eq, c_icmp_ne, c_icmp_lt, c_icmp_ge, c_icmp_gt, c_icmp_le, c_if_eq, c_if_ne, c_if_lt, c_if_ge, c_if_gt, c_if_le, c_ifnull, c_ifnonnull, am_swK, c_sw, c_iret, c_zret, c_cret, c_bret, c_lret, c_aret, c_vret, c_getI, c_getR, c_putI, c_putZ, c_putR, c_iald, c_zald, c_cald, c_lald, c_oald, c_gald, c_iast, c_zast, c_cast, c_last, c_oast, c_alen, c_callS0, c_callS1, c_callS2, c_callS3, c_callS4, c_callS5, c_callS6, c_callS7, c_callV0, c_callV1, c_callV2, c_callV3, c_callV4, c_callV5, c_callV6, c_callV7, c_callT0, c_callT1, am_nx_eq, am_set, am_set2, am_clr, am_isL, am_push, am_w, am_ent, am_ent1, List.getElem?_cons_zero, List.getElem?_cons_succ, List.set_cons_zero, List.set_cons_succ, List.getD_cons_zero, List.getD_cons_succ, List.cons_append, List.nil_append, List.append_nil, List.replicate_succ, List.replicate_zero, Nat.reduceAdd, Nat.reduceSub, Nat.reduceLeDiff, Bool.false_eq_true, reduceIte, true_and, and_true, true_or, or_true, or_self, am_i32, am_i64, bz_0, bz_01, bz_em, bz_n0, Classical.not_not, am_cmp_lt0, am_cmp_gt0, am_cmp_eq0, am_cmp_ge0, am_cmp_le0, am_cmp_ne0]
      refine ⟨by omega, by omega, x01, by omega, by omega, fun w => ?_, fun w => ?_⟩
      · rw [am_or_b b7 (Or.inl rfl)]
        have := nine x hx (if M (S + 19) (M (S + 11) 10) = 1 ∨ (0 : Int) = 1 then 1 else 0) (by simp [w])
        exact ⟨by omega, by omega, this.2.1, this.2.2⟩
      · rw [am_or_b b7 (Or.inr rfl)]
        have := nine x hx (if M (S + 19) (M (S + 11) 10) = 1 ∨ (1 : Int) = 1 then 1 else 0) (by simp [w])
        exact ⟨by omega, by omega, this.2.1, this.2.2⟩
    refine ⟨fun w => ?_, fun w => ?_⟩
    · exact tail _ rfl 0 (by rw [am_or_b b6 (Or.inl rfl)]; simp [w])
    · exact tail _ rfl 1 (by rw [am_or_b b6 (Or.inr rfl)]; simp [w])
  refine am_go B_Tricks_emit_0 rfl (Nat.le_of_ble_eq_true rfl) ?_
  simp only [b_Tricks_emit_0, kr_0 hR, kr_1 hR, lr_2 hR, mr_2 hR, lr_3 hR, mr_3 hR, lr_4 hR, mr_4 hR, lr_5 hR, mr_5 hR, lr_6 hR, mr_6 hR, lr_7 hR, mr_7 hR, kr_8 hR, lr_9 hR, mr_9 hR, lr_10 hR, mr_10 hR, kr_11 hR, lr_12 hR, mr_12 hR, lr_13 hR, mr_13 hR, lr_14 hR, mr_14 hR, lr_15 hR, mr_15 hR, lr_16 hR, mr_16 hR, lr_17 hR, mr_17 hR, lr_18 hR, mr_18 hR, lr_19 hR, mr_19 hR, lr_20 hR, mr_20 hR, pr_0 hC hR, pr_1 hC hR, pr_2 hC hR, pr1_0 hC hR, pr1_1 hC hR, pr1_2 hC hR, pr1_3 hC hR, pr1_4 hC hR, pr1_5 hC hR, pr8_0 hC hR, pr8_1 hC hR, prt_0 hC hR, prt_1 hC hR, prt_2 hC hR, prt_3 hC hR, prt_4 hC hR, prt_5 hC hR, prt_6 hC hR, prt_7 hC hR, prt_8 hC hR, kd_1, kd_2, ln_3, ll_3, kd_46, kd_47, ln_48, ll_48, ln_49, ll_49, kd_50, kd_51, ln_52, ll_52, ln_53, ll_53, ln_54, ll_54, ln_55, ll_55, ln_56, ll_56, ln_57, ll_57, ln_58, ll_58, kd_59, ln_60, ll_60, ln_61, ll_61, ln_62, ll_62, ln_63, ll_63, kd_64, ln_127, ll_127, ln_128, ll_128, ln_129, ll_129, ln_130, ll_130, ln_131, ll_131, ln_132, ll_132, ln_133, ll_133, ln_134, ll_134, kd_135, ln_136, ll_136, pc_1_0 hC, pc_1_3 hC, pc_1_4 hC, pc_1_5 hC, pc_1_6 hC, pc_1_7 hC, pc_1_8 hC, pc_2_0 hC, pc_46_0 hC, pc_50_0 hC, pc_50_1 hC, pc_50_2 hC, pc_50_3 hC, pc_50_4 hC, pc_50_5 hC, pc_64_2 hC, pc_64_3 hC, pc_135_0 hC, am_up_eq, Int.reduceEq, Int.reduceLT, Int.reduceLE, Int.reduceNeg, if_true, if_false, c_const, c_lconst, c_ref, c_iload, c_lload, c_aload, c_istore, c_lstore, c_astore, c_iinc, c_iadd, c_isub, c_imul, c_ladd, c_lsub, c_lmul, c_idiv, c_irem, c_ldiv, c_lrem, c_iand, c_ior, c_ixor, c_ishl, c_ishr, c_ineg, c_i2l, c_l2i, c_i2c, c_lcmp, c_dup, c_pop, c_dup2, c_at, c_icmp_eq, c_icmp_ne, c_icmp_lt, c_icmp_ge, c_icmp_gt, c_icmp_le, c_if_eq, c_if_ne, c_if_lt, c_if_ge, c_if_gt, c_if_le, c_ifnull, c_ifnonnull, am_swK, c_sw, c_iret, c_zret, c_cret, c_bret, c_lret, c_aret, c_vret, c_getI, c_getR, c_putI, c_putZ, c_putR, c_iald, c_zald, c_cald, c_lald, c_oald, c_gald, c_iast, c_zast, c_cast, c_last, c_oast, c_alen, c_callS0, c_callS1, c_callS2, c_callS3, c_callS4, c_callS5, c_callS6, c_callS7, c_callV0, c_callV1, c_callV2, c_callV3, c_callV4, c_callV5, c_callV6, c_callV7, c_callT0, c_callT1, am_nx_eq, am_set, am_set2, am_clr, am_isL, am_push, am_w, am_ent, am_ent1, List.getElem?_cons_zero, List.getElem?_cons_succ, List.set_cons_zero, List.set_cons_succ, List.getD_cons_zero, List.getD_cons_succ, List.cons_append, List.nil_append, List.append_nil, List.replicate_succ, List.replicate_zero, Nat.reduceAdd, Nat.reduceSub, Nat.reduceLeDiff, Bool.false_eq_true, reduceIte, true_and, and_true, true_or, or_true, or_self, am_i32, am_i64, bz_0, bz_01, bz_em, bz_n0, Classical.not_not, am_cmp_lt0, am_cmp_gt0, am_cmp_eq0, am_cmp_ge0, am_cmp_le0, am_cmp_ne0]
  refine ⟨fun z => g32 M (fun _ _ _ => rfl) (fun _ _ => rfl) b5 (fun w => by omega) (fun _ _ => rfl) hC, fun z => ⟨by omega, by omega, ?_⟩⟩
  have k9 : am_up M (S + 20) (M (S + 11) 9) v (S + 11) = M (S + 11) := am_up_o _ (by omega)
  rw [if_neg (show ¬ S + 11 = S + 20 by omega)]
  refine ⟨by omega, g32 _ (fun o a b => by rw [am_up_o _ a, am_up_o _ b]) (fun j a => by rw [am_up_j _ a, k9]) ?_ (fun _ => ⟨am_up_s _ _ _ _, ?_⟩) (fun i a => ?_) ?_⟩
  · rw [am_up_s]; omega
  · rw [am_up_o _ (by omega), am_up_s]
  · rw [am_up_o _ (by omega), am_up_j _ a]
  · exact (hC.up (by unfold pcPl; omega)).up (by unfold pcPl; omega)
theorem k_emit9 {u v : Int} (hv : v = ct9 u) (h7 : v = -7 ↔ u = 31) (h8 : v = -8 ↔ u = 32) (hB : Bq S M) (hl : M (S + 11) 9 < 900) (h : ∀ M', CO S M M' (ok9 (tkM M) [u]) → Q none (am_SH, M')) : am_Call (d + 1) m_Tricks_emit 0 0 [vR (S + 11), vI v] (am_SH, M) Q := by
  refine k_emit0 hB (fun M' f b e a1 a2 a3 a4 => h M' ⟨f, b, fun j _ => e j, ?_, ?_⟩)
  · unfold tkM; rw [e, e, e]
  · have a1 := a1 hl
    refine ⟨by rw [a1.1]; rfl, fun i hi => a2 i (by omega), fun i hi => ?_, ?_, ?_⟩
    · have : i = 0 := by simp at hi; omega
      subst this
      rw [show M (S + 11) 9 + ((0 : Nat) : Int) = M (S + 11) 9 by omega, a1.2, hv]; rfl
    · rw [a3, h7, List.mem_singleton]; exact or_congr Iff.rfl eq_comm
    · rw [a4, h8, List.mem_singleton]; exact or_congr Iff.rfl eq_comm
theorem k_emitZ {v : Int} (hB : Bq S M) (h : ∀ M', CZ S M M' → Q none (am_SH, M')) : am_Call (d + 1) m_Tricks_emit 0 0 [vR (S + 11), vI v] (am_SH, M) Q :=
  k_emit0 hB (fun M' f b e _ _ _ _ => h M' ⟨f, b, fun j _ => e j⟩)
end
