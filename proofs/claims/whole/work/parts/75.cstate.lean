/-! the class's memory of the state -/
/-- a name: five bits a letter -/
def nm32 (L : Int → Int) : Nat → Int
  | 0 => 0
  | n + 1 => nm32 L n + L n * 2 ^ (5 * n)
def CN (M D : Int → Int → Int) (R : Int) : Prop := (∀ b, 0 ≤ b → b < D 0 0 → M (R + 2) b = nm32 (D (20 + b)) (D 13 b).toNat) ∧ (∀ b, 0 ≤ b → b < D 0 1 → M (R + 9) b = nm32 (D (30 + b)) (D 14 b).toNat) ∧ (∀ b, 0 ≤ b → b < D 0 2 → M (R + 12) b = nm32 (D (40 + b)) (D 15 b).toNat)
/-- which tricks ask for done, again: D 16, D 17 -/
def CA (M D : Int → Int → Int) (R : Int) : Prop := ∀ k, 0 ≤ k → k < D 0 2 → M (R + 18) k = D 16 k ∧ M (R + 19) k = D 17 k
def WFa (D : Int → Int → Int) : Prop := ∀ k, 0 ≤ k → k < D 0 2 → (D 16 k = 0 ∨ D 16 k = 1) ∧ (D 17 k = 0 ∨ D 17 k = 1) ∧ (D 16 k = 0 → ∀ i, D 9 k ≤ i → i < D 11 k → D 12 i ≠ -7) ∧ (D 17 k = 0 → ∀ i, D 9 k ≤ i → i < D 11 k → D 12 i ≠ -8)
def CAct (M A : Int → Int → Int) (e : Int) : Prop := M e 5 = A 0 0 ∧ M e 6 = A 0 1 ∧ M e 7 = A 0 2 ∧ M e 8 = A 0 3 ∧ M e 9 = A 0 4 ∧ M e 10 = A 0 5 ∧ M e 11 = A 0 6 ∧
  ∀ i, 0 ≤ i → i < A 0 4 → M (e + 1) i = A 1 i ∧ M (e + 2) i = A 2 i ∧ M (e + 3) i = A 3 i ∧ M (e + 4) i = A 4 i
/-- a flight that may be good -/
abbrev okL (D : Int → Int → Int) (b t k c : Int) : Prop := c ≠ b ∧ t + D 7 k ≤ 80 ∧ msF D b t k c ≤ D 8 k ∧ (D 16 k = 1 ∨ D 17 k = 1 ∨ gd D b t k c 0 0 = 1)
def enL (D : Int → Int → Int) (b t k c : Int) : Int := (if D 16 k = 1 ∨ D 17 k = 1 then 1001 else wth D b t k c 0 0) * 64 + k * 8 + c
/-- the flights from a bar at a tick that may be good: those of a trick, those of all tricks -/
def LLc (D : Int → Int → Int) (b t k : Int) : Nat → Int → List Int
  | 0, _ => []
  | n + 1, c => (if okL D b t k c then [enL D b t k c] else []) ++ LLc D b t k n (c + 1)
def LLk (D : Int → Int → Int) (b t : Int) : Nat → Int → List Int
  | 0, _ => []
  | n + 1, k => LLc D b t k (D 0 0).toNat 0 ++ LLk D b t n (k + 1)
def LL (D : Int → Int → Int) (b t : Int) : List Int := LLk D b t (D 0 2).toNat 0
/-- the list of a spot stands from p on -/
def LsAt (M : Int → Int → Int) (p : Int) (X : List Int) : Prop := ∀ i : Nat, i < X.length → M 55 (p + i) = X.getD i 0
def mnd (D : Int → Int → Int) : Prop := ∃ k, 0 ≤ k ∧ k < D 0 2 ∧ D 17 k = 1
/-- the flights are listed -/
def Lst (M D : Int → Int → Int) : Prop := (∀ b t, 0 ≤ b → b < D 0 0 → 0 ≤ t → t ≤ 80 → 0 ≤ M 54 (81 * b + t) ∧ M 54 (81 * b + t + 1) = M 54 (81 * b + t) + (LL D b t).length ∧ M 54 (81 * b + t + 1) ≤ 36288 ∧ LsAt M (M 54 (81 * b + t)) (LL D b t)) ∧ (M 50 8 = 0 ∨ M 50 8 = 1) ∧ (M 50 8 = 1 ↔ mnd D)
def CF (M : Int → Int → Int) (F : Int → Int) (R G : Int) : Prop := M 1 1 = R ∧ M 1 2 = 29 - R ∧ M 46 5 = F 0 ∧ M 46 6 = F 1 ∧ M 59 4 = F 2 ∧ M 64 4 = F 3 ∧ M 2 1 = F 4 ∧ M 135 1 = F 5 ∧ F 5 ≤ 290 ∧ M 64 0 = G ∧ M 64 1 = 161 - G ∧ isG G
def CI (M D : Int → Int → Int) (T F : Int → Int) (P : Int → Int → Int) (B : Int → Int → Int → Int) (O : Int → Int) (R G : Int) : Prop := CG M D R ∧ (CN M D R ∧ CA M D R ∧ WFa D) ∧ CF M F R G ∧ (∀ i, 0 ≤ i → i < F 4 → M 3 i = T i) ∧ (∀ i, 0 ≤ i → i < F 5 → M 136 i = O i) ∧ (F 2 = 1 → CAct M P 59) ∧ (∀ a, 0 ≤ a → a < F 3 → CAct M (B a) (G + 1 + 5 * a)) ∧ (M 50 7 = 0 ∨ M 50 7 = 1) ∧ (M 50 7 = 1 → Lst M D)
/-- the model's memory, the script and the texts are as they were -/
def FrC (M M' : Int → Int → Int) : Prop := ∀ o, (o < 1 ∨ 136 < o) → M' o = M o
theorem FrC.rf (M : Int → Int → Int) : FrC M M := fun _ _ => rfl
theorem FrC.tr {M M1 M2 : Int → Int → Int} (h1 : FrC M M1) (h2 : FrC M1 M2) : FrC M M2 := fun o a => (h2 o a).trans (h1 o a)
theorem FrC.up (M : Int → Int → Int) {o j v : Int} (h : 1 ≤ o ∧ o ≤ 136) : FrC M (am_up M o j v) := fun a q => am_up_o M (by omega)
section
variable {M M' D : Int → Int → Int} {T F : Int → Int} {P : Int → Int → Int} {B : Int → Int → Int → Int} {O : Int → Int} {R G e : Int}
theorem CI.K (h : CI M D T F P B O R G) : CG M D R := h.1
theorem CI.PC (h : CI M D T F P B O R G) : am_PC M := h.1.1
theorem CI.r (h : CI M D T F P B O R G) : isR R := h.1.2.1
theorem CI.W (h : CI M D T F P B O R G) : WF D := h.1.W
theorem CI.N (h : CI M D T F P B O R G) : CN M D R := h.2.1.1
theorem CI.A (h : CI M D T F P B O R G) : CA M D R := h.2.1.2.1
theorem CI.a (h : CI M D T F P B O R G) : WFa D := h.2.1.2.2
theorem CI.F9 (h : CI M D T F P B O R G) : CF M F R G := h.2.2.1
theorem CI.T9 (h : CI M D T F P B O R G) : ∀ i, 0 ≤ i → i < F 4 → M 3 i = T i := h.2.2.2.1
theorem CI.O9 (h : CI M D T F P B O R G) : ∀ i, 0 ≤ i → i < F 5 → M 136 i = O i := h.2.2.2.2.1
theorem CI.L (h : CI M D T F P B O R G) : F 2 = 1 → CAct M P 59 := h.2.2.2.2.2.1
theorem CI.B9 (h : CI M D T F P B O R G) : ∀ a, 0 ≤ a → a < F 3 → CAct M (B a) (G + 1 + 5 * a) := h.2.2.2.2.2.2.1
theorem CI.S0 (h : CI M D T F P B O R G) : M 50 7 = 0 ∨ M 50 7 = 1 := h.2.2.2.2.2.2.2.1
theorem CI.S1 (h : CI M D T F P B O R G) : M 50 7 = 1 → Lst M D := h.2.2.2.2.2.2.2.2
theorem CI.g (h : CI M D T F P B O R G) : isG G := h.F9.2.2.2.2.2.2.2.2.2.2.2
theorem CAct.eq {A : Int → Int → Int} (h : CAct M A e) (q : ∀ o, e ≤ o → o ≤ e + 4 → M' o = M o) : CAct M' A e := by
  unfold CAct at *
  rw [q e (by omega) (by omega), q (e + 1) (by omega) (by omega), q (e + 2) (by omega) (by omega), q (e + 3) (by omega) (by omega), q (e + 4) (by omega) (by omega)]
  exact h
theorem CN.eq (h : CN M D R) (q : ∀ o, R ≤ o → o ≤ R + 20 → M' o = M o) : CN M' D R := by
  unfold CN at *
  rw [q (R + 2) (by omega) (by omega), q (R + 9) (by omega) (by omega), q (R + 12) (by omega) (by omega)]
  exact h
theorem CA.eq (h : CA M D R) (q : ∀ o, R ≤ o → o ≤ R + 20 → M' o = M o) : CA M' D R := by
  unfold CA at *
  rw [q (R + 18) (by omega) (by omega), q (R + 19) (by omega) (by omega)]
  exact h
theorem Lst.eq (h : Lst M D) (q1 : M' 54 = M 54) (q2 : M' 55 = M 55) (q3 : M' 50 8 = M 50 8) : Lst M' D := by
  unfold Lst LsAt at *
  rw [q1, q2, q3]
  exact h
/-- memory that only a look, a search or a track has changed -/
def CX (M M' : Int → Int → Int) : Prop := (∀ o, ¬ (o = 47 ∨ o = 48 ∨ o = 50 ∨ o = 51 ∨ o = 52 ∨ (56 ≤ o ∧ o ≤ 58) ∨ (128 ≤ o ∧ o ≤ 134)) → M' o = M o) ∧ M' 47 0 = M 47 0 ∧ M' 51 0 = M 51 0 ∧ ∀ j, (j ≤ 5 ∨ j = 7 ∨ j = 8) → M' 50 j = M 50 j
theorem CX.rf (M : Int → Int → Int) : CX M M := ⟨fun _ _ => rfl, rfl, rfl, fun _ _ => rfl⟩
theorem CX.tr {M1 M2 : Int → Int → Int} (h1 : CX M M1) (h2 : CX M1 M2) : CX M M2 := ⟨fun o a => (h2.1 o a).trans (h1.1 o a), h2.2.1.trans h1.2.1, h2.2.2.1.trans h1.2.2.1, fun j a => (h2.2.2.2 j a).trans (h1.2.2.2 j a)⟩
theorem CX.fr (h : CX M M') : FrC M M' := fun o a => h.1 o (by omega)
theorem CSc.cx (h : CSc e M M') (hE : isE e) : CX M M' := by
  rcases hE with rfl | rfl
  · exact ⟨fun o a => h.1 o (by omega) (by omega), h.2, by rw [h.1 51 (by decide) (by decide)], fun j _ => by rw [h.1 50 (by decide) (by decide)]⟩
  · exact ⟨fun o a => h.1 o (by omega) (by omega), by rw [h.1 47 (by decide) (by decide)], h.2, fun j _ => by rw [h.1 50 (by decide) (by decide)]⟩
theorem CX.PC (h : CX M M') (hC : am_PC M) : am_PC M' := hC.eq (fun o j q => by
  by_cases z : o = 47
  · have : j = 0 := by unfold pcPl at q; omega
    rw [z, this]; exact h.2.1
  by_cases z2 : o = 51
  · have : j = 0 := by unfold pcPl at q; omega
    rw [z2, this]; exact h.2.2.1
  by_cases z3 : o = 50
  · have : j ≤ 5 := by unfold pcPl at q; omega
    rw [z3]; exact h.2.2.2 j (by omega)
  · have : ¬ (o = 47 ∨ o = 48 ∨ o = 50 ∨ o = 51 ∨ o = 52 ∨ (56 ≤ o ∧ o ≤ 58) ∨ (128 ≤ o ∧ o ≤ 134)) := by unfold pcPl at q; omega
    rw [h.1 o this])
theorem CF.eq (h : CF M F R G) (q : ∀ o, (o = 1 ∨ o = 46 ∨ o = 59 ∨ o = 64 ∨ o = 2 ∨ o = 135) → M' o = M o) : CF M' F R G := by
  unfold CF at *
  rw [q 1 (by omega), q 46 (by omega), q 59 (by omega), q 64 (by omega), q 2 (by omega), q 135 (by omega)]
  exact h
theorem CG.x (h : CG M D R) (s : CX M M') : CG M' D R := h.eq (s.PC h.P) (fun o a b => s.1 o (by have := h.r; unfold isR at this; omega))
theorem CI.x (h : CI M D T F P B O R G) (h3 : F 3 ≤ 6) (s : CX M M') : CI M' D T F P B O R G := by
  have hR := h.r
  have hG := h.g
  unfold isR at hR
  unfold isG at hG
  refine ⟨h.K.x s, ⟨h.N.eq (fun o a b => s.1 o (by omega)), h.A.eq (fun o a b => s.1 o (by omega)), h.a⟩, h.F9.eq (fun o a => s.1 o (by omega)), ?_, ?_, fun q => (h.L q).eq (fun o a b => s.1 o (by omega)), fun a a1 a2 => (h.B9 a a1 a2).eq (fun o b1 b2 => s.1 o (by omega)), ?_, fun q => ?_⟩
  · rw [s.1 3 (by omega)]; exact h.T9
  · rw [s.1 136 (by omega)]; exact h.O9
  · rw [s.2.2.2 7 (by omega)]; exact h.S0
  · rw [s.2.2.2 7 (by omega)] at q
    exact (h.S1 q).eq (s.1 54 (by omega)) (s.1 55 (by omega)) (s.2.2.2 8 (by omega))
theorem CI.sc (h : CI M D T F P B O R G) (h3 : F 3 ≤ 6) (hE : isE e) (s : CSc e M M') : CI M' D T F P B O R G := h.x h3 (s.cx hE)
end
