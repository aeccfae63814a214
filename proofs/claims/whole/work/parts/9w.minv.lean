/-! the two objects as the constructors leave them -/
section
theorem ck9 {n : Nat} {p : Int → Bool} (h : (List.range n).all (fun q => p (q : Int)) = true) {j : Int} (h0 : 0 ≤ j) (h1 : j < (n : Int)) : p j = true := by
  have := List.all_eq_true.mp h j.toNat (List.mem_range.mpr (by omega))
  rwa [show ((j.toNat : Nat) : Int) = j by omega] at this
theorem ck9e {n : Nat} {f g : Int → Int} (h : (List.range n).all (fun q => f (q : Int) == g (q : Int)) = true) {j : Int} (h0 : 0 ≤ j) (h1 : j < (n : Int)) : f j = g j := by
  have := ck9 (p := fun q => f q == g q) h h0 h1
  exact eq_of_beq this
theorem wA_pc : am_PC (wr wA) := by
  refine ⟨by decide +kernel, ?_, ?_, ?_, ?_, ?_⟩
  · intro R hR
    rcases hR with h | h
    · subst h
      exact ⟨by decide +kernel, by decide +kernel, by decide +kernel, fun j a b => ck9e (n := 6) (f := fun j => wr wA (4 + 1) j) (g := fun j => 4 + 2 + j) (by decide +kernel) a (by omega), fun j a b => ck9e (n := 2) (f := fun j => wr wA (4 + 8) j) (g := fun j => 4 + 9 + j) (by decide +kernel) a (by omega), fun j a b => ck9e (n := 9) (f := fun j => wr wA (4 + 11) j) (g := fun j => 4 + 12 + j) (by decide +kernel) a (by omega)⟩
    · subst h
      exact ⟨by decide +kernel, by decide +kernel, by decide +kernel, fun j a b => ck9e (n := 6) (f := fun j => wr wA (25 + 1) j) (g := fun j => 25 + 2 + j) (by decide +kernel) a (by omega), fun j a b => ck9e (n := 2) (f := fun j => wr wA (25 + 8) j) (g := fun j => 25 + 9 + j) (by decide +kernel) a (by omega), fun j a b => ck9e (n := 9) (f := fun j => wr wA (25 + 11) j) (g := fun j => 25 + 12 + j) (by decide +kernel) a (by omega)⟩
  · intro e he j j0 j1
    have k1 : ∀ q, 0 ≤ q → q < 6 → ∀ j, 0 ≤ j → j < 4 → wr wA (66 + 5 * q) j = 66 + 5 * q + 1 + j ∧ wr wA (97 + 5 * q) j = 97 + 5 * q + 1 + j := by
      intro q q0 q1 j j0 j1
      have := ck9 (n := 6) (p := fun q => (List.range 4).all (fun j => wr wA (66 + 5 * q) (j : Int) == 66 + 5 * q + 1 + (j : Int) && wr wA (97 + 5 * q) (j : Int) == 97 + 5 * q + 1 + (j : Int))) (by decide +kernel) q0 q1
      have := ck9 (n := 4) (p := fun j => wr wA (66 + 5 * q) j == 66 + 5 * q + 1 + j && wr wA (97 + 5 * q) j == 97 + 5 * q + 1 + j) this j0 j1
      have := Bool.and_eq_true_iff.mp this
      exact ⟨eq_of_beq this.1, eq_of_beq this.2⟩
    rcases he with h | h | h
    · subst h
      exact ck9e (n := 4) (f := fun j => wr wA 59 j) (g := fun j => 59 + 1 + j) (by decide +kernel) j0 (by omega)
    · have := (k1 ((e - 66) / 5) (by omega) (by omega) j j0 (by omega)).1
      rwa [show 66 + 5 * ((e - 66) / 5) = e by omega] at this
    · have := (k1 ((e - 97) / 5) (by omega) (by omega) j j0 (by omega)).2
      rwa [show 97 + 5 * ((e - 97) / 5) = e by omega] at this
  · intro G hG j j0 j1
    rcases hG with h | h
    · subst h
      exact ck9e (n := 6) (f := fun j => wr wA 65 j) (g := fun j => 65 + 1 + 5 * j) (by decide +kernel) j0 (by omega)
    · subst h
      exact ck9e (n := 6) (f := fun j => wr wA 96 j) (g := fun j => 96 + 1 + 5 * j) (by decide +kernel) j0 (by omega)
  · intro e he
    rcases he with h | h
    · subst h; decide +kernel
    · subst h; decide +kernel
  · intro j j0 j1
    exact ck9e (n := 6) (f := fun j => wr wA 127 j) (g := fun j => 128 + j) (by decide +kernel) j0 (by omega)
theorem wA_pm : am_PM (wr wA) := by
  refine ⟨fun j h => ?_, fun k i k0 k1 i0 i1 => ?_⟩
  · have r : 0 ≤ j ∧ j < 84 := by
      unfold am_ps at h
      repeat' split at h
      all_goals omega
    have := ck9 (n := 84) (p := fun j => am_ps j == 0 || wr wA 137 j == am_ps j) (by decide +kernel) r.1 r.2
    rcases Bool.or_eq_true_iff.mp this with w | w
    · exact absurd (eq_of_beq w) h
    · exact eq_of_beq w
  · have := ck9 (n := 26) (p := fun k => (List.range (am_wl9.getD k.toNat []).length).all (fun i => wr wA (139 + k) (i : Int) == am_wc k (i : Int))) (by decide +kernel) k0 k1
    exact ck9e (f := fun i => wr wA (139 + k) i) (g := fun i => am_wc k i) this i0 i1
/-- the memory where the objects lie -/
def lo9 (M : Int → Int → Int) : Prop := ∀ a b, 1 ≤ a → a ≤ 191 → M a b = wr wA a b
theorem am_PC_lo {M : Int → Int → Int} (h : lo9 M) : am_PC M := wA_pc.eq (fun o j q => h o j (by unfold pcPl at q; omega) (by unfold pcPl at q; omega))
theorem am_PM_lo {M : Int → Int → Int} (h : lo9 M) : am_PM M := ⟨fun j z => by rw [h 137 j (by decide) (by decide)]; exact wA_pm.1 j z, fun k i a b x y => by rw [h (139 + k) i (by omega) (by omega)]; exact wA_pm.2 k i a b x y⟩
theorem INV_0 {M : Int → Int → Int} (h : lo9 M) : INV M := by
  have e : ∀ a b v, 1 ≤ a → a ≤ 191 → wr wA a b = v → M a b = v := fun a b v x y z => (h a b x y).trans z
  have n9 : ∀ b : Int, 0 ≤ b → b < 0 → False := fun b x y => by omega
  have wf : WF (fun _ _ => 0) := ⟨by decide, by decide, by decide, fun b x y => (n9 b x y).elim, fun b x y => (n9 b x y).elim, fun b x y => (n9 b x y).elim⟩
  refine ⟨fun _ _ => 0, fun _ => 0, fun j => if j = 1 then -1 else 0, fun _ _ => 0, fun _ _ _ => 0, fun _ => 0, 4, 65, ?_, ?_, ?_, ?_, fun b x y => (n9 b x y).elim⟩
  · refine ⟨⟨am_PC_lo h, Or.inl rfl, ⟨⟨e _ _ _ (by decide) (by decide) (by decide +kernel), e _ _ _ (by decide) (by decide) (by decide +kernel), e _ _ _ (by decide) (by decide) (by decide +kernel)⟩, fun b x y => (n9 b x y).elim, fun b x y => (n9 b x y).elim, fun b x y => (n9 b x y).elim⟩, wf, fun b x y => (n9 b x y).elim⟩, ⟨⟨fun b x y => (n9 b x y).elim, fun b x y => (n9 b x y).elim, fun b x y => (n9 b x y).elim⟩, fun b x y => (n9 b x y).elim, fun b x y => (n9 b x y).elim⟩, ⟨e _ _ _ (by decide) (by decide) (by decide +kernel), e _ _ _ (by decide) (by decide) (by decide +kernel), e _ _ _ (by decide) (by decide) (by decide +kernel), e _ _ _ (by decide) (by decide) (by decide +kernel), e _ _ _ (by decide) (by decide) (by decide +kernel), e _ _ _ (by decide) (by decide) (by decide +kernel), e _ _ _ (by decide) (by decide) (by decide +kernel), e _ _ _ (by decide) (by decide) (by decide +kernel), by decide, e _ _ _ (by decide) (by decide) (by decide +kernel), e _ _ _ (by decide) (by decide) (by decide +kernel), Or.inl rfl⟩, fun b x y => (n9 b x y).elim, fun b x y => (n9 b x y).elim, fun w => absurd w (by decide), fun b x y => (n9 b x y).elim, Or.inl (e _ _ _ (by decide) (by decide) (by decide +kernel)), fun w => ?_⟩
    rw [e 50 7 0 (by decide) (by decide) (by decide +kernel)] at w
    exact absurd w (by decide)
  · refine ⟨⟨am_PM_lo h, ⟨e _ _ _ (by decide) (by decide) (by decide +kernel), e _ _ _ (by decide) (by decide) (by decide +kernel), e _ _ _ (by decide) (by decide) (by decide +kernel), fun b x y => (n9 b x y).elim, fun b x y => (n9 b x y).elim, fun b x y => (n9 b x y).elim⟩, wf, fun b x y => (n9 b x y).elim, fun b x y => (n9 b x y).elim⟩, ⟨fun b x y => (n9 b x y).elim, fun b x y => (n9 b x y).elim, fun b x y => (n9 b x y).elim⟩, ⟨e _ _ _ (by decide) (by decide) (by decide +kernel), e _ _ _ (by decide) (by decide) (by decide +kernel), e _ _ _ (by decide) (by decide) (by decide +kernel), e _ _ _ (by decide) (by decide) (by decide +kernel), e _ _ _ (by decide) (by decide) (by decide +kernel), e _ _ _ (by decide) (by decide) (by decide +kernel), e _ _ _ (by decide) (by decide) (by decide +kernel), e _ _ _ (by decide) (by decide) (by decide +kernel)⟩, fun b x y => (n9 b x y).elim, fun b x y => (n9 b x y).elim, fun w => absurd w (by decide), fun b x y => (n9 b x y).elim⟩
  · exact ⟨⟨⟨fun b x y => (n9 b x y).elim, fun b x y => (n9 b x y).elim, fun b x y => (n9 b x y).elim⟩, by decide, by decide, by decide, by decide⟩, fun b x y => (n9 b x y).elim, fun b x y => (n9 b x y).elim, fun w => absurd w (by decide), fun b x y => (n9 b x y).elim⟩
  · intro i i0 i1
    refine Or.inl (e 169 i 0 (by decide) (by decide) ?_)
    exact ck9e (n := 8) (f := fun i => wr wA 169 i) (g := fun _ => 0) (by decide +kernel) i0 i1
/-- the whole law, from the empty store on -/
theorem law_run {d : Nat} {Q : AV → am_S → Prop} {M0 : Int → Int → Int} (h0 : 0 ≤ M0 (-1) (-1)) (h1 : M0 (-1) (-1) ≤ 4096) (hQ : ∀ st, Q (vI 1) st) : am_Wp (d + 61) m_Law_law 191 154411 0 (am_ent [vR (-1)] m_Law_law.2.2.1) [] ([], M0) Q := by
  refine z_law (fun st c => ?_)
  obtain ⟨H, M⟩ := st
  have eH : H = am_SH := c.1
  subst eH
  have e1 : M (-1) = M0 (-1) := c.2.2.1 (-1) (by decide)
  exact law_loop (M (-1) (-1)).toNat M 0 (INV_0 (fun a b x y => c.2.1 a b x y)) (by decide) (by rw [e1]; exact h1) (by rw [e1]; exact h0) (by rw [e1]; omega) (fun M => hQ _)
end
