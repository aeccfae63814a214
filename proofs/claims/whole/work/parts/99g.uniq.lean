/-! the answers are one -/
section
variable {D : Int → Int → Int} {T F : Int → Int} {P : Int → Int → Int} {B : Int → Int → Int → Int} {O : Int → Int}
theorem idR_u {k r r' : Int} (h : idR D k r) (h' : idR D k r') : r = r' := by
  by_cases z : 0 ≤ k ∧ k < D 0 2
  · by_cases w : someFl D k
    · rw [(h.1 z).1 w, (h'.1 z).1 w]
    · rw [(h.1 z).2 w, (h'.1 z).2 w]
  · rw [h.2 z, h'.2 z]
theorem mxR_u {n : Nat} {v w : Int} (h : mxR B n v) (h' : mxR B n w) : v = w := by
  obtain ⟨a1, a2, a3⟩ := h
  obtain ⟨b1, b2, b3⟩ := h'
  have le1 : v ≤ w := by
    rcases a3 with z | ⟨t, t0, t1, z⟩
    · omega
    · have := b2 t t0 t1; omega
  have le2 : w ≤ v := by
    rcases b3 with z | ⟨t, t0, t1, z⟩
    · omega
    · have := a2 t t0 t1; omega
  omega
theorem blR_u {w r r' : Int} (h : blR F B w r) (h' : blR F B w r') : r = r' := by
  obtain ⟨a0, a1, a2, a3⟩ := h
  obtain ⟨b0, b1, b2, b3⟩ := h'
  by_cases z0 : w = 0
  · rw [a0 z0, b0 z0]
  · by_cases z1 : w = 1
    · rw [a1 z1, b1 z1]
    · by_cases z2 : w = 2
      · exact mxR_u (a2 z2) (b2 z2)
      · rw [a3 (by omega), b3 (by omega)]
theorem slR_u {A : Int → Int → Int} {b g r r' : Int} (h : slR D A b g r) (h' : slR D A b g r') : r = r' := by
  rcases h with ⟨a1, a2, a3, a4⟩ | ⟨a1, a2⟩ <;> rcases h' with ⟨b1, b2, b3, b4⟩ | ⟨b1, b2⟩
  · rcases Int.lt_trichotomy r r' with z | z | z
    · exact absurd (b4 r a1 z) a3
    · exact z
    · exact absurd (a4 r' b1 z) b3
  · exact absurd (b2 r a1 a2) a3
  · exact absurd (a2 r' b1 b2) b3
  · omega
theorem pth_u {to y n : Int} : ∀ (f : Nat) {dn l b t left : Int} {A A1 A2 : Int → Int → Int}, pth D to y n f dn l b t left A A1 → pth D to y n f dn l b t left A A2 → A1 = A2
  | 0, _, _, _, _, _, _, _, _, h1, h2 => by
    unfold pth at h1 h2
    rw [h1, h2]
  | f + 1, _, _, _, _, _, _, _, _, h1, h2 => by
    obtain ⟨u, k, c, c1, p1⟩ := h1
    obtain ⟨u', k', c', c2, p2⟩ := h2
    obtain ⟨rfl, rfl, rfl⟩ := fst3_u c1 c2
    exact pth_u f p1 p2
theorem fst2_u {R : Int → Int → Prop} {t b t' b' : Int} (h : fst2 R t b) (h' : fst2 R t' b') : t = t' ∧ b = b' := by
  have h1 := h.2 t' b' h'.1
  have h2 := h'.2 t b h.1
  omega
theorem bsR_u {fr to y n key : Int} {A A' : Int → Int → Int} (h : bsR D fr to y n key A) (h' : bsR D fr to y n key A') : A = A' := by
  obtain ⟨t, b, f, p⟩ := h
  obtain ⟨t', b', f', p'⟩ := h'
  obtain ⟨rfl, rfl⟩ := fst2_u f f'
  exact pth_u _ p p'
theorem snR_u {fr to m n r r' : Int} (h : snR D fr to m n r) (h' : snR D fr to m n r') : r = r' := by
  obtain ⟨v, h1, h2⟩ := h
  obtain ⟨w, g1, g2⟩ := h'
  have := lsR_u (fun t q => q.1.2) h1 g1
  rw [h2, g2, this]
theorem fiR_u {fr to n y r r2 : Int} {F1 F2 : Int → Int} {P1 P2 : Int → Int → Int} {B1 B2 : Int → Int → Int → Int} (h : fiR D F P B fr to n y F1 P1 B1 r) (h' : fiR D F P B fr to n y F2 P2 B2 r2) : F1 = F2 ∧ P1 = P2 ∧ B1 = B2 ∧ r = r2 := by
  rcases h with ⟨a1, a2, a3, n1, a4, a5, a6⟩ | ⟨a1, a2, a3, a4, a5⟩ <;> rcases h' with ⟨b1, b2, b3, n2, b4, b5, b6⟩ | ⟨b1, b2, b3, b4, b5⟩
  · have e := bsR_u a3 b3
    subst e
    obtain ⟨e1, e2⟩ := flP_u _ a4 b4
    subst e2
    exact ⟨a5.trans b5.symm, rfl, e1, a6.trans b6.symm⟩
  · exact absurd ⟨a1, a2⟩ b1
  · exact absurd ⟨b1, b2⟩ a1
  · exact ⟨a2.trans b2.symm, a3.trans b3.symm, a4.trans b4.symm, a5.trans b5.symm⟩
end
