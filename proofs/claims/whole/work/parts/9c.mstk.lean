/-! the model: what waits on the stack while a sum is read -/
def sg0 (f : Int → Int) (a : Int) (l : List Int) : Prop := ∀ i : Nat, i < l.length → f (a + i) = l.getD i 0
theorem sg0_c {f g : Int → Int} {a : Int} {l : List Int} (h : sg0 f a l) (e : ∀ i, a ≤ i → i < a + l.length → g i = f i) : sg0 g a l := fun i hi => by rw [e _ (by omega) (by omega)]; exact h i hi
theorem sg0_nil (f : Int → Int) (a : Int) : sg0 f a [] := fun i hi => by simp at hi
theorem sg0_app {f : Int → Int} {a : Int} {l m : List Int} (h1 : sg0 f a l) (h2 : sg0 f (a + l.length) m) : sg0 f a (l ++ m) := by
  intro i hi
  rw [List.length_append] at hi
  by_cases z : i < l.length
  · rw [h1 i z, List.getD_eq_getElem?_getD, List.getD_eq_getElem?_getD, List.getElem?_append_left z]
  · have := h2 (i - l.length) (by omega)
    rw [show a + (l.length : Int) + ((i - l.length : Nat) : Int) = a + i by omega] at this
    rw [this, List.getD_eq_getElem?_getD, List.getD_eq_getElem?_getD, List.getElem?_append_right (by omega)]
theorem sg0_one {f : Int → Int} {a v : Int} (h : f a = v) : sg0 f a [v] := by
  intro i hi
  have : i = 0 := by simp at hi; omega
  subst this
  rw [show a + ((0 : Nat) : Int) = a by omega, h]; rfl
section
variable {M M' M0 M1 M2 : Int → Int → Int} {T : Int → Int} {n : Int} {d : Nat} {Q Q1 Q2 : AV → am_S → Prop} {q : Nat} {r r' : tk9} {z z' : sz9} {o w b c w' c' : Int} {us vs pa pm : List Int}
/-- only what the reading of a sum or a test leaves has changed -/
def sG (w c : Int) (M M' : Int → Int → Int) : Prop := (∀ o, o ≠ 137 → o ≠ 178 → o ≠ 179 → M' o = M o) ∧ (∀ j, (j ≠ 2 ∧ j ≠ 4 ∧ j ≠ 5 ∧ j ≠ 6 ∧ j ≠ 35 ∧ j ≠ 50 ∧ j ≠ 52 ∧ j ≠ 53) → M' 137 j = M 137 j) ∧ (∀ i, (i < c ∨ 1000 ≤ i) → M' 178 i = M 178 i) ∧ ∀ i, i < w → M' 179 i = M 179 i
theorem sG.rf (w c : Int) (M : Int → Int → Int) : sG w c M M := ⟨fun _ _ _ _ => rfl, fun _ _ => rfl, fun _ _ => rfl, fun _ _ => rfl⟩
theorem sG.tr (h1 : sG w c M M1) (h2 : sG w' c' M1 M2) (hw : w ≤ w') (hc : c ≤ c') : sG w c M M2 := ⟨fun o x y z => (h2.1 o x y z).trans (h1.1 o x y z), fun j x => (h2.2.1 j x).trans (h1.2.1 j x), fun i x => (h2.2.2.1 i (by omega)).trans (h1.2.2.1 i x), fun i x => (h2.2.2.2 i (by omega)).trans (h1.2.2.2 i x)⟩
theorem tF.sg (h : tF M M') : sG w c M M' := ⟨fun o x _ _ => h.1 o x, fun j x => h.2 j (by omega), fun i _ => by rw [h.1 178 (by decide)], fun i _ => by rw [h.1 179 (by decide)]⟩
/-- a fault has ended the reading -/
def sZ (M M' : Int → Int → Int) (f x : Int) : Prop := ((∀ o, o ≠ 137 → o ≠ 178 → o ≠ 179 → M' o = M o) ∧ (∀ j, (j ≠ 2 ∧ j ≠ 4 ∧ j ≠ 5 ∧ j ≠ 6 ∧ j ≠ 35 ∧ j ≠ 50 ∧ j ≠ 52 ∧ j ≠ 53) → M' 137 j = M 137 j) ∧ ∀ i, 1000 ≤ i → M' 178 i = M 178 i) ∧ am_PM M' ∧ f ≠ 0 ∧ M' 137 5 = f ∧ M' 137 6 = x ∧ 0 ≤ M' 137 50 ∧ M' 137 50 ≤ 902
theorem sG.zz {f x : Int} (h1 : sG w c M M1) (h2 : sZ M1 M2 f x) : sZ M M2 f x := ⟨⟨fun o x y z => (h2.1.1 o x y z).trans (h1.1 o x y z), fun j x => (h2.1.2.1 j x).trans (h1.2.1 j x), fun i x => (h2.1.2.2 i x).trans (h1.2.2.1 i (by omega))⟩, h2.2⟩
theorem am_PM.eq9 (hP : am_PM M) (e1 : ∀ o, o ≠ 137 → o ≠ 178 → o ≠ 179 → M' o = M o) (e2 : ∀ j, j ≠ 2 → j ≠ 4 → j ≠ 5 → j ≠ 6 → j ≠ 35 → j ≠ 50 → j ≠ 52 → j ≠ 53 → j ≠ 54 → j ≠ 55 → M' 137 j = M 137 j) : am_PM M' := am_PM_eq hP (fun j hj => e2 j (fun e => hj (by rw [e]; decide)) (fun e => hj (by rw [e]; decide)) (fun e => hj (by rw [e]; decide)) (fun e => hj (by rw [e]; decide)) (fun e => hj (by rw [e]; decide)) (fun e => hj (by rw [e]; decide)) (fun e => hj (by rw [e]; decide)) (fun e => hj (by rw [e]; decide)) (fun e => hj (by rw [e]; decide)) (fun e => hj (by rw [e]; decide))) (fun o a b => e1 o (by omega) (by omega) (by omega))
theorem mK.eq9 (h : mK T n M (.inl r)) (e1 : ∀ o, o ≠ 137 → o ≠ 178 → o ≠ 179 → M' o = M o) (e2 : ∀ j, j ≠ 50 → j ≠ 52 → j ≠ 53 → j ≠ 55 → M' 137 j = M 137 j) : mK T n M' (.inl r) := by
  obtain ⟨⟨b1, b2, b3, b4⟩, k, h5, h6⟩ := h
  exact ⟨⟨b1.eq9 e1 (fun j _ _ _ _ _ x y z _ w => e2 j x y z w), by rw [e2 3 (by decide) (by decide) (by decide) (by decide)]; exact b2, b3, by rw [e1 138 (by decide) (by decide) (by decide)]; exact b4⟩, by rw [e2 2 (by decide) (by decide) (by decide) (by decide), e2 4 (by decide) (by decide) (by decide) (by decide)]; exact k, by rw [e2 5 (by decide) (by decide) (by decide) (by decide)]; exact h5, by rw [e2 6 (by decide) (by decide) (by decide) (by decide)]; exact h6⟩
theorem mC.eq9 (h : mC T n M r) (e1 : ∀ o, o ≠ 137 → o ≠ 178 → o ≠ 179 → M' o = M o) (e2 : ∀ j, j ≠ 50 → j ≠ 52 → j ≠ 53 → j ≠ 55 → M' 137 j = M 137 j) : mC T n M' r := by
  obtain ⟨⟨b1, b2, b3, b4⟩, k, h5, h6⟩ := h
  exact ⟨⟨b1.eq9 e1 (fun j _ _ _ _ _ x y z _ w => e2 j x y z w), by rw [e2 3 (by decide) (by decide) (by decide) (by decide)]; exact b2, b3, by rw [e1 138 (by decide) (by decide) (by decide)]; exact b4⟩, by rw [e2 2 (by decide) (by decide) (by decide) (by decide), e2 4 (by decide) (by decide) (by decide) (by decide)]; exact k, by rw [e2 5 (by decide) (by decide) (by decide) (by decide)]; exact h5, by rw [e2 6 (by decide) (by decide) (by decide) (by decide)]; exact h6⟩
/-- the counts: how many are open, wait, the sum's base, how many codes -/
def mN (M : Int → Int → Int) (o w b c : Int) : Prop := (M 137 53 = o ∧ M 137 52 = w ∧ M 137 55 = b ∧ M 137 50 = c) ∧ (0 ≤ o ∧ o ≤ 6) ∧ (0 ≤ b ∧ b ≤ w) ∧ 0 ≤ c
theorem mN.tf (h : mN M o w b c) (s : tF M M') : mN M' o w b c := ⟨⟨by rw [s.2 53 (by decide)]; exact h.1.1, by rw [s.2 52 (by decide)]; exact h.1.2.1, by rw [s.2 55 (by decide)]; exact h.1.2.2.1, by rw [s.2 50 (by decide)]; exact h.1.2.2.2⟩, h.2⟩
/-- since M0 the codes us have come, but that those of pm and pa still wait -/
def pS (M0 M : Int → Int → Int) (o w b c : Int) (us pa pm : List Int) : Prop := (pa = [] ∨ pa = [1] ∨ pa = [2]) ∧ (pm = [] ∨ pm = [3] ∨ pm = [4]) ∧ ∃ es, us = es ++ pm ++ pa ∧ mN M o (w + pa.length + pm.length) b (c + es.length) ∧ sG w c M0 M ∧ sg0 (M 178) c es ∧ sg0 (M 179) w (pa ++ pm) ∧ (0 ≤ b ∧ b ≤ w ∧ 0 ≤ c)
theorem pS.tf (h : pS M0 M o w b c us pa pm) (s : tF M M') : pS M0 M' o w b c us pa pm := by
  obtain ⟨h1, h2, es, h3, h4, h5, h6, h7, h8⟩ := h
  exact ⟨h1, h2, es, h3, h4.tf s, h5.tr (w' := w) (c' := c) s.sg (Int.le_refl _) (Int.le_refl _), by rw [s.1 178 (by decide)]; exact h6, by rw [s.1 179 (by decide)]; exact h7, h8⟩
theorem mN.ps (h : mN M o w b c) : pS M M o w b c [] [] [] := ⟨Or.inl rfl, Or.inl rfl, [], rfl, by simpa using h, sG.rf _ _ _, sg0_nil _ _, sg0_nil _ _, h.2.2.1.1, h.2.2.1.2, h.2.2.2⟩
theorem pS.fr (h : pS M0 M o w b c us pa pm) : sG w c M0 M := by
  obtain ⟨h1, h2, es, h3, h4, h5, h6, h7, h8⟩ := h
  exact h5
/-- how many codes and how many waiting there are -/
theorem pS.nn (h : pS M0 M o w b c us pa pm) : ∃ c1, M 137 50 = c1 ∧ M 137 52 = w + pa.length + pm.length ∧ M 137 53 = o ∧ M 137 55 = b ∧ c1 + pm.length + pa.length = c + us.length ∧ 0 ≤ c ∧ c ≤ c1 ∧ (0 ≤ o ∧ o ≤ 6) ∧ pa.length ≤ 1 ∧ pm.length ≤ 1 ∧ 0 ≤ b ∧ b ≤ w := by
  obtain ⟨h1, h2, es, h3, h4, h5, h6, h7, h8⟩ := h
  refine ⟨c + es.length, h4.1.2.2.2, h4.1.2.1, h4.1.1, h4.1.2.2.1, ?_, h8.2.2, by omega, h4.2.1, ?_, ?_, h8.1, h8.2.1⟩
  · rw [h3, List.length_append, List.length_append]; omega
  · rcases h1 with rfl | rfl | rfl <;> decide
  · rcases h2 with rfl | rfl | rfl <;> decide
theorem drM_e {w c : Int} : (∀ o, o ≠ 137 → o ≠ 178 → drM M w c o = M o) ∧ (∀ j, j ≠ 50 → j ≠ 52 → drM M w c 137 j = M 137 j) ∧ drM M w c 137 52 = w - 1 ∧ drM M w c 137 50 = c + 1 ∧ drM M w c 178 c = M 179 (w - 1) ∧ ∀ i, i ≠ c → drM M w c 178 i = M 178 i := by
  unfold drM
  refine ⟨fun o x y => ?_, fun j x y => ?_, ?_, ?_, ?_, fun i x => ?_⟩
  all_goals simp (disch := omega) only [am_up_o, am_up_s, am_up_j]
theorem pS.dM {x : Int} (h : pS M0 M o w b c us pa [x]) {c1 : Int} (hc : M 137 50 = c1) (hl : c + us.length ≤ 1000) : M 179 (w + pa.length) = x ∧ (x = 3 ∨ x = 4) ∧ pS M0 (drM M (w + pa.length + 1) c1) o w b c us pa [] := by
  obtain ⟨h1, h2, es, h3, h4, h5, h6, h7, h8⟩ := h
  have e := drM_e (M := M) (w := w + pa.length + 1) (c := c1)
  have ec : c1 = c + es.length := by rw [← hc]; exact h4.1.2.2.2
  have le : (us.length : Int) ≥ es.length + 1 := by rw [h3]; simp only [List.length_append, List.length_cons, List.length_nil]; omega
  have wx : M 179 (w + pa.length) = x := by
    have := h7 pa.length (by simp)
    rw [this, List.getD_eq_getElem?_getD, List.getElem?_append_right (Nat.le_refl _)]; simp
  have x34 : x = 3 ∨ x = 4 := by
    rcases h2 with h2 | h2 | h2
    · cases h2
    · cases h2; exact Or.inl rfl
    · cases h2; exact Or.inr rfl
  refine ⟨wx, x34, h1, Or.inl rfl, es ++ [x], by rw [h3]; simp, ⟨⟨?_, ?_, ?_, ?_⟩, h4.2.1, by simp only [List.length_nil]; omega, by omega⟩, h5.tr (w' := w) (c' := c) ⟨fun o a b _ => e.1 o a b, fun j a => e.2.1 j (by omega) (by omega), fun i a => e.2.2.2.2.2 i (by have := h4.2.2.2; omega), fun i a => by rw [e.1 179 (by decide) (by decide)]⟩ (Int.le_refl _) (Int.le_refl _), ?_, ?_, h8⟩
  · rw [e.2.1 53 (by decide) (by decide)]; exact h4.1.1
  · rw [e.2.2.1]; simp only [List.length_nil]; omega
  · rw [e.2.1 55 (by decide) (by decide)]; exact h4.1.2.2.1
  · rw [e.2.2.2.1, ec, List.length_append]; simp only [List.length_cons, List.length_nil]; omega
  · refine sg0_app (sg0_c h6 (fun i a b => e.2.2.2.2.2 i (by omega))) (sg0_one ?_)
    rw [← ec, e.2.2.2.2.1, show w + (pa.length : Int) + 1 - 1 = w + pa.length by omega]; exact wx
  · rw [List.append_nil, e.1 179 (by decide) (by decide)]
    intro i hi
    rw [h7 i (by rw [List.length_append]; omega), List.getD_eq_getElem?_getD, List.getD_eq_getElem?_getD, List.getElem?_append_left hi]
theorem pS.dA {y : Int} (h : pS M0 M o w b c us [y] []) {c1 : Int} (hc : M 137 50 = c1) (hl : c + us.length ≤ 1000) : M 179 w = y ∧ (y = 1 ∨ y = 2) ∧ pS M0 (drM M (w + 1) c1) o w b c us [] [] := by
  obtain ⟨h1, h2, es, h3, h4, h5, h6, h7, h8⟩ := h
  have e := drM_e (M := M) (w := w + 1) (c := c1)
  have ec : c1 = c + es.length := by rw [← hc]; exact h4.1.2.2.2
  have le : (us.length : Int) ≥ es.length + 1 := by rw [h3]; simp only [List.length_append, List.length_cons, List.length_nil]; omega
  have wx : M 179 w = y := by
    have := h7 0 (by simp)
    rw [show w + ((0 : Nat) : Int) = w by omega] at this
    rw [this]; rfl
  have y12 : y = 1 ∨ y = 2 := by
    rcases h1 with h1 | h1 | h1
    · cases h1
    · cases h1; exact Or.inl rfl
    · cases h1; exact Or.inr rfl
  refine ⟨wx, y12, Or.inl rfl, Or.inl rfl, es ++ [y], by rw [h3]; simp, ⟨⟨?_, ?_, ?_, ?_⟩, h4.2.1, by simp only [List.length_nil]; omega, by omega⟩, h5.tr (w' := w) (c' := c) ⟨fun o a b _ => e.1 o a b, fun j a => e.2.1 j (by omega) (by omega), fun i a => e.2.2.2.2.2 i (by have := h4.2.2.2; omega), fun i a => by rw [e.1 179 (by decide) (by decide)]⟩ (Int.le_refl _) (Int.le_refl _), ?_, sg0_nil _ _, h8⟩
  · rw [e.2.1 53 (by decide) (by decide)]; exact h4.1.1
  · rw [e.2.2.1]; simp only [List.length_nil]; omega
  · rw [e.2.1 55 (by decide) (by decide)]; exact h4.1.2.2.1
  · rw [e.2.2.2.1, ec, List.length_append]; simp only [List.length_cons, List.length_nil]; omega
  · refine sg0_app (sg0_c h6 (fun i a b => e.2.2.2.2.2 i (by omega))) (sg0_one ?_)
    rw [← ec, e.2.2.2.2.1, show w + 1 - 1 = w by omega]; exact wx
theorem mK.dr (h : mK T n M (.inl r)) {w c : Int} : mK T n (drM M w c) (.inl r) := h.eq9 (fun o a b _ => drM_e.1 o a b) (fun j a b _ _ => drM_e.2.1 j a b)
/-- the place where a sum may end: below is the base, or a mark -/
def aM (M : Int → Int → Int) (w b : Int) : Prop := (w = 0 ∨ ¬ (1 ≤ M 179 (w - 1) ∧ M 179 (w - 1) ≤ 4)) ∧ (w = b ∨ (b < w ∧ 20 ≤ M 179 (w - 1) ∧ M 179 (w - 1) ≤ 24))
theorem pS.mk (h : pS M0 M o w b c us pa pm) (ha : aM M0 w b) (hl : w + 2 ≤ 1000) : mkW M b w (w + pa.length + pm.length) ∧ (w = b ∨ M 179 (w - 1) = M0 179 (w - 1)) := by
  obtain ⟨h1, h2, es, h3, h4, h5, h6, h7, h8⟩ := h
  have l1 : pa.length ≤ 1 := by rcases h1 with rfl | rfl | rfl <;> decide
  have l2 : pm.length ≤ 1 := by rcases h2 with rfl | rfl | rfl <;> decide
  have ew : M 179 (w - 1) = M0 179 (w - 1) := h5.2.2.2 _ (by omega)
  refine ⟨⟨⟨h8.1, h8.2.1, by omega, by omega⟩, fun i i0 i1 => ?_, ?_⟩, Or.inr ew⟩
  · have := h7 (i - w).toNat (by rw [List.length_append]; omega)
    rw [show w + (((i - w).toNat : Nat) : Int) = i by omega] at this
    rw [this]
    rcases h1 with rfl | rfl | rfl <;> rcases h2 with rfl | rfl | rfl <;> simp only [List.length_cons, List.length_nil] at i1
    · omega
    · rw [show (i - w).toNat = 0 by omega]; decide
    · rw [show (i - w).toNat = 0 by omega]; decide
    · rw [show (i - w).toNat = 0 by omega]; decide
    · obtain e | e : (i - w).toNat = 0 ∨ (i - w).toNat = 1 := by omega
      · rw [e]; decide
      · rw [e]; decide
    · obtain e | e : (i - w).toNat = 0 ∨ (i - w).toNat = 1 := by omega
      · rw [e]; decide
      · rw [e]; decide
    · rw [show (i - w).toNat = 0 by omega]; decide
    · obtain e | e : (i - w).toNat = 0 ∨ (i - w).toNat = 1 := by omega
      · rw [e]; decide
      · rw [e]; decide
    · obtain e | e : (i - w).toNat = 0 ∨ (i - w).toNat = 1 := by omega
      · rw [e]; decide
      · rw [e]; decide
  · rw [ew]; exact ha.2
/-- all that waits above the mark is dropped -/
theorem r_dtm (hP0 : am_PM M) (h : pS M0 M o w b c us pa pm) (ha : aM M0 w b) (hl : w + 2 ≤ 1000 ∧ c + us.length ≤ 1000) (hQ : ∀ M', (∀ o, o ≠ 137 → o ≠ 178 → M' o = M o) → (∀ j, j ≠ 50 → j ≠ 52 → M' 137 j = M 137 j) → pS M0 M' o w b c us [] [] → Q none (am_SH, M')) : am_Call (d + 3) m_Md_dropsToMark 0 0 [vR 137] (am_SH, M) Q := by
  have pm : ∀ M', (∀ o, o ≠ 137 → o ≠ 178 → M' o = M o) → (∀ j, j ≠ 50 → j ≠ 52 → M' 137 j = M 137 j) → am_PM M' := fun M' e1 e2 => hP0.eq9 (fun o a b _ => e1 o a b) (fun j _ _ _ _ _ a b _ _ _ => e2 j a b)
  have stop : ∀ M', (∀ o, o ≠ 137 → o ≠ 178 → M' o = M o) → (∀ j, j ≠ 50 → j ≠ 52 → M' 137 j = M 137 j) → pS M0 M' o w b c us [] [] → am_Wp (d + 3) m_Md_dropsToMark 0 0 0 [vR 137] [] (am_SH, M') Q := by
    intro M' k' e2 h'
    have hP := pm M' k' e2
    obtain ⟨c1, n1, n2, n3, n4, n5, n6, n7, n8, n9⟩ := h'.nn
    simp only [List.length_nil] at n2
    have mk := (h'.mk ha hl.1).1
    refine B_Md_dropsToMark_0 _ _ _ _ _ ?_
    simp only [b_Md_dropsToMark_0, b_Md_dropsToMark_36, n2, n4, kd_137, ln_138, ln_139, ln_140, ln_141, ln_142, ln_143, ln_144, ln_145, ln_146, ln_147, ln_148, ln_149, ln_150, ln_151, ln_152, ln_153, ln_154, ln_155, ln_156, ln_157, ln_158, ln_159, ln_160, ln_161, ln_162, ln_163, ln_164, ln_165, ln_166, ln_167, ln_168, ln_169, ln_170, ln_171, ln_172, ln_173, ln_174, ln_175, ln_176, ln_177, ln_178, ln_179, ln_180, ln_181, ln_182, ln_183, ln_184, ln_185, ln_186, ln_187, ln_188, ln_189, ln_190, ln_191, pm_0 hP, pm_9 hP, pm_10 hP, pm_11 hP, pm_12 hP, pm_13 hP, pm_14 hP, pm_15 hP, pm_16 hP, pm_17 hP, pm_18 hP, pm_19 hP, pm_20 hP, pm_21 hP, pm_22 hP, pm_23 hP, pm_24 hP, pm_25 hP, pm_26 hP, pm_27 hP, pm_28 hP, pm_29 hP, pm_30 hP, pm_31 hP, pm_32 hP, pm_33 hP, pm_34 hP, pm_36 hP, pm_37 hP, pm_38 hP, pm_39 hP, pm_40 hP, pm_41 hP, pm_42 hP, pm_43 hP, pm_44 hP, pm_45 hP, pm_46 hP, pm_47 hP, pm_48 hP, pm_49 hP, pm_51 hP, pm_64 hP, pm_66 hP, pm_69 hP, pm_72 hP, pm_73 hP, pm_74 hP, pm_75 hP, pm_76 hP, pm_77 hP, pm_78 hP, pm_79 hP, pm_83 hP, am_up_eq, Int.reduceEq, Int.reduceLT, Int.reduceLE, Int.reduceNeg, if_true, if_false, c_const, c_lconst, c_ref, c_iload, c_lload, c_aload, c_istore, c_lstore, c_astore, c_iinc, c_iadd, c_isub, c_imul, c_ladd, c_lsub, c_lmul, c_idiv, c_irem, c_ldiv, c_lrem, c_iand, c_ior, c_ixor, c_ishl, c_ishr, c_ineg, c_i2l, c_l2i, c_i2c, c_lcmp, c_dup, c_pop, c_dup2, c_at, c_icmp_eq, c_icmp_ne, c_icmp_lt, c_icmp_ge, c_icmp_gt, c_icmp_le, c_if_eq, c_if_ne, c_if_lt, c_if_ge, c_if_gt, c_if_le, c_ifnull, c_ifnonnull, am_swK, c_sw, c_iret, c_zret, c_cret, c_bret, c_lret, c_aret, c_vret, c_getI, c_getR, c_putI, c_putZ, c_putR, c_iald, c_zald, c_cald, c_lald, c_oald, c_gald, c_iast, c_zast, c_cast, c_last, c_oast, c_alen, c_callS0, c_callS1, c_callS2, c_callS3, c_callS4, c_callS5, c_callS6, c_callS7, c_callV0, c_callV1, c_callV2, c_callV3, c_callV4, c_callV5, c_callV6, c_callV7, c_callT0, c_callT1, am_nx_eq, am_set, am_set2, am_clr, am_isL, am_push, am_w, am_ent, am_ent1, List.getElem?_cons_zero, List.getElem?_cons_succ, List.set_cons_zero, List.set_cons_succ, List.getD_cons_zero, List.getD_cons_succ, List.cons_append, List.nil_append, List.append_nil, List.replicate_succ, List.replicate_zero, Nat.reduceAdd, Nat.reduceSub, Nat.reduceLeDiff, Bool.false_eq_true, reduceIte, true_and, and_true, true_or, or_true, or_self, am_i32, am_i64, bz_0, bz_01, bz_em, bz_n0, Classical.not_not, am_cmp_lt0, am_cmp_gt0, am_cmp_eq0, am_cmp_ge0, am_cmp_le0, am_cmp_ne0]
    refine ⟨fun _ => hQ M' k' e2 h', fun z => ?_⟩
    rcases mk.2.2 with e | ⟨e1, e3⟩
    · omega
    · repeat (with_reducible refine And.intro (by omega) ?_)
      refine r_isMark ?_
      rw [show w + ((0 : Nat) : Int) + ((0 : Nat) : Int) - 1 = w - 1 by omega, bz_t e3]
      simp only [b_Md_dropsToMark_36, kd_137, ln_138, ln_139, ln_140, ln_141, ln_142, ln_143, ln_144, ln_145, ln_146, ln_147, ln_148, ln_149, ln_150, ln_151, ln_152, ln_153, ln_154, ln_155, ln_156, ln_157, ln_158, ln_159, ln_160, ln_161, ln_162, ln_163, ln_164, ln_165, ln_166, ln_167, ln_168, ln_169, ln_170, ln_171, ln_172, ln_173, ln_174, ln_175, ln_176, ln_177, ln_178, ln_179, ln_180, ln_181, ln_182, ln_183, ln_184, ln_185, ln_186, ln_187, ln_188, ln_189, ln_190, ln_191, pm_0 hP, pm_9 hP, pm_10 hP, pm_11 hP, pm_12 hP, pm_13 hP, pm_14 hP, pm_15 hP, pm_16 hP, pm_17 hP, pm_18 hP, pm_19 hP, pm_20 hP, pm_21 hP, pm_22 hP, pm_23 hP, pm_24 hP, pm_25 hP, pm_26 hP, pm_27 hP, pm_28 hP, pm_29 hP, pm_30 hP, pm_31 hP, pm_32 hP, pm_33 hP, pm_34 hP, pm_36 hP, pm_37 hP, pm_38 hP, pm_39 hP, pm_40 hP, pm_41 hP, pm_42 hP, pm_43 hP, pm_44 hP, pm_45 hP, pm_46 hP, pm_47 hP, pm_48 hP, pm_49 hP, pm_51 hP, pm_64 hP, pm_66 hP, pm_69 hP, pm_72 hP, pm_73 hP, pm_74 hP, pm_75 hP, pm_76 hP, pm_77 hP, pm_78 hP, pm_79 hP, pm_83 hP, am_up_eq, Int.reduceEq, Int.reduceLT, Int.reduceLE, Int.reduceNeg, if_true, if_false, c_const, c_lconst, c_ref, c_iload, c_lload, c_aload, c_istore, c_lstore, c_astore, c_iinc, c_iadd, c_isub, c_imul, c_ladd, c_lsub, c_lmul, c_idiv, c_irem, c_ldiv, c_lrem, c_iand, c_ior, c_ixor, c_ishl, c_ishr, c_ineg, c_i2l, c_l2i, c_i2c, c_lcmp, c_dup, c_pop, c_dup2, c_at, c_icmp_eq, c_icmp_ne, c_icmp_lt, c_icmp_ge, c_icmp_gt, c_icmp_le, c_if_eq, c_if_ne, c_if_lt, c_if_ge, c_if_gt, c_if_le, c_ifnull, c_ifnonnull, am_swK, c_sw, c_iret, c_zret, c_cret, c_bret, c_lret, c_aret, c_vret, c_getI, c_getR, c_putI, c_putZ, c_putR, c_iald, c_zald, c_cald, c_lald, c_oald, c_gald, c_iast, c_zast, c_cast, c_last, c_oast, c_alen, c_callS0, c_callS1, c_callS2, c_callS3, c_callS4, c_callS5, c_callS6, c_callS7, c_callV0, c_callV1, c_callV2, c_callV3, c_callV4, c_callV5, c_callV6, c_callV7, c_callT0, c_callT1, am_nx_eq, am_set, am_set2, am_clr, am_isL, am_push, am_w, am_ent, am_ent1, List.getElem?_cons_zero, List.getElem?_cons_succ, List.set_cons_zero, List.set_cons_succ, List.getD_cons_zero, List.getD_cons_succ, List.cons_append, List.nil_append, List.append_nil, List.replicate_succ, List.replicate_zero, Nat.reduceAdd, Nat.reduceSub, Nat.reduceLeDiff, Bool.false_eq_true, reduceIte, true_and, and_true, true_or, or_true, or_self, am_i32, am_i64, bz_0, bz_01, bz_em, bz_n0, Classical.not_not, am_cmp_lt0, am_cmp_gt0, am_cmp_eq0, am_cmp_ge0, am_cmp_le0, am_cmp_ne0]
      try simp only [Int.reduceEq, Int.reduceLT, Int.reduceLE, Int.reduceNeg, not_true_eq_false, not_false_eq_true, false_implies, true_implies, implies_true, true_and, and_true]
      exact hQ M' k' e2 h'
  have one : ∀ M' pa, (∀ o, o ≠ 137 → o ≠ 178 → M' o = M o) → (∀ j, j ≠ 50 → j ≠ 52 → M' 137 j = M 137 j) → pS M0 M' o w b c us pa [] → am_Wp (d + 3) m_Md_dropsToMark 0 0 0 [vR 137] [] (am_SH, M') Q := by
    intro M' pa k' e2 h'
    rcases h'.1 with rfl | rfl | rfl
    · exact stop M' k' e2 h'
    all_goals
      have hP := pm M' k' e2
      obtain ⟨c1, n1, n2, n3, n4, n5, n6, n7, n8, n9⟩ := h'.nn
      simp only [List.length_nil, List.length_cons] at n2 n5
      have dA := h'.dA n1 hl.2
      refine B_Md_dropsToMark_0 _ _ _ _ _ ?_
      simp only [b_Md_dropsToMark_0, b_Md_dropsToMark_36, n2, n4, kd_137, ln_138, ln_139, ln_140, ln_141, ln_142, ln_143, ln_144, ln_145, ln_146, ln_147, ln_148, ln_149, ln_150, ln_151, ln_152, ln_153, ln_154, ln_155, ln_156, ln_157, ln_158, ln_159, ln_160, ln_161, ln_162, ln_163, ln_164, ln_165, ln_166, ln_167, ln_168, ln_169, ln_170, ln_171, ln_172, ln_173, ln_174, ln_175, ln_176, ln_177, ln_178, ln_179, ln_180, ln_181, ln_182, ln_183, ln_184, ln_185, ln_186, ln_187, ln_188, ln_189, ln_190, ln_191, pm_0 hP, pm_9 hP, pm_10 hP, pm_11 hP, pm_12 hP, pm_13 hP, pm_14 hP, pm_15 hP, pm_16 hP, pm_17 hP, pm_18 hP, pm_19 hP, pm_20 hP, pm_21 hP, pm_22 hP, pm_23 hP, pm_24 hP, pm_25 hP, pm_26 hP, pm_27 hP, pm_28 hP, pm_29 hP, pm_30 hP, pm_31 hP, pm_32 hP, pm_33 hP, pm_34 hP, pm_36 hP, pm_37 hP, pm_38 hP, pm_39 hP, pm_40 hP, pm_41 hP, pm_42 hP, pm_43 hP, pm_44 hP, pm_45 hP, pm_46 hP, pm_47 hP, pm_48 hP, pm_49 hP, pm_51 hP, pm_64 hP, pm_66 hP, pm_69 hP, pm_72 hP, pm_73 hP, pm_74 hP, pm_75 hP, pm_76 hP, pm_77 hP, pm_78 hP, pm_79 hP, pm_83 hP, am_up_eq, Int.reduceEq, Int.reduceLT, Int.reduceLE, Int.reduceNeg, if_true, if_false, c_const, c_lconst, c_ref, c_iload, c_lload, c_aload, c_istore, c_lstore, c_astore, c_iinc, c_iadd, c_isub, c_imul, c_ladd, c_lsub, c_lmul, c_idiv, c_irem, c_ldiv, c_lrem, c_iand, c_ior, c_ixor, c_ishl, c_ishr, c_ineg, c_i2l, c_l2i, c_i2c, c_lcmp, c_dup, c_pop, c_dup2, c_at, c_icmp_eq, c_icmp_ne, c_icmp_lt, c_icmp_ge, c_icmp_gt, c_icmp_le, c_if_eq, c_if_ne, c_if_lt, c_if_ge, c_if_gt, c_if_le, c_ifnull, c_ifnonnull, am_swK, c_sw, c_iret, c_zret, c_cret, c_bret, c_lret, c_aret, c_vret, c_getI, c_getR, c_putI, c_putZ, c_putR, c_iald, c_zald, c_cald, c_lald, c_oald, c_gald, c_iast, c_zast, c_cast, c_last, c_oast, c_alen, c_callS0, c_callS1, c_callS2, c_callS3, c_callS4, c_callS5, c_callS6, c_callS7, c_callV0, c_callV1, c_callV2, c_callV3, c_callV4, c_callV5, c_callV6, c_callV7, c_callT0, c_callT1, am_nx_eq, am_set, am_set2, am_clr, am_isL, am_push, am_w, am_ent, am_ent1, List.getElem?_cons_zero, List.getElem?_cons_succ, List.set_cons_zero, List.set_cons_succ, List.getD_cons_zero, List.getD_cons_succ, List.cons_append, List.nil_append, List.append_nil, List.replicate_succ, List.replicate_zero, Nat.reduceAdd, Nat.reduceSub, Nat.reduceLeDiff, Bool.false_eq_true, reduceIte, true_and, and_true, true_or, or_true, or_self, am_i32, am_i64, bz_0, bz_01, bz_em, bz_n0, Classical.not_not, am_cmp_lt0, am_cmp_gt0, am_cmp_eq0, am_cmp_ge0, am_cmp_le0, am_cmp_ne0]
      refine ⟨fun z => by omega, fun _ => ?_⟩
      repeat (with_reducible refine And.intro (by omega) ?_)
      refine r_isMark ?_
      rw [show w + ((0 + 1 : Nat) : Int) + ((0 : Nat) : Int) - 1 = w by omega, dA.1, bz_f (by decide)]
      simp only [kd_137, ln_138, ln_139, ln_140, ln_141, ln_142, ln_143, ln_144, ln_145, ln_146, ln_147, ln_148, ln_149, ln_150, ln_151, ln_152, ln_153, ln_154, ln_155, ln_156, ln_157, ln_158, ln_159, ln_160, ln_161, ln_162, ln_163, ln_164, ln_165, ln_166, ln_167, ln_168, ln_169, ln_170, ln_171, ln_172, ln_173, ln_174, ln_175, ln_176, ln_177, ln_178, ln_179, ln_180, ln_181, ln_182, ln_183, ln_184, ln_185, ln_186, ln_187, ln_188, ln_189, ln_190, ln_191, pm_0 hP, pm_9 hP, pm_10 hP, pm_11 hP, pm_12 hP, pm_13 hP, pm_14 hP, pm_15 hP, pm_16 hP, pm_17 hP, pm_18 hP, pm_19 hP, pm_20 hP, pm_21 hP, pm_22 hP, pm_23 hP, pm_24 hP, pm_25 hP, pm_26 hP, pm_27 hP, pm_28 hP, pm_29 hP, pm_30 hP, pm_31 hP, pm_32 hP, pm_33 hP, pm_34 hP, pm_36 hP, pm_37 hP, pm_38 hP, pm_39 hP, pm_40 hP, pm_41 hP, pm_42 hP, pm_43 hP, pm_44 hP, pm_45 hP, pm_46 hP, pm_47 hP, pm_48 hP, pm_49 hP, pm_51 hP, pm_64 hP, pm_66 hP, pm_69 hP, pm_72 hP, pm_73 hP, pm_74 hP, pm_75 hP, pm_76 hP, pm_77 hP, pm_78 hP, pm_79 hP, pm_83 hP, am_up_eq, Int.reduceEq, Int.reduceLT, Int.reduceLE, Int.reduceNeg, if_true, if_false, c_const, c_lconst, c_ref, c_iload, c_lload, c_aload, c_istore, c_lstore, c_astore, c_iinc, c_iadd, c_isub, c_imul, c_ladd, c_lsub, c_lmul, c_idiv, c_irem, c_ldiv, c_lrem, c_iand, c_ior, c_ixor, c_ishl, c_ishr, c_ineg, c_i2l, c_l2i, c_i2c, c_lcmp, c_dup, c_pop, c_dup2, c_at, c_icmp_eq, c_icmp_ne, c_icmp_lt, c_icmp_ge, c_icmp_gt, c_icmp_le, c_if_eq, c_if_ne, c_if_lt, c_if_ge, c_if_gt, c_if_le, c_ifnull, c_ifnonnull, am_swK, c_sw, c_iret, c_zret, c_cret, c_bret, c_lret, c_aret, c_vret, c_getI, c_getR, c_putI, c_putZ, c_putR, c_iald, c_zald, c_cald, c_lald, c_oald, c_gald, c_iast, c_zast, c_cast, c_last, c_oast, c_alen, c_callS0, c_callS1, c_callS2, c_callS3, c_callS4, c_callS5, c_callS6, c_callS7, c_callV0, c_callV1, c_callV2, c_callV3, c_callV4, c_callV5, c_callV6, c_callV7, c_callT0, c_callT1, am_nx_eq, am_set, am_set2, am_clr, am_isL, am_push, am_w, am_ent, am_ent1, List.getElem?_cons_zero, List.getElem?_cons_succ, List.set_cons_zero, List.set_cons_succ, List.getD_cons_zero, List.getD_cons_succ, List.cons_append, List.nil_append, List.append_nil, List.replicate_succ, List.replicate_zero, Nat.reduceAdd, Nat.reduceSub, Nat.reduceLeDiff, Bool.false_eq_true, reduceIte, true_and, and_true, true_or, or_true, or_self, am_i32, am_i64, bz_0, bz_01, bz_em, bz_n0, Classical.not_not, am_cmp_lt0, am_cmp_gt0, am_cmp_eq0, am_cmp_ge0, am_cmp_le0, am_cmp_ne0]
      try simp only [Int.reduceEq, Int.reduceLT, Int.reduceLE, Int.reduceNeg, not_true_eq_false, not_false_eq_true, false_implies, true_implies, implies_true, true_and, and_true]
      refine r_drops (w := w + 1) hP (by rw [n2]; omega) (by omega) n1 (by omega) ?_
      simp only [c_const, c_lconst, c_ref, c_iload, c_lload, c_aload, c_istore, c_lstore, c_astore, c_iinc, c_iadd, c_isub, c_imul, c_ladd, c_lsub, c_lmul, c_idiv, c_irem, c_ldiv, c_lrem, c_iand, c_ior, c_ixor, c_ishl, c_ishr, c_ineg, c_i2l, c_l2i, c_i2c, c_lcmp, c_dup, c_pop, c_dup2, c_at, c_icmp_eq, c_icmp_ne, c_icmp_lt, c_icmp_ge, c_icmp_gt, c_icmp_le, c_if_eq, c_if_ne, c_if_lt, c_if_ge, c_if_gt, c_if_le, c_ifnull, c_ifnonnull, am_swK, c_sw, c_iret, c_zret, c_cret, c_bret, c_lret, c_aret, c_vret, c_getI, c_getR, c_putI, c_putZ, c_putR, c_iald, c_zald, c_cald, c_lald, c_oald, c_gald, c_iast, c_zast, c_cast, c_last, c_oast, c_alen, c_callS0, c_callS1, c_callS2, c_callS3, c_callS4, c_callS5, c_callS6, c_callS7, c_callV0, c_callV1, c_callV2, c_callV3, c_callV4, c_callV5, c_callV6, c_callV7, c_callT0, c_callT1, am_nx_eq, am_set, am_set2, am_clr, am_isL, am_push, am_w, am_ent, am_ent1, List.getElem?_cons_zero, List.getElem?_cons_succ, List.set_cons_zero, List.set_cons_succ, List.getD_cons_zero, List.getD_cons_succ, List.cons_append, List.nil_append, List.append_nil, List.replicate_succ, List.replicate_zero, Nat.reduceAdd, Nat.reduceSub, Nat.reduceLeDiff, Bool.false_eq_true, reduceIte, true_and, and_true, true_or, or_true, or_self, am_i32, am_i64, bz_0, bz_01, bz_em, bz_n0, Classical.not_not, am_cmp_lt0, am_cmp_gt0, am_cmp_eq0, am_cmp_ge0, am_cmp_le0, am_cmp_ne0]
      exact stop _ (fun o a b => (drM_e.1 o a b).trans (k' o a b)) (fun j a b => (drM_e.2.1 j a b).trans (e2 j a b)) dA.2.2
  refine am_Call_of rfl (Nat.le_of_ble_eq_true rfl) ?_
  show am_Wp (d + 3) m_Md_dropsToMark 0 0 0 [vR 137] [] (am_SH, M) Q
  rcases h.2.1 with rfl | rfl | rfl
  · exact one M pa (fun _ _ _ => rfl) (fun _ _ _ => rfl) h
  all_goals
    have hP := hP0
    obtain ⟨c1, n1, n2, n3, n4, n5, n6, n7, n8, n9, n10, n11⟩ := h.nn
    simp only [List.length_nil, List.length_cons] at n2 n5
    have dM := h.dM n1 hl.2
    refine B_Md_dropsToMark_0 _ _ _ _ _ ?_
    simp only [b_Md_dropsToMark_0, b_Md_dropsToMark_36, n2, n4, kd_137, ln_138, ln_139, ln_140, ln_141, ln_142, ln_143, ln_144, ln_145, ln_146, ln_147, ln_148, ln_149, ln_150, ln_151, ln_152, ln_153, ln_154, ln_155, ln_156, ln_157, ln_158, ln_159, ln_160, ln_161, ln_162, ln_163, ln_164, ln_165, ln_166, ln_167, ln_168, ln_169, ln_170, ln_171, ln_172, ln_173, ln_174, ln_175, ln_176, ln_177, ln_178, ln_179, ln_180, ln_181, ln_182, ln_183, ln_184, ln_185, ln_186, ln_187, ln_188, ln_189, ln_190, ln_191, pm_0 hP, pm_9 hP, pm_10 hP, pm_11 hP, pm_12 hP, pm_13 hP, pm_14 hP, pm_15 hP, pm_16 hP, pm_17 hP, pm_18 hP, pm_19 hP, pm_20 hP, pm_21 hP, pm_22 hP, pm_23 hP, pm_24 hP, pm_25 hP, pm_26 hP, pm_27 hP, pm_28 hP, pm_29 hP, pm_30 hP, pm_31 hP, pm_32 hP, pm_33 hP, pm_34 hP, pm_36 hP, pm_37 hP, pm_38 hP, pm_39 hP, pm_40 hP, pm_41 hP, pm_42 hP, pm_43 hP, pm_44 hP, pm_45 hP, pm_46 hP, pm_47 hP, pm_48 hP, pm_49 hP, pm_51 hP, pm_64 hP, pm_66 hP, pm_69 hP, pm_72 hP, pm_73 hP, pm_74 hP, pm_75 hP, pm_76 hP, pm_77 hP, pm_78 hP, pm_79 hP, pm_83 hP, am_up_eq, Int.reduceEq, Int.reduceLT, Int.reduceLE, Int.reduceNeg, if_true, if_false, c_const, c_lconst, c_ref, c_iload, c_lload, c_aload, c_istore, c_lstore, c_astore, c_iinc, c_iadd, c_isub, c_imul, c_ladd, c_lsub, c_lmul, c_idiv, c_irem, c_ldiv, c_lrem, c_iand, c_ior, c_ixor, c_ishl, c_ishr, c_ineg, c_i2l, c_l2i, c_i2c, c_lcmp, c_dup, c_pop, c_dup2, c_at, c_icmp_eq, c_icmp_ne, c_icmp_lt, c_icmp_ge, c_icmp_gt, c_icmp_le, c_if_eq, c_if_ne, c_if_lt, c_if_ge, c_if_gt, c_if_le, c_ifnull, c_ifnonnull, am_swK, c_sw, c_iret, c_zret, c_cret, c_bret, c_lret, c_aret, c_vret, c_getI, c_getR, c_putI, c_putZ, c_putR, c_iald, c_zald, c_cald, c_lald, c_oald, c_gald, c_iast, c_zast, c_cast, c_last, c_oast, c_alen, c_callS0, c_callS1, c_callS2, c_callS3, c_callS4, c_callS5, c_callS6, c_callS7, c_callV0, c_callV1, c_callV2, c_callV3, c_callV4, c_callV5, c_callV6, c_callV7, c_callT0, c_callT1, am_nx_eq, am_set, am_set2, am_clr, am_isL, am_push, am_w, am_ent, am_ent1, List.getElem?_cons_zero, List.getElem?_cons_succ, List.set_cons_zero, List.set_cons_succ, List.getD_cons_zero, List.getD_cons_succ, List.cons_append, List.nil_append, List.append_nil, List.replicate_succ, List.replicate_zero, Nat.reduceAdd, Nat.reduceSub, Nat.reduceLeDiff, Bool.false_eq_true, reduceIte, true_and, and_true, true_or, or_true, or_self, am_i32, am_i64, bz_0, bz_01, bz_em, bz_n0, Classical.not_not, am_cmp_lt0, am_cmp_gt0, am_cmp_eq0, am_cmp_ge0, am_cmp_le0, am_cmp_ne0]
    refine ⟨fun z => by omega, fun _ => ?_⟩
    repeat (with_reducible refine And.intro (by omega) ?_)
    refine r_isMark ?_
    rw [show w + (pa.length : Int) + ((0 + 1 : Nat) : Int) - 1 = w + pa.length by omega, dM.1, bz_f (by decide)]
    simp only [kd_137, ln_138, ln_139, ln_140, ln_141, ln_142, ln_143, ln_144, ln_145, ln_146, ln_147, ln_148, ln_149, ln_150, ln_151, ln_152, ln_153, ln_154, ln_155, ln_156, ln_157, ln_158, ln_159, ln_160, ln_161, ln_162, ln_163, ln_164, ln_165, ln_166, ln_167, ln_168, ln_169, ln_170, ln_171, ln_172, ln_173, ln_174, ln_175, ln_176, ln_177, ln_178, ln_179, ln_180, ln_181, ln_182, ln_183, ln_184, ln_185, ln_186, ln_187, ln_188, ln_189, ln_190, ln_191, pm_0 hP, pm_9 hP, pm_10 hP, pm_11 hP, pm_12 hP, pm_13 hP, pm_14 hP, pm_15 hP, pm_16 hP, pm_17 hP, pm_18 hP, pm_19 hP, pm_20 hP, pm_21 hP, pm_22 hP, pm_23 hP, pm_24 hP, pm_25 hP, pm_26 hP, pm_27 hP, pm_28 hP, pm_29 hP, pm_30 hP, pm_31 hP, pm_32 hP, pm_33 hP, pm_34 hP, pm_36 hP, pm_37 hP, pm_38 hP, pm_39 hP, pm_40 hP, pm_41 hP, pm_42 hP, pm_43 hP, pm_44 hP, pm_45 hP, pm_46 hP, pm_47 hP, pm_48 hP, pm_49 hP, pm_51 hP, pm_64 hP, pm_66 hP, pm_69 hP, pm_72 hP, pm_73 hP, pm_74 hP, pm_75 hP, pm_76 hP, pm_77 hP, pm_78 hP, pm_79 hP, pm_83 hP, am_up_eq, Int.reduceEq, Int.reduceLT, Int.reduceLE, Int.reduceNeg, if_true, if_false, c_const, c_lconst, c_ref, c_iload, c_lload, c_aload, c_istore, c_lstore, c_astore, c_iinc, c_iadd, c_isub, c_imul, c_ladd, c_lsub, c_lmul, c_idiv, c_irem, c_ldiv, c_lrem, c_iand, c_ior, c_ixor, c_ishl, c_ishr, c_ineg, c_i2l, c_l2i, c_i2c, c_lcmp, c_dup, c_pop, c_dup2, c_at, c_icmp_eq, c_icmp_ne, c_icmp_lt, c_icmp_ge, c_icmp_gt, c_icmp_le, c_if_eq, c_if_ne, c_if_lt, c_if_ge, c_if_gt, c_if_le, c_ifnull, c_ifnonnull, am_swK, c_sw, c_iret, c_zret, c_cret, c_bret, c_lret, c_aret, c_vret, c_getI, c_getR, c_putI, c_putZ, c_putR, c_iald, c_zald, c_cald, c_lald, c_oald, c_gald, c_iast, c_zast, c_cast, c_last, c_oast, c_alen, c_callS0, c_callS1, c_callS2, c_callS3, c_callS4, c_callS5, c_callS6, c_callS7, c_callV0, c_callV1, c_callV2, c_callV3, c_callV4, c_callV5, c_callV6, c_callV7, c_callT0, c_callT1, am_nx_eq, am_set, am_set2, am_clr, am_isL, am_push, am_w, am_ent, am_ent1, List.getElem?_cons_zero, List.getElem?_cons_succ, List.set_cons_zero, List.set_cons_succ, List.getD_cons_zero, List.getD_cons_succ, List.cons_append, List.nil_append, List.append_nil, List.replicate_succ, List.replicate_zero, Nat.reduceAdd, Nat.reduceSub, Nat.reduceLeDiff, Bool.false_eq_true, reduceIte, true_and, and_true, true_or, or_true, or_self, am_i32, am_i64, bz_0, bz_01, bz_em, bz_n0, Classical.not_not, am_cmp_lt0, am_cmp_gt0, am_cmp_eq0, am_cmp_ge0, am_cmp_le0, am_cmp_ne0]
    try simp only [Int.reduceEq, Int.reduceLT, Int.reduceLE, Int.reduceNeg, not_true_eq_false, not_false_eq_true, false_implies, true_implies, implies_true, true_and, and_true]
    refine r_drops (w := w + pa.length + 1) hP (by rw [n2]; omega) (by omega) n1 (by omega) ?_
    simp only [c_const, c_lconst, c_ref, c_iload, c_lload, c_aload, c_istore, c_lstore, c_astore, c_iinc, c_iadd, c_isub, c_imul, c_ladd, c_lsub, c_lmul, c_idiv, c_irem, c_ldiv, c_lrem, c_iand, c_ior, c_ixor, c_ishl, c_ishr, c_ineg, c_i2l, c_l2i, c_i2c, c_lcmp, c_dup, c_pop, c_dup2, c_at, c_icmp_eq, c_icmp_ne, c_icmp_lt, c_icmp_ge, c_icmp_gt, c_icmp_le, c_if_eq, c_if_ne, c_if_lt, c_if_ge, c_if_gt, c_if_le, c_ifnull, c_ifnonnull, am_swK, c_sw, c_iret, c_zret, c_cret, c_bret, c_lret, c_aret, c_vret, c_getI, c_getR, c_putI, c_putZ, c_putR, c_iald, c_zald, c_cald, c_lald, c_oald, c_gald, c_iast, c_zast, c_cast, c_last, c_oast, c_alen, c_callS0, c_callS1, c_callS2, c_callS3, c_callS4, c_callS5, c_callS6, c_callS7, c_callV0, c_callV1, c_callV2, c_callV3, c_callV4, c_callV5, c_callV6, c_callV7, c_callT0, c_callT1, am_nx_eq, am_set, am_set2, am_clr, am_isL, am_push, am_w, am_ent, am_ent1, List.getElem?_cons_zero, List.getElem?_cons_succ, List.set_cons_zero, List.set_cons_succ, List.getD_cons_zero, List.getD_cons_succ, List.cons_append, List.nil_append, List.append_nil, List.replicate_succ, List.replicate_zero, Nat.reduceAdd, Nat.reduceSub, Nat.reduceLeDiff, Bool.false_eq_true, reduceIte, true_and, and_true, true_or, or_true, or_self, am_i32, am_i64, bz_0, bz_01, bz_em, bz_n0, Classical.not_not, am_cmp_lt0, am_cmp_gt0, am_cmp_eq0, am_cmp_ge0, am_cmp_le0, am_cmp_ne0]
    exact one _ pa (fun o a b => drM_e.1 o a b) (fun j a b => drM_e.2.1 j a b) dM.2.2
end
