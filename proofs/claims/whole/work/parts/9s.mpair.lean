/-! the class and the model, call by call -/
section
variable {M M' M1 M2 D : Int → Int → Int} {T F : Int → Int} {P : Int → Int → Int} {B : Int → Int → Int → Int} {O : Int → Int} {R G : Int} {d : Nat} {Q : AV → am_S → Prop}
theorem ActR.eq9 {A : Int → Int → Int} {s : Int} (h : ActR M A s) (e : ∀ o, 137 ≤ o → M' o = M o) : ActR M' A s := by
  unfold ActR at *
  simp only [e 183 (by decide), e 184 (by decide), e 185 (by decide), e 186 (by decide), e 187 (by decide), e 188 (by decide), e 189 (by decide), e 190 (by decide)]
  exact h
theorem MI.eq9 (h : MI M D T F P B O) (e : ∀ o, 137 ≤ o → M' o = M o) : MI M' D T F P B O := by
  refine ⟨h.G.eq (am_PM_eq h.P9 (fun j _ => by rw [e 137 (by decide)]) (fun o a _ => e o (by omega))) (fun o a => e o (by omega)), h.N.eq (fun o a _ => e o (by omega)), ?_, ?_, ?_, fun a => (h.L a).eq9 e, fun a a0 a1 => (h.B9 a a0 a1).eq9 e⟩
  · have := h.F9
    unfold MF at *
    rw [e 137 (by decide)]; exact this
  · rw [e 138 (by decide)]; exact h.T9
  · rw [e 191 (by decide)]; exact h.O9
theorem CI.eq9 (h : CI M D T F P B O R G) (h3 : F 3 ≤ 6) (e : ∀ o, o < 137 → M' o = M o) : CI M' D T F P B O R G := by
  have hC : am_PC M' := h.PC.eq (fun o j q => by rw [e o (by unfold pcPl at q; omega)])
  have hr := h.r
  unfold isR at hr
  have hg := h.g
  unfold isG at hg
  refine ⟨h.K.eq hC (fun o a b => e o (by omega)), ⟨h.N.eq (fun o a b => e o (by omega)), h.A.eq (fun o a b => e o (by omega)), h.a⟩, ?_, ?_, ?_, fun a => (h.L a).eq (fun o a b => e o (by omega)), fun a a0 a1 => (h.B9 a a0 a1).eq (fun o x y => e o (by omega)), ?_, ?_⟩
  · have := h.F9
    unfold CF at *
    rw [e 1 (by decide), e 46 (by decide), e 59 (by decide), e 64 (by decide), e 2 (by decide), e 135 (by decide)]; exact this
  · rw [e 3 (by decide)]; exact h.T9
  · rw [e 136 (by decide)]; exact h.O9
  · rw [e 50 (by decide)]; exact h.S0
  · rw [e 50 (by decide)]
    intro a
    have l := h.S1 a
    unfold Lst LsAt at *
    rw [e 50 (by decide), e 54 (by decide), e 55 (by decide)]
    exact l
/-- the two states are one -/
def ST (M D : Int → Int → Int) (T F : Int → Int) (P : Int → Int → Int) (B : Int → Int → Int → Int) (O : Int → Int) (R G : Int) : Prop := CI M D T F P B O R G ∧ MI M D T F P B O ∧ SW D T F P B O ∧ hb9 M ∧ ∀ b, 0 ≤ b → b < D 0 0 → 0 ≤ D 3 b ∧ D 3 b ≤ 39
def INV (M : Int → Int → Int) : Prop := ∃ D T F P B O R G, ST M D T F P B O R G
/-- the script is as it was -/
def sC (M M' : Int → Int → Int) : Prop := ∀ o, o < 1 → M' o = M o
theorem sC.tr (h1 : sC M M1) (h2 : sC M1 M2) : sC M M2 := fun o a => (h2 o a).trans (h1 o a)
theorem FrC.c (h : FrC M M') : sC M M' := fun o a => h o (Or.inl a)
theorem Fr.c (h : Fr M M') : sC M M' := fun o a => h o (Or.inl (by omega))
theorem FrC.hb (h : FrC M M') (b : hb9 M) : hb9 M' := fun i x y => by rw [h 169 (by decide)]; exact b i x y
theorem Fr.hb (h : Fr M M') (b : hb9 M) : hb9 M' := fun i x y => by rw [h 169 (by decide)]; exact b i x y
theorem FrC.mi (h : FrC M M') (m : MI M D T F P B O) : MI M' D T F P B O := m.eq9 (fun o a => h o (by omega))
theorem Fr.ci (h : Fr M M') (c : CI M D T F P B O R G) (h3 : F 3 ≤ 6) : CI M' D T F P B O R G := c.eq9 h3 (fun o a => h o (Or.inl a))
/-- what the model does with the same call, from M1 on -/
theorem chg_39 {b x y z : Int} (h39 : ∀ b, 0 ≤ b → b < D 0 0 → 0 ≤ D 3 b ∧ D 3 b ≤ 39) (g : chP D b x y z) : ∀ c, 0 ≤ c → c < chg D b x y z 0 0 → 0 ≤ chg D b x y z 3 c ∧ chg D b x y z 3 c ≤ 39 := by
  intro c c0 c1
  rw [chg_r D b x y z (show (0 : Int) < 2 ∨ (4 : Int) < 0 by decide)] at c1
  by_cases e : c = b
  · have : chg D b x y z 3 c = y := by unfold chg; rw [if_pos ⟨e, by decide⟩]; rfl
    rw [this]; exact g.2.2.1
  · have : chg D b x y z 3 c = D 3 c := by unfold chg; rw [if_neg (fun w => e w.1)]
    rw [this]; exact h39 c c0 c1
def MD9 (d : Nat) (m : am_M) (av : List AV) (M M1 : Int → Int → Int) (v : Int) : Prop := sC M M1 ∧ ∀ Q : AV → am_S → Prop, (∀ M2, INV M2 → sC M1 M2 → Q (vI v) (am_SH, M2)) → am_Call (d + 60) m 0 0 (vR 137 :: av) (am_SH, M1) Q
theorem w_where {b t : Int} (hI : INV M) (h : ∀ v M1, MD9 d m_Md_where [vI b, vI t] M M1 v → Q (vI v) (am_SH, M1)) : am_Call (d + 60) m_FB_where 0 0 (vR 1 :: [vI b, vI t]) (am_SH, M) Q := by
  obtain ⟨D, T, F, P, B, O, R, G, hC, hM, hS, h9, h39⟩ := hI
  have h3 := hS.1.2.2.1
  exact c_where hC (h _ M ⟨fun _ _ => rfl, fun Q hQ => r_where hM.P9 hM.G.R hM.W (hQ M ⟨D, T, F, P, B, O, R, G, hC, hM, hS, h9, h39⟩ (fun _ _ => rfl))⟩)
theorem w_speed {b t : Int} (hI : INV M) (h : ∀ v M1, MD9 d m_Md_speed [vI b, vI t] M M1 v → Q (vI v) (am_SH, M1)) : am_Call (d + 60) m_FB_speed 0 0 (vR 1 :: [vI b, vI t]) (am_SH, M) Q := by
  obtain ⟨D, T, F, P, B, O, R, G, hC, hM, hS, h9, h39⟩ := hI
  have h3 := hS.1.2.2.1
  exact c_speed hC (h _ M ⟨fun _ _ => rfl, fun Q hQ => r_speed hM.P9 hM.G.R hM.W (hQ M ⟨D, T, F, P, B, O, R, G, hC, hM, hS, h9, h39⟩ (fun _ _ => rfl))⟩)
theorem w_round (hI : INV M) (h : ∀ v M1, MD9 d m_Md_round [] M M1 v → Q (vI v) (am_SH, M1)) : am_Call (d + 60) m_FB_round 0 0 (vR 1 :: []) (am_SH, M) Q := by
  obtain ⟨D, T, F, P, B, O, R, G, hC, hM, hS, h9, h39⟩ := hI
  have h3 := hS.1.2.2.1
  exact c_round hC (h _ M ⟨fun _ _ => rfl, fun Q hQ => m_round hM.G (hQ M ⟨D, T, F, P, B, O, R, G, hC, hM, hS, h9, h39⟩ (fun _ _ => rfl))⟩)
theorem w_has {w : Int} (hI : INV M) (h : ∀ v M1, MD9 d m_Md_has [vI w] M M1 v → Q (vI v) (am_SH, M1)) : am_Call (d + 60) m_FB_has 0 0 (vR 1 :: [vI w]) (am_SH, M) Q := by
  obtain ⟨D, T, F, P, B, O, R, G, hC, hM, hS, h9, h39⟩ := hI
  have h3 := hS.1.2.2.1
  exact c_has hC hS (h _ M ⟨fun _ _ => rfl, fun Q hQ => m_has hM hS (hQ M ⟨D, T, F, P, B, O, R, G, hC, hM, hS, h9, h39⟩ (fun _ _ => rfl))⟩)
theorem w_fault {w : Int} (hI : INV M) (h : ∀ v M1, MD9 d m_Md_fault [vI w] M M1 v → Q (vI v) (am_SH, M1)) : am_Call (d + 60) m_FB_fault 0 0 (vR 1 :: [vI w]) (am_SH, M) Q := by
  obtain ⟨D, T, F, P, B, O, R, G, hC, hM, hS, h9, h39⟩ := hI
  have h3 := hS.1.2.2.1
  exact c_fault hC (h _ M ⟨fun _ _ => rfl, fun Q hQ => m_fault hM (hQ M ⟨D, T, F, P, B, O, R, G, hC, hM, hS, h9, h39⟩ (fun _ _ => rfl))⟩)
theorem w_octet {w : Int} (hI : INV M) (h : ∀ v M1, MD9 d m_Md_octet [vI w] M M1 v → Q (vI v) (am_SH, M1)) : am_Call (d + 60) m_FB_octet 0 0 (vR 1 :: [vI w]) (am_SH, M) Q := by
  obtain ⟨D, T, F, P, B, O, R, G, hC, hM, hS, h9, h39⟩ := hI
  have h3 := hS.1.2.2.1
  exact c_octet hC (h _ M ⟨fun _ _ => rfl, fun Q hQ => m_octet hM hS (hQ M ⟨D, T, F, P, B, O, R, G, hC, hM, hS, h9, h39⟩ (fun _ _ => rfl))⟩)
theorem w_letter {c w k : Int} (hI : INV M) (h : ∀ v M1, MD9 d m_Md_letter [vI c, vI w, vI k] M M1 v → Q (vI v) (am_SH, M1)) : am_Call (d + 60) m_FB_letter 0 0 (vR 1 :: [vI c, vI w, vI k]) (am_SH, M) Q := by
  obtain ⟨D, T, F, P, B, O, R, G, hC, hM, hS, h9, h39⟩ := hI
  have h3 := hS.1.2.2.1
  exact c_letter hC hS (h _ M ⟨fun _ _ => rfl, fun Q hQ => m_letter hM hS (hQ M ⟨D, T, F, P, B, O, R, G, hC, hM, hS, h9, h39⟩ (fun _ _ => rfl))⟩)
theorem w_plan {w : Int} (hI : INV M) (h : ∀ v M1, MD9 d m_Md_plan [vI w] M M1 v → Q (vI v) (am_SH, M1)) : am_Call (d + 60) m_FB_plan 0 0 (vR 1 :: [vI w]) (am_SH, M) Q := by
  obtain ⟨D, T, F, P, B, O, R, G, hC, hM, hS, h9, h39⟩ := hI
  have h3 := hS.1.2.2.1
  exact c_plan hC hS (h _ M ⟨fun _ _ => rfl, fun Q hQ => m_plan hM hS (hQ M ⟨D, T, F, P, B, O, R, G, hC, hM, hS, h9, h39⟩ (fun _ _ => rfl))⟩)
theorem w_step {i w : Int} (hI : INV M) (h : ∀ v M1, MD9 d m_Md_step [vI i, vI w] M M1 v → Q (vI v) (am_SH, M1)) : am_Call (d + 60) m_FB_step 0 0 (vR 1 :: [vI i, vI w]) (am_SH, M) Q := by
  obtain ⟨D, T, F, P, B, O, R, G, hC, hM, hS, h9, h39⟩ := hI
  have h3 := hS.1.2.2.1
  exact c_step hC hS (h _ M ⟨fun _ _ => rfl, fun Q hQ => m_step hM hS (hQ M ⟨D, T, F, P, B, O, R, G, hC, hM, hS, h9, h39⟩ (fun _ _ => rfl))⟩)
theorem w_feed {a b c e f : Int} (hI : INV M) (h : ∀ v M1, MD9 d m_Md_feed [vI a, vI b, vI c, vI e, vI f] M M1 v → Q (vI v) (am_SH, M1)) : am_Call (d + 60) m_FB_feed 0 0 (vR 1 :: [vI a, vI b, vI c, vI e, vI f]) (am_SH, M) Q := by
  obtain ⟨D, T, F, P, B, O, R, G, hC, hM, hS, h9, h39⟩ := hI
  have h3 := hS.1.2.2.1
  exact c_feed hC hS (fun g M1 s1 c1 => h _ M1 ⟨s1.c, fun Q hQ => m_feed (s1.mi hM) hS (fun _ M2 s2 m2 => hQ M2 ⟨D, (feT T (F 4) a b c e f), (up1 F 4 (F 4 + 20)), P, B, O, R, G, (s2.ci c1 (h3.2)), m2, (hS.feed g), (s2.hb (s1.hb h9)), h39⟩ s2.c) (fun w => absurd g w)⟩) (fun g => h _ M ⟨fun _ _ => rfl, fun Q hQ => m_feed hM hS (fun w => absurd w g) (fun _ => hQ M ⟨D, T, F, P, B, O, R, G, hC, hM, hS, h9, h39⟩ (fun _ _ => rfl))⟩)
theorem w_end {n : Int} (hI : INV M) (h : ∀ v M1, MD9 d m_Md_end [vI n] M M1 v → Q (vI v) (am_SH, M1)) : am_Call (d + 60) m_FB_end 0 0 (vR 1 :: [vI n]) (am_SH, M) Q := by
  obtain ⟨D, T, F, P, B, O, R, G, hC, hM, hS, h9, h39⟩ := hI
  have h3 := hS.1.2.2.1
  exact c_end hC hS (fun g M1 s1 c1 => h _ M1 ⟨s1.c, fun Q hQ => m_end (s1.mi hM) (fun _ M2 s2 m2 => hQ M2 ⟨D, T, (up1 F 4 n), P, B, O, R, G, (s2.ci c1 (h3.2)), m2, (hS.end9 g), (s2.hb (s1.hb h9)), h39⟩ s2.c) (fun w => absurd g w)⟩) (fun g => h _ M ⟨fun _ _ => rfl, fun Q hQ => m_end hM (fun w => absurd w g) (fun _ => hQ M ⟨D, T, F, P, B, O, R, G, hC, hM, hS, h9, h39⟩ (fun _ _ => rfl))⟩)
theorem w_change {b x y z : Int} (hI : INV M) (h : ∀ v M1, MD9 d m_Md_change [vI b, vI x, vI y, vI z] M M1 v → Q (vI v) (am_SH, M1)) : am_Call (d + 60) m_FB_change 0 0 (vR 1 :: [vI b, vI x, vI y, vI z]) (am_SH, M) Q := by
  obtain ⟨D, T, F, P, B, O, R, G, hC, hM, hS, h9, h39⟩ := hI
  have h3 := hS.1.2.2.1
  exact c_change hC hS (fun g M1 s1 c1 => h _ M1 ⟨s1.c, fun Q hQ => m_change (s1.mi hM) (fun _ M2 s2 m2 => hQ M2 ⟨(chg D b x y z), T, F, P, B, O, R, G, (s2.ci c1 (h3.2)), m2, (hS.change hM.W), (s2.hb (s1.hb h9)), (chg_39 h39 g)⟩ s2.c) (fun w => absurd g w)⟩) (fun g => h _ M ⟨fun _ _ => rfl, fun Q hQ => m_change hM (fun w => absurd w g) (fun _ => hQ M ⟨D, T, F, P, B, O, R, G, hC, hM, hS, h9, h39⟩ (fun _ _ => rfl))⟩)
theorem w_take {i t b : Int} (hI : INV M) (h : ∀ v M1, MD9 d m_Md_take [vI i, vI t, vI b] M M1 v → Q (vI v) (am_SH, M1)) : am_Call (d + 60) m_FB_take 0 0 (vR 1 :: [vI i, vI t, vI b]) (am_SH, M) Q := by
  obtain ⟨D, T, F, P, B, O, R, G, hC, hM, hS, h9, h39⟩ := hI
  have h3 := hS.1.2.2.1
  exact c_take hC hS (fun g M1 s1 c1 => h _ M1 ⟨s1.c, fun Q hQ => m_take (s1.mi hM) hS (fun _ M2 s2 m2 => hQ M2 ⟨D, T, (up1 F 2 1), (nAct i t b), B, O, R, G, (s2.ci c1 (h3.2)), m2, (hS.take g), (s2.hb (s1.hb h9)), h39⟩ s2.c) (fun w => absurd g w)⟩) (fun g => h _ M ⟨fun _ _ => rfl, fun Q hQ => m_take hM hS (fun w => absurd w g) (fun _ => hQ M ⟨D, T, F, P, B, O, R, G, hC, hM, hS, h9, h39⟩ (fun _ _ => rfl))⟩)
theorem w_fly {t k b : Int} (hI : INV M) (h : ∀ v M1, MD9 d m_Md_fly [vI t, vI k, vI b] M M1 v → Q (vI v) (am_SH, M1)) : am_Call (d + 60) m_FB_fly 0 0 (vR 1 :: [vI t, vI k, vI b]) (am_SH, M) Q := by
  obtain ⟨D, T, F, P, B, O, R, G, hC, hM, hS, h9, h39⟩ := hI
  have h3 := hS.1.2.2.1
  exact c_fly hC hS (fun g M1 s1 c1 => h _ M1 ⟨s1.c, fun Q hQ => m_fly (s1.mi hM) hS (fun _ M2 s2 m2 => hQ M2 ⟨D, T, F, (fyA D P t k b), B, O, R, G, (s2.ci c1 (h3.2)), m2, (hS.fly hM.W g), (s2.hb (s1.hb h9)), h39⟩ s2.c) (fun w => absurd g w)⟩) (fun g M1 s1 c1 => h _ M1 ⟨s1.c, fun Q hQ => m_fly (s1.mi hM) hS (fun w => absurd w g) (fun _ M2 s2 m2 => hQ M2 ⟨D, T, F, P, B, O, R, G, (s2.ci c1 h3.2), m2, hS, (s2.hb (s1.hb h9)), h39⟩ s2.c)⟩)
theorem w_down {t i : Int} (hI : INV M) (h : ∀ v M1, MD9 d m_Md_down [vI t, vI i] M M1 v → Q (vI v) (am_SH, M1)) : am_Call (d + 60) m_FB_down 0 0 (vR 1 :: [vI t, vI i]) (am_SH, M) Q := by
  obtain ⟨D, T, F, P, B, O, R, G, hC, hM, hS, h9, h39⟩ := hI
  have h3 := hS.1.2.2.1
  exact c_down hC hS (fun g M1 s1 c1 => h _ M1 ⟨s1.c, fun Q hQ => m_down (s1.mi hM) hS (fun _ M2 s2 m2 => hQ M2 ⟨D, T, F, (fiA P t i), B, O, R, G, (s2.ci c1 (h3.2)), m2, (hS.down g), (s2.hb (s1.hb h9)), h39⟩ s2.c) (fun w => absurd g w)⟩) (fun g => h _ M ⟨fun _ _ => rfl, fun Q hQ => m_down hM hS (fun w => absurd w g) (fun _ => hQ M ⟨D, T, F, P, B, O, R, G, hC, hM, hS, h9, h39⟩ (fun _ _ => rfl))⟩)
theorem w_book {x : Int} (hI : INV M) (h : ∀ v M1, MD9 d m_Md_book [vI x] M M1 v → Q (vI v) (am_SH, M1)) : am_Call (d + 60) m_FB_book 0 0 (vR 1 :: [vI x]) (am_SH, M) Q := by
  obtain ⟨D, T, F, P, B, O, R, G, hC, hM, hS, h9, h39⟩ := hI
  have h3 := hS.1.2.2.1
  exact c_book hC hS (fun g M1 s1 c1 => h _ M1 ⟨s1.c, fun Q hQ => m_book (s1.mi hM) hS (fun _ M2 s2 m2 => hQ M2 ⟨D, T, (up1 F 3 (F 3 + 1)), P, (adB B (F 3) (shA P x)), O, R, G, (s2.ci c1 ((by show F 3 + 1 ≤ 6; have := g.2.2.1; omega))), m2, (hS.bk (hS.pl g.1) g.2.1 g.2.2.1), (s2.hb (s1.hb h9)), h39⟩ s2.c) (fun w => absurd g w)⟩) (fun g M1 s1 c1 => h _ M1 ⟨s1.c, fun Q hQ => m_book (s1.mi hM) hS (fun w => absurd w g) (fun _ M2 s2 m2 => hQ M2 ⟨D, T, F, P, B, O, R, G, (s2.ci c1 h3.2), m2, hS, (s2.hb (s1.hb h9)), h39⟩ s2.c)⟩)
theorem w_unbook (hI : INV M) (h : ∀ v M1, MD9 d m_Md_unbook [] M M1 v → Q (vI v) (am_SH, M1)) : am_Call (d + 60) m_FB_unbook 0 0 (vR 1 :: []) (am_SH, M) Q := by
  obtain ⟨D, T, F, P, B, O, R, G, hC, hM, hS, h9, h39⟩ := hI
  have h3 := hS.1.2.2.1
  exact c_unbook hC hS (fun g M1 s1 c1 => h _ M1 ⟨s1.c, fun Q hQ => m_unbook (s1.mi hM) hS (fun _ M2 s2 m2 => hQ M2 ⟨D, T, (up1 F 3 (F 3 - 1)), P, B, O, R, G, (s2.ci c1 ((by show F 3 - 1 ≤ 6; omega))), m2, (hS.unbook g), (s2.hb (s1.hb h9)), h39⟩ s2.c) (fun w => absurd g (by omega))⟩) (fun g => h _ M ⟨fun _ _ => rfl, fun Q hQ => m_unbook hM hS (fun w => absurd w (by omega)) (fun _ => hQ M ⟨D, T, F, P, B, O, R, G, hC, hM, hS, h9, h39⟩ (fun _ _ => rfl))⟩)
theorem w_on (hI : INV M) (h : ∀ v M1, MD9 d m_Md_on [] M M1 v → Q (vI v) (am_SH, M1)) : am_Call (d + 60) m_FB_on 0 0 (vR 1 :: []) (am_SH, M) Q := by
  obtain ⟨D, T, F, P, B, O, R, G, hC, hM, hS, h9, h39⟩ := hI
  have h3 := hS.1.2.2.1
  exact c_on hC hS (fun g M1 s1 c1 => h _ M1 ⟨s1.c, fun Q hQ => m_on (s1.mi hM) hS (fun _ M2 s2 m2 => hQ M2 ⟨D, T, (up1 (up1 F 4 0) 3 (T 0)), P, (fun a => rdA T (pos T a.toNat)), O, R, (161 - G), (s2.ci c1 ((hS.on1 g).1.2.2.1.2)), m2, (hS.on1 g), (s2.hb (s1.hb h9)), h39⟩ s2.c) (fun w => absurd g w)⟩) (fun g M1 s1 c1 => h _ M1 ⟨s1.c, fun Q hQ => m_on (s1.mi hM) hS (fun w => absurd w g) (fun _ M2 s2 m2 => hQ M2 ⟨D, T, (up1 F 4 0), P, B, O, R, G, (s2.ci c1 h3.2), m2, hS.on0, (s2.hb (s1.hb h9)), h39⟩ s2.c)⟩)
theorem w_ways {fr to n y : Int} (hI : INV M) (h : ∀ v M1, MD9 d m_Md_ways [vI fr, vI to, vI n, vI y] M M1 v → Q (vI v) (am_SH, M1)) : am_Call (d + 60) m_FB_ways 0 0 (vR 1 :: [vI fr, vI to, vI n, vI y]) (am_SH, M) Q := by
  obtain ⟨D, T, F, P, B, O, R, G, hC, hM, hS, h9, h39⟩ := hI
  have h3 := hS.1.2.2.1
  exact c_ways hC hS (fun g M1 s1 c1 => h _ M1 ⟨s1.c, fun Q hQ => m_ways (s1.mi hM) (fun _ M2 s2 m2 => hQ M2 ⟨D, T, F, P, B, O, R, G, (s2.ci c1 (h3.2)), m2, hS, (s2.hb (s1.hb h9)), h39⟩ s2.c) (fun w => absurd g w)⟩) (fun g => h _ M ⟨fun _ _ => rfl, fun Q hQ => m_ways hM (fun w => absurd w g) (fun _ => hQ M ⟨D, T, F, P, B, O, R, G, hC, hM, hS, h9, h39⟩ (fun _ _ => rfl))⟩)
theorem w_barred {fr to n y g9 w : Int} (hg : g9 = 0 ∨ g9 = 1) (hI : INV M) (h : ∀ v M1, MD9 d m_Md_barred [vI fr, vI to, vI n, vI y, vI g9, vI w] M M1 v → Q (vI v) (am_SH, M1)) : am_Call (d + 60) m_FB_barred 0 0 (vR 1 :: [vI fr, vI to, vI n, vI y, vI g9, vI w]) (am_SH, M) Q := by
  obtain ⟨D, T, F, P, B, O, R, G, hC, hM, hS, h9, h39⟩ := hI
  have h3 := hS.1.2.2.1
  exact c_barred hC hS hg (fun g M1 s1 c1 => h _ M1 ⟨s1.c, fun Q hQ => m_barred (s1.mi hM) hg (fun _ M2 s2 m2 => hQ M2 ⟨D, T, F, P, B, O, R, G, (s2.ci c1 (h3.2)), m2, hS, (s2.hb (s1.hb h9)), h39⟩ s2.c) (fun w => absurd g w)⟩) (fun g => h _ M ⟨fun _ _ => rfl, fun Q hQ => m_barred hM hg (fun w => absurd w g) (fun _ => hQ M ⟨D, T, F, P, B, O, R, G, hC, hM, hS, h9, h39⟩ (fun _ _ => rfl))⟩)
theorem w_image (hI : INV M) (h : ∀ v M1, MD9 d m_Md_image [] M M1 v → Q (vI v) (am_SH, M1)) : am_Call (d + 60) m_FB_image 0 0 (vR 1 :: []) (am_SH, M) Q := by
  obtain ⟨D, T, F, P, B, O, R, G, hC, hM, hS, h9, h39⟩ := hI
  have h3 := hS.1.2.2.1
  exact c_image hC hS (fun M1 s1 c1 => h _ M1 ⟨s1.c, fun Q hQ => m_image (s1.mi hM) hS (fun M2 s2 m2 => hQ M2 ⟨D, T, (up1 F 5 (imL F B).length), P, B, (lf (imL F B)), R, G, (s2.ci c1 h3.2), m2, (hS.img hM.W), (s2.hb (s1.hb h9)), h39⟩ s2.c)⟩)
theorem w_flight {a t k b n g9 w : Int} (hg : 0 ≤ g9 ∧ g9 ≤ 1) (hI : INV M) (h : ∀ v M1, MD9 d m_Md_flight [vI a, vI t, vI k, vI b, vI n, vI g9, vI w] M M1 v → Q (vI v) (am_SH, M1)) : am_Call (d + 60) m_FB_flight 0 0 (vR 1 :: [vI a, vI t, vI k, vI b, vI n, vI g9, vI w]) (am_SH, M) Q := by
  obtain ⟨D, T, F, P, B, O, R, G, hC, hM, hS, h9, h39⟩ := hI
  have h3 := hS.1.2.2.1
  exact c_flight hC hS hg.1 hg.2 (fun M1 s1 c1 => h _ M1 ⟨s1.c, fun Q hQ => r_flight (s1.mi hM).G hg.1 hg.2 (fun M2 s2 => hQ M2 ⟨D, T, F, P, B, O, R, G, (s2.fr.ci c1 h3.2), (MI.scr (s1.mi hM) s2), hS, (s2.fr.hb (s1.hb h9)), h39⟩ s2.fr.c)⟩)
theorem w_window {a k b w : Int} (hI : INV M) (h : ∀ v M1, MD9 d m_Md_window [vI a, vI k, vI b, vI w] M M1 v → Q (vI v) (am_SH, M1)) : am_Call (d + 60) m_FB_window 0 0 (vR 1 :: [vI a, vI k, vI b, vI w]) (am_SH, M) Q := by
  obtain ⟨D, T, F, P, B, O, R, G, hC, hM, hS, h9, h39⟩ := hI
  have h3 := hS.1.2.2.1
  refine c_window hC hS (fun M1 v s1 c1 v1 v0 => h _ M1 ⟨s1.c, fun Q hQ => r_window (s1.mi hM).G (fun M2 u s2 u1 u0 => ?_)⟩)
  have e : u = v := by
    by_cases z : isFl D a k b
    · rw [u1 z, v1 z]
    · rw [u0 z, v0 z]
  rw [e]
  exact hQ M2 ⟨D, T, F, P, B, O, R, G, (s2.fr.ci c1 h3.2), (MI.scr (s1.mi hM) s2), hS, (s2.fr.hb (s1.hb h9)), h39⟩ s2.fr.c
theorem w_nearest {a k b g9 : Int} (hg : 0 ≤ g9 ∧ g9 ≤ 1) (hI : INV M) (h : ∀ v M1, MD9 d m_Md_nearest [vI a, vI k, vI b, vI g9] M M1 v → Q (vI v) (am_SH, M1)) : am_Call (d + 60) m_FB_nearest 0 0 (vR 1 :: [vI a, vI k, vI b, vI g9]) (am_SH, M) Q := by
  obtain ⟨D, T, F, P, B, O, R, G, hC, hM, hS, h9, h39⟩ := hI
  have h3 := hS.1.2.2.1
  refine c_nearest hC hS hg.1 hg.2 (fun M1 v s1 c1 v1 v0 => h _ M1 ⟨s1.c, fun Q hQ => r_nearest (s1.mi hM).G hg.1 hg.2 (fun u u1 u0 => ?_)⟩)
  have e : u = v := by
    by_cases z : isFl D a k b
    · rw [u1 z, v1 z]
    · rw [u0 z, v0 z]
  rw [e]
  exact hQ M1 ⟨D, T, F, P, B, O, R, G, c1, (s1.mi hM), hS, (s1.hb h9), h39⟩ (fun _ _ => rfl)
theorem w_idle {k : Int} (hI : INV M) (h : ∀ v M1, MD9 d m_Md_idle [vI k] M M1 v → Q (vI v) (am_SH, M1)) : am_Call (d + 60) m_FB_idle 0 0 (vR 1 :: [vI k]) (am_SH, M) Q := by
  obtain ⟨D, T, F, P, B, O, R, G, hC, hM, hS, h9, h39⟩ := hI
  have h3 := hS.1.2.2.1
  refine c_idle hC hS (fun M1 v s1 c1 v1 => h _ M1 ⟨s1.c, fun Q hQ => r_idle (s1.mi hM).G (fun M2 u s2 u1 => ?_)⟩)
  rw [idR_u u1 v1]
  exact hQ M2 ⟨D, T, F, P, B, O, R, G, (s2.fr.ci c1 h3.2), (MI.scr (s1.mi hM) s2), hS, (s2.fr.hb (s1.hb h9)), h39⟩ s2.fr.c
theorem w_fails {a : Int} (hI : INV M) (h : ∀ v M1, MD9 d m_Md_fails [vI a] M M1 v → Q (vI v) (am_SH, M1)) : am_Call (d + 60) m_FB_fails 0 0 (vR 1 :: [vI a]) (am_SH, M) Q := by
  obtain ⟨D, T, F, P, B, O, R, G, hC, hM, hS, h9, h39⟩ := hI
  have h3 := hS.1.2.2.1
  refine c_fails hC hS (fun M1 v s1 c1 v1 v0 => h _ M1 ⟨s1.c, fun Q hQ => m_fails (s1.mi hM) hS (fun M2 u s2 m2 u1 u0 => ?_)⟩)
  have e : u = v := by
    by_cases z : 0 ≤ a ∧ a < F 3
    · rw [u1 z, v1 z]
    · rw [u0 z, v0 z]
  rw [e]
  exact hQ M2 ⟨D, T, F, P, B, O, R, G, (s2.ci c1 h3.2), m2, hS, (s2.hb (s1.hb h9)), h39⟩ s2.c
theorem w_quarrel {a b : Int} (hI : INV M) (h : ∀ v M1, MD9 d m_Md_quarrel [vI a, vI b] M M1 v → Q (vI v) (am_SH, M1)) : am_Call (d + 60) m_FB_quarrel 0 0 (vR 1 :: [vI a, vI b]) (am_SH, M) Q := by
  obtain ⟨D, T, F, P, B, O, R, G, hC, hM, hS, h9, h39⟩ := hI
  have h3 := hS.1.2.2.1
  refine c_quarrel hC hS (fun M1 v s1 c1 v1 v0 => h _ M1 ⟨s1.c, fun Q hQ => m_quarrel (s1.mi hM) hS (fun M2 u s2 m2 u1 u0 => ?_)⟩)
  have e : u = v := by
    by_cases z : (0 ≤ a ∧ a < F 3) ∧ (0 ≤ b ∧ b < F 3) ∧ a ≠ b
    · exact qR_u (u1 z) (v1 z)
    · rw [u0 z, v0 z]
  rw [e]
  exact hQ M2 ⟨D, T, F, P, B, O, R, G, (s2.ci c1 h3.2), m2, hS, (s2.hb (s1.hb h9)), h39⟩ s2.c
theorem w_at {a t : Int} (hI : INV M) (h : ∀ v M1, MD9 d m_Md_at [vI a, vI t] M M1 v → Q (vI v) (am_SH, M1)) : am_Call (d + 60) m_FB_at 0 0 (vR 1 :: [vI a, vI t]) (am_SH, M) Q := by
  obtain ⟨D, T, F, P, B, O, R, G, hC, hM, hS, h9, h39⟩ := hI
  have h3 := hS.1.2.2.1
  refine cc_at hC hS (fun v v1 v0 => h _ M ⟨fun _ _ => rfl, fun Q hQ => m_at hM hS (fun M2 u s2 m2 u1 u0 => ?_)⟩)
  have e : u = v := by
    by_cases z : (0 ≤ a ∧ a < F 3) ∧ (0 ≤ t ∧ t ≤ 500)
    · exact atR_u hM.W (hS.2.2.2.2 a z.1.1 z.1.2) (u1 z) (v1 z)
    · rw [u0 z, v0 z]
  rw [e]
  exact hQ M2 ⟨D, T, F, P, B, O, R, G, (s2.ci hC h3.2), m2, hS, (s2.hb h9), h39⟩ s2.c
theorem w_slack {a b g9 : Int} (hg : g9 = 0 ∨ g9 = 1) (hI : INV M) (h : ∀ v M1, MD9 d m_Md_slack [vI a, vI b, vI g9] M M1 v → Q (vI v) (am_SH, M1)) : am_Call (d + 60) m_FB_slack 0 0 (vR 1 :: [vI a, vI b, vI g9]) (am_SH, M) Q := by
  obtain ⟨D, T, F, P, B, O, R, G, hC, hM, hS, h9, h39⟩ := hI
  have h3 := hS.1.2.2.1
  refine c_slack hC hS hg h39 (fun M1 v s1 c1 v1 v0 => h _ M1 ⟨s1.c, fun Q hQ => m_slack (s1.mi hM) hS hg (fun b b0 b1 => (h39 b b0 b1).2) (fun M2 u s2 m2 u1 u0 => ?_)⟩)
  have e : u = v := by
    by_cases z : slP D F B a b
    · exact slR_u (u1 z) (v1 z)
    · rw [u0 z, v0 z]
  rw [e]
  exact hQ M2 ⟨D, T, F, P, B, O, R, G, (s2.ci c1 h3.2), m2, hS, (s2.hb (s1.hb h9)), h39⟩ s2.c
theorem w_shift (hI : INV M) (h : ∀ v M1, MD9 d m_Md_shift [] M M1 v → Q (vI v) (am_SH, M1)) : am_Call (d + 60) m_FB_shift 0 0 (vR 1 :: []) (am_SH, M) Q := by
  obtain ⟨D, T, F, P, B, O, R, G, hC, hM, hS, h9, h39⟩ := hI
  have h3 := hS.1.2.2.1
  refine c_shift hC hS (fun M1 v s1 c1 v1 => h _ M1 ⟨s1.c, fun Q hQ => m_shift (s1.mi hM) hS (fun M2 u s2 m2 u1 => ?_)⟩)
  rw [shR_u u1 v1]
  exact hQ M2 ⟨D, T, F, P, B, O, R, G, (s2.ci c1 h3.2), m2, hS, (s2.hb (s1.hb h9)), h39⟩ s2.c
theorem w_bill {w : Int} (hI : INV M) (h : ∀ v M1, MD9 d m_Md_bill [vI w] M M1 v → Q (vI v) (am_SH, M1)) : am_Call (d + 60) m_FB_bill 0 0 (vR 1 :: [vI w]) (am_SH, M) Q := by
  obtain ⟨D, T, F, P, B, O, R, G, hC, hM, hS, h9, h39⟩ := hI
  have h3 := hS.1.2.2.1
  refine c_bill hC hS (fun v v1 => h _ M ⟨fun _ _ => rfl, fun Q hQ => m_bill hM hS (fun u u1 => ?_)⟩)
  rw [blR_u u1 v1]
  exact hQ M ⟨D, T, F, P, B, O, R, G, hC, hM, hS, h9, h39⟩ (fun _ _ => rfl)
theorem w_soonest {fr to m n : Int} (hI : INV M) (h : ∀ v M1, MD9 d m_Md_soonest [vI fr, vI to, vI m, vI n] M M1 v → Q (vI v) (am_SH, M1)) : am_Call (d + 60) m_FB_soonest 0 0 (vR 1 :: [vI fr, vI to, vI m, vI n]) (am_SH, M) Q := by
  obtain ⟨D, T, F, P, B, O, R, G, hC, hM, hS, h9, h39⟩ := hI
  have h3 := hS.1.2.2.1
  refine c_soonest hC hS (fun g M1 v s1 c1 v1 => h _ M1 ⟨s1.c, fun Q hQ => m_soonest (s1.mi hM) (fun _ M2 u s2 m2 u1 => ?_) (fun w => absurd g w)⟩) (fun g M1 s1 c1 => h _ M1 ⟨s1.c, fun Q hQ => m_soonest (s1.mi hM) (fun w => absurd w g) (fun _ => hQ M1 ⟨D, T, F, P, B, O, R, G, c1, (s1.mi hM), hS, (s1.hb h9), h39⟩ (fun _ _ => rfl))⟩)
  rw [snR_u u1 v1]
  exact hQ M2 ⟨D, T, F, P, B, O, R, G, (s2.ci c1 h3.2), m2, hS, (s2.hb (s1.hb h9)), h39⟩ s2.c
theorem w_reached {fr n y : Int} (hI : INV M) (h : ∀ v M1, MD9 d m_Md_reached [vI fr, vI n, vI y] M M1 v → Q (vI v) (am_SH, M1)) : am_Call (d + 60) m_FB_reached 0 0 (vR 1 :: [vI fr, vI n, vI y]) (am_SH, M) Q := by
  obtain ⟨D, T, F, P, B, O, R, G, hC, hM, hS, h9, h39⟩ := hI
  have h3 := hS.1.2.2.1
  refine c_reached hC hS (fun g M1 v s1 c1 v1 => h _ M1 ⟨s1.c, fun Q hQ => m_reached (s1.mi hM) (fun _ M2 u s2 m2 u1 => ?_) (fun w => absurd g w)⟩) (fun g => h _ M ⟨fun _ _ => rfl, fun Q hQ => m_reached hM (fun w => absurd w g) (fun _ => hQ M ⟨D, T, F, P, B, O, R, G, hC, hM, hS, h9, h39⟩ (fun _ _ => rfl))⟩)
  rw [rcP_u u1 v1]
  exact hQ M2 ⟨D, T, F, P, B, O, R, G, (s2.ci c1 h3.2), m2, hS, (s2.hb (s1.hb h9)), h39⟩ s2.c
theorem w_best {fr to n y : Int} (hI : INV M) (h : ∀ v M1, MD9 d m_Md_best [vI fr, vI to, vI n, vI y] M M1 v → Q (vI v) (am_SH, M1)) : am_Call (d + 60) m_FB_best 0 0 (vR 1 :: [vI fr, vI to, vI n, vI y]) (am_SH, M) Q := by
  obtain ⟨D, T, F, P, B, O, R, G, hC, hM, hS, h9, h39⟩ := hI
  have h3 := hS.1.2.2.1
  refine c_best hC hS (fun g A1 M1 q1 s1 c1 => h _ M1 ⟨s1.c, fun Q hQ => m_best (s1.mi hM) hS (fun _ A2 M2 q2 s2 m2 => ?_) (fun w => absurd g w)⟩) (fun g M1 s1 c1 => h _ M1 ⟨s1.c, fun Q hQ => m_best (s1.mi hM) hS (fun w => absurd w g) (fun _ M2 s2 m2 => hQ M2 ⟨D, T, F, P, B, O, R, G, (s2.ci c1 h3.2), m2, hS, (s2.hb (s1.hb h9)), h39⟩ s2.c)⟩)
  have e := bsR_u q2 q1
  subst e
  have we := bsR_WE hM.W g q1
  exact hQ M2 ⟨D, T, up1 F 2 1, A2, B, O, R, G, s2.ci c1 h3.2, m2, hS.up2 we.1 we.2, s2.hb (s1.hb h9), h39⟩ s2.c
theorem w_fill {fr to n y : Int} (hI : INV M) (h : ∀ v M1, MD9 d m_Md_fill [vI fr, vI to, vI n, vI y] M M1 v → Q (vI v) (am_SH, M1)) : am_Call (d + 60) m_FB_fill 0 0 (vR 1 :: [vI fr, vI to, vI n, vI y]) (am_SH, M) Q := by
  obtain ⟨D, T, F, P, B, O, R, G, hC, hM, hS, h9, h39⟩ := hI
  have h3 := hS.1.2.2.1
  refine c_fill hC hS (fun g F1 P1 B1 v M1 q1 s1 c1 => h _ M1 ⟨s1.c, fun Q hQ => m_fill (s1.mi hM) hS (fun _ F2 P2 B2 u M2 q2 s2 m2 => ?_) (fun w => absurd g w)⟩) (fun g => h _ M ⟨fun _ _ => rfl, fun Q hQ => m_fill hM hS (fun w => absurd w g) (fun _ => hQ M ⟨D, T, F, P, B, O, R, G, hC, hM, hS, h9, h39⟩ (fun _ _ => rfl))⟩)
  obtain ⟨e1, e2, e3, e4⟩ := fiR_u q2 q1
  subst e1 e2 e3 e4
  have sw := hS.fill hM.W q1
  exact hQ M2 ⟨D, T, F2, P2, B2, O, R, G, s2.ci c1 sw.1.2.2.1.2, m2, sw, s2.hb (s1.hb h9), h39⟩ s2.c
theorem w_rig (hI : INV M) (h : ∀ v M1, MD9 d m_Md_rig [] M M1 v → Q (vI v) (am_SH, M1)) : am_Call (d + 60) m_FB_rig 0 0 (vR 1 :: []) (am_SH, M) Q := by
  obtain ⟨D, T, F, P, B, O, R, G, hC, hM, hS, h9, h39⟩ := hI
  have h3 := hS.1.2.2.1
  refine c_rig hC hS (fun r' D' lc' k' M1 rr dw s1 c1 => h _ M1 ⟨s1.c, fun Q hQ => m_rig (s1.mi hM) hS (s1.hb h9) rr (fun r'' e M2 s2 b2 m2 => ?_) (fun p e => by cases e)⟩) (fun p D' k' M1 rr s1 c1 => h _ M1 ⟨s1.c, fun Q hQ => m_rig (s1.mi hM) hS (s1.hb h9) rr (fun r'' e => by cases e) (fun p' e M2 s2 b2 m2 => ?_)⟩)
  · exact hQ M2 ⟨D', T, rgF F, P, B, O, 29 - R, G, c1.eq9 (by show (0 : Int) ≤ 6; decide) s2, m2, ⟨⟨dw.2.1, Or.inl rfl, (by show (0 : Int) ≤ 0 ∧ (0 : Int) ≤ 6; decide), (by show (0 : Int) ≤ 0 ∧ (0 : Int) ≤ 900; decide), hS.1.2.2.2.2⟩, fun i a b => by have : i < 0 := b; omega, hS.2.2.1, fun a => by have : (0 : Int) = 1 := a; omega, fun a a0 a1 => by have : a < 0 := a1; omega⟩, b2, dw.2.2.2.2.1⟩ (fun o a => s2 o (by omega))
  · cases e
    exact hQ M2 ⟨D, T, flF F p, P, B, O, R, G, c1.eq9 h3.2 s2, m2, ⟨⟨hS.1.1, hS.1.2.1, hS.1.2.2.1, (by show (0 : Int) ≤ 0 ∧ (0 : Int) ≤ 900; decide), hS.1.2.2.2.2⟩, fun i a b => by have : i < 0 := b; omega, hS.2.2.1, hS.2.2.2.1, hS.2.2.2.2⟩, b2, h39⟩ (fun o a => s2 o (by omega))
end
