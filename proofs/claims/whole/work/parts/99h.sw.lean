/-! the state stays in order -/
section
variable {D : Int → Int → Int} {T F : Int → Int} {P : Int → Int → Int} {B : Int → Int → Int → Int} {O : Int → Int}
theorem SW.end9 (h : SW D T F P B O) {n : Int} (hn : 0 ≤ n ∧ n ≤ F 4) : SW D T (up1 F 4 n) P B O := by
  obtain ⟨⟨a1, a2, a3, a4, a5⟩, b1, b2, b3, b4⟩ := h
  exact ⟨⟨a1, a2, a3, ⟨hn.1, by have := hn.2; show n ≤ 900; omega⟩, a5⟩, fun i i0 i1 => b1 i i0 (by have : i < n := i1; omega), b2, b3, b4⟩
theorem SW.feed (h : SW D T F P B O) {a b c d e : Int} (hn : F 4 + 20 ≤ 900) : SW D (feT T (F 4) a b c d e) (up1 F 4 (F 4 + 20)) P B O := by
  obtain ⟨⟨a1, a2, a3, a4, a5⟩, b1, b2, b3, b4⟩ := h
  refine ⟨⟨a1, a2, a3, ⟨by show 0 ≤ F 4 + 20; omega, hn⟩, a5⟩, fun i i0 i1 => ?_, b2, b3, b4⟩
  unfold feT
  split
  · exact b1 i i0 (by assumption)
  · unfold feB
    exact am_and_in (by decide) (by decide)
theorem SW.take (h : SW D T F P B O) {i t b : Int} (hk : tkP D i t b) : SW D T (up1 F 2 1) (nAct i t b) B O := by
  obtain ⟨⟨a1, a2, a3, a4, a5⟩, b1, b2, b3, b4⟩ := h
  exact ⟨⟨a1, Or.inr rfl, a3, a4, a5⟩, b1, b2, fun _ => ⟨nAct_WA hk.1 hk.2.1 hk.2.2.1, rfl, Or.inl ⟨rfl, rfl⟩⟩, b4⟩
theorem SW.pln (h : SW D T F P B O) {P' : Int → Int → Int} (hp : WA D P' ∧ P' 0 0 = 0 ∧ ((P' 0 5 = -1 ∧ P' 0 6 = -1) ∨ WE D P')) : SW D T F P' B O := by
  obtain ⟨⟨a1, a2, a3, a4, a5⟩, b1, b2, b3, b4⟩ := h
  exact ⟨⟨a1, a2, a3, a4, a5⟩, b1, b2, fun _ => hp, b4⟩
theorem SW.fly (hD : WF D) (h : SW D T F P B O) {t k b : Int} (hk : fyP D F P t k b) : SW D T F (fyA D P t k b) B O := by
  obtain ⟨w1, w2, w3⟩ := h.2.2.2.1 hk.1.1
  have wi := wth_in D (barB P (P 0 4)) t k b (P 0 4) (flg P k)
  have op : P 0 5 = -1 ∧ P 0 6 = -1 := by
    rcases w3 with w | w
    · exact w
    · have cm := cam_0 hD w.1 w.1.1.1.1 (Int.le_refl _)
      have := hk.1.2
      have := w.2.1.1
      omega
  refine h.pln ⟨adF_WA w1 hk.2.1 hk.2.2.2.1 hk.2.2.1.1 hk.2.2.1.2 hk.2.2.2.2.1 wi, ?_, Or.inl ⟨?_, ?_⟩⟩
  · unfold fyA; rw [adF_0 (by decide)]; exact w2
  · unfold fyA; rw [adF_0 (by decide)]; exact op.1
  · unfold fyA; rw [adF_0 (by decide)]; exact op.2
theorem fiA_WA {A : Int → Int → Int} {t i : Int} (h : WA D A) (ht : cam D A (A 0 4) ≤ t ∧ t ≤ 80) (hi : 0 ≤ i ∧ i < D 0 1) : WA D (fiA A t i) := (fiA_WE h ht hi).1
theorem SW.down (h : SW D T F P B O) {t i : Int} (hk : dnP D F P t i) : SW D T F (fiA P t i) B O := by
  obtain ⟨w1, w2, w3⟩ := h.2.2.2.1 hk.1.1
  exact h.pln ⟨fiA_WA w1 hk.2.2.1 hk.2.1, w2, Or.inr (fiA_WE w1 hk.2.2.1 hk.2.1)⟩
theorem SW.unbook (h : SW D T F P B O) (h0 : 0 < F 3) : SW D T (up1 F 3 (F 3 - 1)) P B O := by
  obtain ⟨⟨a1, a2, a3, a4, a5⟩, b1, b2, b3, b4⟩ := h
  exact ⟨⟨a1, a2, ⟨by show 0 ≤ F 3 - 1; omega, by show F 3 - 1 ≤ 6; omega⟩, a4, a5⟩, b1, b2, b3, fun a a0 a1 => b4 a a0 (by have : a < F 3 - 1 := a1; omega)⟩
theorem chg_WA {A : Int → Int → Int} {b x y z : Int} (h : WA D A) : WA (chg D b x y z) A := by
  unfold WA cam isFl at *
  rw [chg_r D b x y z (show (0 : Int) < 2 ∨ (4 : Int) < 0 by decide), chg_r D b x y z (show (7 : Int) < 2 ∨ (4 : Int) < 7 by decide)]
  exact h
theorem chg_WE {A : Int → Int → Int} {b x y z : Int} (h : WE D A) : WE (chg D b x y z) A := by
  refine ⟨chg_WA h.1, ?_⟩
  have := h.2
  unfold cam at *
  rw [chg_r D b x y z (show (0 : Int) < 2 ∨ (4 : Int) < 0 by decide), chg_r D b x y z (show (7 : Int) < 2 ∨ (4 : Int) < 7 by decide)]
  exact this
theorem chg_WFn {b x y z : Int} (h : WFn D) (hD : WF D) : WFn (chg D b x y z) := by
  have hd := hD.1
  have hd1 := hD.2.1
  have hd2 := hD.2.2.1
  obtain ⟨h1, h2, h3⟩ := h
  unfold WFn
  rw [chg_r D b x y z (show (0 : Int) < 2 ∨ (4 : Int) < 0 by decide), chg_r D b x y z (show (13 : Int) < 2 ∨ (4 : Int) < 13 by decide), chg_r D b x y z (show (14 : Int) < 2 ∨ (4 : Int) < 14 by decide), chg_r D b x y z (show (15 : Int) < 2 ∨ (4 : Int) < 15 by decide)]
  refine ⟨fun c c0 c1 => ?_, fun c c0 c1 => ?_, fun c c0 c1 => ?_⟩
  · rw [chg_r D b x y z (by omega)]; exact h1 c c0 c1
  · rw [chg_r D b x y z (by omega)]; exact h2 c c0 c1
  · rw [chg_r D b x y z (by omega)]; exact h3 c c0 c1
theorem SW.change (hD : WF D) (h : SW D T F P B O) {b x y z : Int} : SW (chg D b x y z) T F P B O := by
  obtain ⟨⟨a1, a2, a3, a4, a5⟩, b1, b2, b3, b4⟩ := h
  refine ⟨⟨chg_WFn a1 hD, a2, a3, a4, a5⟩, b1, b2, fun q => ?_, fun a a0 a1 => chg_WE (b4 a a0 a1)⟩
  obtain ⟨w1, w2, w3⟩ := b3 q
  exact ⟨chg_WA w1, w2, w3.elim Or.inl (fun w => Or.inr (chg_WE w))⟩
theorem SW.fill {fr to n y r : Int} {F' : Int → Int} {P' : Int → Int → Int} {B' : Int → Int → Int → Int} (hD : WF D) (h : SW D T F P B O) (hf : fiR D F P B fr to n y F' P' B' r) : SW D T F' P' B' O := by
  rcases hf with ⟨a1, a2, a3, n', a4, a5, a6⟩ | ⟨a1, rfl, rfl, rfl, a5⟩
  · have we := bsR_WE hD a2 a3
    have cm := cam_0 hD we.1.1 we.1.1.1.1.1 (Int.le_refl _)
    have hpl : plP (up1 F 2 1) P' := ⟨rfl, by have := we.1.2.1.1; omega⟩
    have h3 := h.1.2.2.1
    have s0 : SW D T (up1 (up1 F 2 1) 3 (F 3)) P' B O := by
      have : up1 (up1 F 2 1) 3 (F 3) = up1 F 2 1 := up1_id (up1 F 2 1) 3
      rw [this]; exact h.up2 we.1 we.2
    have lp : ∀ (k : Nat) (n : Int) (B : Int → Int → Int → Int), n + k ≤ 6 → SW D T (up1 (up1 F 2 1) 3 n) P' B O → flP D (up1 F 2 1) P' k B n B' n' → SW D T (up1 (up1 F 2 1) 3 n') P' B' O := by
      intro k
      induction k with
      | zero => intro n B hk hs hf; obtain ⟨rfl, rfl⟩ := hf; exact hs
      | succ k ih =>
        intro n B hk hs hf
        rcases hf with ⟨r, r0, r1, r2⟩ | ⟨r1, rfl, rfl⟩
        · have r4 : r ≤ 400 := by
            rcases r1 with w | w
            · exact w.2.2.1
            · omega
          have hb := hs.bk (x := r) (hs.pl hpl) ⟨r0, r4⟩ (by rw [up1_s]; omega)
          rw [up1_s, up1_up1] at hb
          exact ih (n + 1) _ (by omega) hb r2
        · exact hs
    rw [a5]
    exact lp _ (F 3) B (by omega) s0 a4
  · exact h
theorem SW.on0 (h : SW D T F P B O) : SW D T (up1 F 4 0) P B O := h.end9 ⟨Int.le_refl _, h.1.2.2.2.1.1⟩
theorem SW.on1 (h : SW D T F P B O) (ho : onP D T (F 4)) : SW D T (up1 (up1 F 4 0) 3 (T 0)) P (fun a => rdA T (pos T a.toNat)) O := by
  have h4 := h.1.2.2.2.1
  have t0 := h.2.1 0 (Int.le_refl _) (by have := ho.1; omega)
  obtain ⟨⟨a1, a2, a3, a4, a5⟩, b1, b2, b3, b4⟩ := h.on0
  refine ⟨⟨a1, a2, ⟨t0.1, ho.2.1⟩, a4, a5⟩, b1, b2, b3, fun a a0 a1 => ?_⟩
  have a1 : a < T 0 := a1
  exact (ho.2.2.1 a.toNat (by omega)).2.2
theorem SW.img (hD : WF D) (h : SW D T F P B O) : SW D T (up1 F 5 (imL F B).length) P B (lf (imL F B)) := by
  have h3 := h.1.2.2.1
  have hl := imB_len h (F 3) (F 3).toNat (by omega)
  have ein : ∀ v ∈ imB (F 3) B (F 3).toNat, 0 ≤ v ∧ v ≤ 255 := imB_in hD h (F 3).toNat (by omega)
  have len : (imL F B).length = (imB (F 3) B (F 3).toNat).length + 1 := by unfold imL; simp
  have ein2 : ∀ v ∈ imL F B, 0 ≤ v ∧ v ≤ 255 := by
    intro v hv
    unfold imL at hv
    rcases List.mem_append.mp hv with w | w
    · exact ein v w
    · have := List.mem_singleton.mp w
      rw [this]
      have := chk_in (imB (F 3) B (F 3).toNat)
      omega
  obtain ⟨⟨a1, a2, a3, a4, a5⟩, b1, b2, b3, b4⟩ := h
  exact ⟨⟨a1, a2, a3, a4, ⟨by show 0 ≤ ((imL F B).length : Int); omega, by show ((imL F B).length : Int) ≤ 300; omega⟩⟩, b1, fun i _ _ => lf_in ein2 i, b3, b4⟩
end
