/-! what a statement leaves is in order -/
section
variable {D D' : Int → Int → Int} {T : Int → Int} {n lc lc' : Int} {L : Int → Int} {ln pl pe ph re tk ar : Int} {us vs : List Int}
/-- the rig as far as it is read is in order -/
def DW (D : Int → Int → Int) (lc : Int) : Prop := WF D ∧ WFn D ∧ WFc D ∧ WFa D ∧ (∀ b, 0 ≤ b → b < D 0 0 → 0 ≤ D 3 b ∧ D 3 b ≤ 39) ∧ (∀ t, 0 ≤ t → t < D 0 2 → D 11 t ≤ lc) ∧ 0 ≤ lc ∧ ∀ b c, (0 ≤ b ∧ b < D 0 0) → (0 ≤ c ∧ c < D 0 0) → sm9 (D (20 + b)) (D (20 + c)) → b = c
theorem adBar_s (h0 : 0 ≤ D 0 0) {r : Int} (h : (6 ≤ r ∧ r < 13) ∨ (14 ≤ r ∧ r < 20)) : adBar D L ln pl pe ph re r = D r := by
  funext j
  rw [adBar_r h0 (by omega)]
  simp (disch := omega) only [am_up_o]
theorem adBar_0 (h0 : 0 ≤ D 0 0) : adBar D L ln pl pe ph re 0 0 = D 0 0 + 1 ∧ adBar D L ln pl pe ph re 0 1 = D 0 1 ∧ adBar D L ln pl pe ph re 0 2 = D 0 2 := by
  rw [adBar_r h0 (by decide), adBar_r h0 (by decide), adBar_r h0 (by decide)]
  simp (disch := omega) only [am_up_o, am_up_s, am_up_j]
  exact ⟨trivial, trivial, trivial⟩
theorem adBar_n (h0 : 0 ≤ D 0 0) : adBar D L ln pl pe ph re 1 (D 0 0) = pl ∧ adBar D L ln pl pe ph re 2 (D 0 0) = pe ∧ adBar D L ln pl pe ph re 3 (D 0 0) = ph ∧ adBar D L ln pl pe ph re 4 (D 0 0) = re ∧ adBar D L ln pl pe ph re 5 (D 0 0) = 0 ∧ adBar D L ln pl pe ph re 13 (D 0 0) = ln := by
  simp (disch := first | decide | exact h0) only [adBar_r]
  simp (disch := omega) only [am_up_o, am_up_s, am_up_j]
  exact ⟨trivial, trivial, trivial, trivial, trivial, trivial⟩
theorem adBar_e (h0 : 0 ≤ D 0 0) {r j : Int} (hj : j ≠ D 0 0) (h : 1 ≤ r ∧ r < 20) : adBar D L ln pl pe ph re r j = D r j := by
  rw [adBar_r h0 (by omega)]
  by_cases r1 : r = 1
  · subst r1; simp (disch := omega) only [am_up_o, am_up_j]
  by_cases r2 : r = 2
  · subst r2; simp (disch := omega) only [am_up_o, am_up_j]
  by_cases r3 : r = 3
  · subst r3; simp (disch := omega) only [am_up_o, am_up_j]
  by_cases r4 : r = 4
  · subst r4; simp (disch := omega) only [am_up_o, am_up_j]
  by_cases r5 : r = 5
  · subst r5; simp (disch := omega) only [am_up_o, am_up_j]
  by_cases r6 : r = 13
  · subst r6; simp (disch := omega) only [am_up_o, am_up_j]
  · simp (disch := omega) only [am_up_o]
theorem DW.bar (h : DW D lc) (h8 : D 0 0 < 8) (hL : okN ln L) (hg : ¬ gv9 D L) (h1 : 0 ≤ pl ∧ pl ≤ 400) (h2 : 4 ≤ pe ∧ pe ≤ 40) (h3 : 0 ≤ ph ∧ ph ≤ 39) (h4 : 0 ≤ re ∧ re ≤ 60) : DW (adBar D L ln pl pe ph re) lc := by
  obtain ⟨w, wn, wc, wa, d3, d11, l0, un⟩ := h
  have h0 := w.1.1
  have e0 := adBar_0 (L := L) (ln := ln) (pl := pl) (pe := pe) (ph := ph) (re := re) h0
  have en := adBar_n (L := L) (ln := ln) (pl := pl) (pe := pe) (ph := ph) (re := re) h0
  have es : ∀ r, (6 ≤ r ∧ r < 13) ∨ (14 ≤ r ∧ r < 20) → adBar D L ln pl pe ph re r = D r := fun r q => adBar_s h0 q
  have b1 := w.2.1
  have b2 := w.2.2.1
  refine ⟨⟨by rw [e0.1]; omega, by rw [e0.2.1]; exact w.2.1, by rw [e0.2.2]; exact w.2.2.1, fun b c0 c1 => ?_, ?_, ?_⟩, ⟨fun b c0 c1 => ?_, fun b c0 c1 => ?_, fun b c0 c1 => ?_⟩, ?_, ?_, fun b c0 c1 => ?_, ?_, l0, fun b c hb hc s => ?_⟩
  · rw [e0.1] at c1
    by_cases z : b = D 0 0
    · subst z
      rw [en.1, en.2.1, en.2.2.1, en.2.2.2.1, en.2.2.2.2.1]
      exact ⟨h1, h2, by omega, h4, by decide⟩
    · rw [adBar_e h0 z (by decide), adBar_e h0 z (by decide), adBar_e h0 z (by decide), adBar_e h0 z (by decide), adBar_e h0 z (by decide)]
      exact w.2.2.2.1 b c0 (by omega)
  · rw [e0.2.1, es 6 (by decide)]; exact w.2.2.2.2.1
  · rw [e0.2.2, es 7 (by decide), es 8 (by decide)]; exact w.2.2.2.2.2
  · rw [e0.1] at c1
    by_cases z : b = D 0 0
    · subst z; rw [adBar_L, en.2.2.2.2.2]; exact hL
    · rw [adBar_e (r := 13) h0 z (by decide), adBar_o (by omega) (by omega)]; exact wn.1 b c0 (by omega)
  · rw [e0.2.1] at c1
    rw [es 14 (by decide), adBar_o (by omega) (by omega)]; exact wn.2.1 b c0 c1
  · rw [e0.2.2] at c1
    rw [es 15 (by decide), adBar_o (by omega) (by omega)]; exact wn.2.2 b c0 c1
  · unfold WFc at *
    rw [e0.2.2, es 9 (by decide), es 10 (by decide), es 11 (by decide), es 12 (by decide)]; exact wc
  · unfold WFa at *
    rw [e0.2.2, es 9 (by decide), es 11 (by decide), es 12 (by decide), es 16 (by decide), es 17 (by decide)]; exact wa
  · rw [e0.1] at c1
    by_cases z : b = D 0 0
    · subst z; rw [en.2.2.1]; exact h3
    · rw [adBar_e h0 z (by decide)]; exact d3 b c0 (by omega)
  · rw [e0.2.2, es 11 (by decide)]; exact d11
  · rw [e0.1] at hb hc
    by_cases z : b = D 0 0
    · by_cases z2 : c = D 0 0
      · omega
      · subst z
        rw [adBar_L, adBar_o (by omega) (by omega)] at s
        exact absurd (Or.inl ⟨c, ⟨hc.1, by omega⟩, fun j j0 j1 => (s j j0 j1).symm⟩) hg
    · by_cases z2 : c = D 0 0
      · subst z2
        rw [adBar_L, adBar_o (by omega) (by omega)] at s
        exact absurd (Or.inl ⟨b, ⟨hb.1, by omega⟩, s⟩) hg
      · rw [adBar_o (by omega) (by omega), adBar_o (by omega) (by omega)] at s
        exact un b c ⟨hb.1, by omega⟩ ⟨hc.1, by omega⟩ s
theorem DW.brd (h : DW D lc) (h4 : D 0 1 < 4) (hL : okN ln L) (h1 : 0 ≤ pl ∧ pl ≤ 400) : DW (adBrd D L ln pl) lc := by
  obtain ⟨w, wn, wc, wa, d3, d11, l0, un⟩ := h
  have h0 := w.2.1.1
  have b0 := w.1
  have b2 := w.2.2.1
  have e0 : adBrd D L ln pl 0 0 = D 0 0 ∧ adBrd D L ln pl 0 1 = D 0 1 + 1 ∧ adBrd D L ln pl 0 2 = D 0 2 := by
    rw [adBrd_r h0 (by decide), adBrd_r h0 (by decide), adBrd_r h0 (by decide)]
    simp (disch := omega) only [am_up_o, am_up_s, am_up_j]
    exact ⟨trivial, trivial, trivial⟩
  have es : ∀ r, (1 ≤ r ∧ r < 6) ∨ (7 ≤ r ∧ r < 14) ∨ (15 ≤ r ∧ r < 20) → adBrd D L ln pl r = D r := fun r q => by
    funext j
    rw [adBrd_r h0 (by omega)]
    simp (disch := omega) only [am_up_o]
  have e6 : ∀ b, adBrd D L ln pl 6 b = if b = D 0 1 then pl else D 6 b := fun b => by
    rw [adBrd_r h0 (by decide)]
    split
    · rename_i q; subst q; simp (disch := omega) only [am_up_o, am_up_s, am_up_j]
    · simp (disch := omega) only [am_up_o, am_up_s, am_up_j]
  have e14 : ∀ b, adBrd D L ln pl 14 b = if b = D 0 1 then ln else D 14 b := fun b => by
    rw [adBrd_r h0 (by decide)]
    split
    · rename_i q; subst q; simp (disch := omega) only [am_up_o, am_up_s, am_up_j]
    · simp (disch := omega) only [am_up_o, am_up_s, am_up_j]
  refine ⟨⟨by rw [e0.1]; exact w.1, by rw [e0.2.1]; omega, by rw [e0.2.2]; exact w.2.2.1, ?_, fun b c0 c1 => ?_, ?_⟩, ⟨fun b c0 c1 => ?_, fun b c0 c1 => ?_, fun b c0 c1 => ?_⟩, ?_, ?_, ?_, ?_, l0, fun b c hb hc s => ?_⟩
  · rw [e0.1, es 1 (by decide), es 2 (by decide), es 3 (by decide), es 4 (by decide), es 5 (by decide)]; exact w.2.2.2.1
  · rw [e0.2.1] at c1
    rw [e6]
    split
    · exact h1
    · exact w.2.2.2.2.1 b c0 (by omega)
  · rw [e0.2.2, es 7 (by decide), es 8 (by decide)]; exact w.2.2.2.2.2
  · rw [e0.1] at c1
    rw [es 13 (by decide), adBrd_o (by omega) (by omega)]; exact wn.1 b c0 c1
  · rw [e0.2.1] at c1
    rw [e14]
    by_cases z : b = D 0 1
    · subst z; rw [adBrd_L, if_pos rfl]; exact hL
    · rw [adBrd_o (by omega) (by omega), if_neg z]; exact wn.2.1 b c0 (by omega)
  · rw [e0.2.2] at c1
    rw [es 15 (by decide), adBrd_o (by omega) (by omega)]; exact wn.2.2 b c0 c1
  · unfold WFc at *
    rw [e0.2.2, es 9 (by decide), es 10 (by decide), es 11 (by decide), es 12 (by decide)]; exact wc
  · unfold WFa at *
    rw [e0.2.2, es 9 (by decide), es 11 (by decide), es 12 (by decide), es 16 (by decide), es 17 (by decide)]; exact wa
  · rw [e0.1, es 3 (by decide)]; exact d3
  · rw [e0.2.2, es 11 (by decide)]; exact d11
  · rw [e0.1] at hb hc
    rw [adBrd_o (by omega) (by omega), adBrd_o (by omega) (by omega)] at s
    exact un b c hb hc s
theorem DW.cat (h : DW D lc) {b : Int} : DW (am_up D 5 b 1) lc := by
  obtain ⟨w, wn, wc, wa, d3, d11, l0, un⟩ := h
  have es : ∀ r, r ≠ 5 → am_up D 5 b 1 r = D r := fun r q => am_up_o _ q
  refine ⟨⟨by rw [es 0 (by decide)]; exact w.1, by rw [es 0 (by decide)]; exact w.2.1, by rw [es 0 (by decide)]; exact w.2.2.1, fun c c0 c1 => ?_, ?_, ?_⟩, ⟨fun c c0 c1 => ?_, fun c c0 c1 => ?_, fun c c0 c1 => ?_⟩, ?_, ?_, ?_, ?_, l0, fun c e hb hc s => ?_⟩
  · rw [es 0 (by decide)] at c1
    have g := w.2.2.2.1 c c0 c1
    rw [es 1 (by decide), es 2 (by decide), es 3 (by decide), es 4 (by decide)]
    refine ⟨g.1, g.2.1, g.2.2.1, g.2.2.2.1, ?_⟩
    by_cases z : c = b
    · rw [z, am_up_s]; decide
    · rw [am_up_j _ z]; exact g.2.2.2.2
  · rw [es 0 (by decide), es 6 (by decide)]; exact w.2.2.2.2.1
  · rw [es 0 (by decide), es 7 (by decide), es 8 (by decide)]; exact w.2.2.2.2.2
  · rw [es 0 (by decide)] at c1
    rw [es 13 (by decide), es _ (by omega)]; exact wn.1 c c0 c1
  · rw [es 0 (by decide)] at c1
    rw [es 14 (by decide), es _ (by omega)]; exact wn.2.1 c c0 c1
  · rw [es 0 (by decide)] at c1
    rw [es 15 (by decide), es _ (by omega)]; exact wn.2.2 c c0 c1
  · unfold WFc at *
    rw [es 0 (by decide), es 9 (by decide), es 10 (by decide), es 11 (by decide), es 12 (by decide)]; exact wc
  · unfold WFa at *
    rw [es 0 (by decide), es 9 (by decide), es 11 (by decide), es 12 (by decide), es 16 (by decide), es 17 (by decide)]; exact wa
  · rw [es 0 (by decide), es 3 (by decide)]; exact d3
  · rw [es 0 (by decide), es 11 (by decide)]; exact d11
  · rw [es 0 (by decide)] at hb hc
    rw [es _ (by omega), es _ (by omega)] at s
    exact un c e hb hc s
theorem cdD_n {i : Int} (h : i < lc) {ws : List Int} : cdD D lc ws i = D 12 i := by unfold cdD; rw [if_neg (by omega)]
theorem cdD_i {ws : List Int} {i : Nat} (h : i < ws.length) : cdD D lc ws (lc + i) = ct9 (ws.getD i 0) := by
  unfold cdD
  rw [if_pos (by omega), show (lc + (i : Int) - lc).toNat = i by omega]
theorem ct9_31 {u : Int} (h : tokR (ct9 u) u) : (ct9 u = -7 ↔ u = 31) ∧ (ct9 u = -8 ↔ u = 32) := by
  unfold tokR at h
  omega
theorem DW.trk {T : Int → Int} {n : Int} {r7 r8 r9 r10 : tk9} (h : DW D lc) (h8 : D 0 2 < 8) (hL : okN ln L) (h1 : 1 ≤ tk ∧ tk ≤ 20) (h2 : 0 ≤ ar ∧ ar ≤ 40) (hu : RD T n 3 0 r7 (ok9 r8 us)) (hv : RD T n 5 0 r9 (ok9 r10 vs)) (hl : lc + us.length + vs.length ≤ 900) : DW (adTrk D L ln tk ar lc us vs) (lc + us.length + vs.length) := by
  obtain ⟨w, wn, wc, wa, d3, d11, l0, un⟩ := h
  have h0 := w.2.2.1.1
  have b0 := w.1
  have b1 := w.2.1
  obtain ⟨tu1, tu2⟩ := hu.ty _ _ rfl
  obtain ⟨tv1, tv2⟩ := hv.ty _ _ rfl
  have tu := tu1 [] (by decide)
  have tv := tv1 [] (by decide)
  have tw : ∀ x ∈ us ++ vs, tokR (ct9 x) x := fun x hx => by
    rw [List.mem_append] at hx
    rcases hx with hx | hx
    · exact tu2 x hx
    · exact tv2 x hx
  have ll : (us ++ vs).length = us.length + vs.length := List.length_append
  have e0 : adTrk D L ln tk ar lc us vs 0 0 = D 0 0 ∧ adTrk D L ln tk ar lc us vs 0 1 = D 0 1 ∧ adTrk D L ln tk ar lc us vs 0 2 = D 0 2 + 1 := by
    rw [adTrk_r h0 (by decide) (by decide), adTrk_r h0 (by decide) (by decide), adTrk_r h0 (by decide) (by decide)]
    simp (disch := omega) only [am_up_o, am_up_s, am_up_j]
    exact ⟨trivial, trivial, trivial⟩
  have es : ∀ r, (1 ≤ r ∧ r < 7) ∨ (13 ≤ r ∧ r < 15) → adTrk D L ln tk ar lc us vs r = D r := fun r q => by
    funext j
    rw [adTrk_r h0 (by omega) (by omega)]
    simp (disch := omega) only [am_up_o]
  have en : adTrk D L ln tk ar lc us vs 7 (D 0 2) = tk ∧ adTrk D L ln tk ar lc us vs 8 (D 0 2) = ar ∧ adTrk D L ln tk ar lc us vs 9 (D 0 2) = lc ∧ adTrk D L ln tk ar lc us vs 10 (D 0 2) = lc + us.length ∧ adTrk D L ln tk ar lc us vs 11 (D 0 2) = lc + us.length + vs.length ∧ adTrk D L ln tk ar lc us vs 15 (D 0 2) = ln ∧ adTrk D L ln tk ar lc us vs 16 (D 0 2) = bz ((31 : Int) ∈ us ++ vs) ∧ adTrk D L ln tk ar lc us vs 17 (D 0 2) = bz ((32 : Int) ∈ us ++ vs) := by
    simp (disch := first | decide | exact h0) only [adTrk_r]
    simp (disch := omega) only [am_up_o, am_up_s, am_up_j]
    exact ⟨trivial, trivial, trivial, trivial, trivial, trivial, trivial, trivial⟩
  have ee : ∀ t, t ≠ D 0 2 → adTrk D L ln tk ar lc us vs 7 t = D 7 t ∧ adTrk D L ln tk ar lc us vs 8 t = D 8 t ∧ adTrk D L ln tk ar lc us vs 9 t = D 9 t ∧ adTrk D L ln tk ar lc us vs 10 t = D 10 t ∧ adTrk D L ln tk ar lc us vs 11 t = D 11 t ∧ adTrk D L ln tk ar lc us vs 15 t = D 15 t ∧ adTrk D L ln tk ar lc us vs 16 t = D 16 t ∧ adTrk D L ln tk ar lc us vs 17 t = D 17 t := fun t ht => by
    simp (disch := first | decide | exact h0) only [adTrk_r]
    simp (disch := omega) only [am_up_o, am_up_s, am_up_j]
    exact ⟨trivial, trivial, trivial, trivial, trivial, trivial, trivial, trivial⟩
  have e12 : adTrk D L ln tk ar lc us vs 12 = cdD D lc (us ++ vs) := adTrk_c h0
  have xe : ∀ {a b : Int} {top : Bool}, b ≤ lc → xcode (D 12) a b top → xcode (cdD D lc (us ++ vs)) a b top := by
    intro a b top hb ⟨f, f1, f2, f3⟩
    exact ⟨f, f1, f2, fun i i0 i1 => by rw [cdD_n (by omega)]; exact f3 i i0 i1⟩
  refine ⟨⟨by rw [e0.1]; exact w.1, by rw [e0.2.1]; exact w.2.1, by rw [e0.2.2]; omega, ?_, ?_, fun t t0 t1 => ?_⟩, ⟨fun b c0 c1 => ?_, fun b c0 c1 => ?_, fun b c0 c1 => ?_⟩, fun t t0 t1 => ?_, fun t t0 t1 => ?_, ?_, fun t t0 t1 => ?_, by omega, fun b c hb hc s => ?_⟩
  · rw [e0.1, es 1 (by decide), es 2 (by decide), es 3 (by decide), es 4 (by decide), es 5 (by decide)]; exact w.2.2.2.1
  · rw [e0.2.1, es 6 (by decide)]; exact w.2.2.2.2.1
  · rw [e0.2.2] at t1
    by_cases z : t = D 0 2
    · subst z; rw [en.1, en.2.1]; exact ⟨h1, h2⟩
    · rw [(ee t z).1, (ee t z).2.1]; exact w.2.2.2.2.2 t t0 (by omega)
  · rw [e0.1] at c1
    rw [es 13 (by decide), adTrk_o (by omega) (by omega)]; exact wn.1 b c0 c1
  · rw [e0.2.1] at c1
    rw [es 14 (by decide), adTrk_o (by omega) (by omega)]; exact wn.2.1 b c0 c1
  · rw [e0.2.2] at c1
    by_cases z : b = D 0 2
    · subst z; rw [adTrk_L, en.2.2.2.2.2.1]; exact hL
    · rw [(ee b z).2.2.2.2.2.1, adTrk_o (by omega) (by omega)]; exact wn.2.2 b c0 (by omega)
  · rw [e0.2.2] at t1
    rw [e12]
    by_cases z : t = D 0 2
    · subst z
      rw [en.2.2.1, en.2.2.2.1, en.2.2.2.2.1]
      refine ⟨by omega, xtl_c (cs := us.map ct9) tu (by rw [List.length_map]) (fun i hi => ?_), xtl_c (cs := vs.map ct9) tv (by rw [List.length_map]) (fun i hi => ?_)⟩
      · rw [List.length_map] at hi
        rw [cdD_i (by omega), List.getD_eq_getElem?_getD, List.getD_eq_getElem?_getD, List.getElem?_append_left hi, List.getElem?_map, List.getElem?_eq_getElem hi]
        rfl
      · rw [List.length_map] at hi
        rw [show lc + (us.length : Int) + (i : Int) = lc + ((us.length + i : Nat) : Int) by omega, cdD_i (by omega), List.getD_eq_getElem?_getD, List.getD_eq_getElem?_getD, List.getElem?_append_right (by omega), Nat.add_sub_cancel_left, List.getElem?_map, List.getElem?_eq_getElem hi]
        rfl
    · have g := ee t z
      have c := wc t t0 (by omega)
      have d := d11 t t0 (by omega)
      rw [g.2.2.1, g.2.2.2.1, g.2.2.2.2.1]
      exact ⟨c.1, xe (by omega) c.2.1, xe d c.2.2⟩
  · rw [e0.2.2] at t1
    rw [e12]
    by_cases z : t = D 0 2
    · subst z
      rw [en.2.2.1, en.2.2.2.2.1, en.2.2.2.2.2.2.1, en.2.2.2.2.2.2.2]
      have cod : ∀ i, lc ≤ i → i < lc + us.length + vs.length → ∃ x, x ∈ us ++ vs ∧ cdD D lc (us ++ vs) i = ct9 x := fun i i0 i1 => by
        refine ⟨(us ++ vs).getD (i - lc).toNat 0, ?_, ?_⟩
        · rw [List.getD_eq_getElem?_getD, List.getElem?_eq_getElem (by omega)]
          exact List.getElem_mem _
        · have := cdD_i (D := D) (lc := lc) (ws := us ++ vs) (i := (i - lc).toNat) (by omega)
          rw [show lc + (((i - lc).toNat : Nat) : Int) = i by omega] at this
          exact this
      refine ⟨by unfold bz; split <;> simp, by unfold bz; split <;> simp, fun z i i0 i1 e => ?_, fun z i i0 i1 e => ?_⟩
      · obtain ⟨x, x1, x2⟩ := cod i i0 i1
        rw [x2] at e
        have := (ct9_31 (tw x x1)).1.mp e
        rw [this] at x1
        exact absurd x1 (bz_0.mp z)
      · obtain ⟨x, x1, x2⟩ := cod i i0 i1
        rw [x2] at e
        have := (ct9_31 (tw x x1)).2.mp e
        rw [this] at x1
        exact absurd x1 (bz_0.mp z)
    · have g := ee t z
      have c := wa t t0 (by omega)
      have d := d11 t t0 (by omega)
      rw [g.2.2.1, g.2.2.2.2.1, g.2.2.2.2.2.2.1, g.2.2.2.2.2.2.2]
      exact ⟨c.1, c.2.1, fun z i i0 i1 => by rw [cdD_n (by omega)]; exact c.2.2.1 z i i0 i1, fun z i i0 i1 => by rw [cdD_n (by omega)]; exact c.2.2.2 z i i0 i1⟩
  · rw [e0.1, es 3 (by decide)]; exact d3
  · rw [e0.2.2] at t1
    by_cases z : t = D 0 2
    · subst z; rw [en.2.2.2.2.1]; omega
    · rw [(ee t z).2.2.2.2.1]; have := d11 t t0 (by omega); omega
  · rw [e0.1] at hb hc
    rw [adTrk_o (by omega) (by omega), adTrk_o (by omega) (by omega)] at s
    exact un b c hb hc s
/-- a statement keeps it in order -/
theorem stmR_DW {k : Int} {r r' : tk9} (h : DW D lc) (hn : n ≤ 900) (hW : tkW n r) (hl : lc ≤ r.2.1) (hs : stmR T n k D lc r (.inl r') D' lc') : DW D' lc' ∧ tkW n r' ∧ lc' ≤ r'.2.1 ∧ r.2.1 + 1 ≤ r'.2.1 ∧ k < 30 := by
  rcases hs with ⟨-, e⟩ | ⟨hk, z1, hb, hp⟩
  · cases e
  obtain ⟨r1, e1⟩ : ∃ r1, z1 = .inl r1 := by
    cases z1 with
    | inl r => exact ⟨r, rfl⟩
    | inr p => cases hp
  subst e1
  suffices g : DW D' lc' ∧ tkW n r1 ∧ lc' ≤ r1.2.1 ∧ r.2.1 + 1 ≤ r1.2.1 by
    have := psR_g hp g.2.1
    exact ⟨g.1, this.1, by omega, by omega, hk⟩
  rcases hb with ⟨w, z, hr, h1⟩ | ⟨-, w, z, hr, h1⟩ | ⟨-, -, w, r2, nx, h1⟩ | ⟨-, -, -, w, z, hr, h1⟩ | ⟨-, -, -, -, e⟩
  · rcases hr with ⟨-, e⟩ | ⟨h8, r2, nx, e⟩
    · subst e; cases h1
    subst e
    obtain ⟨z2, z3, z4, z5, z6, z7, z8, z9, z10, pl, pe, ph, re, p2, p3, p4, p5, p6, p7, p8, p9, p10, ez, eD, el⟩ := h1
    subst ez eD el
    obtain ⟨⟨r9, e9⟩, w10⟩ := nuR_i p10
    subst e9
    obtain ⟨r8, e8⟩ := pwR_i p9
    subst e8
    obtain ⟨⟨r7, e7⟩, w8⟩ := nuR_i p8
    subst e7
    obtain ⟨r6, e6⟩ := pwR_i p7
    subst e6
    obtain ⟨⟨r5, e5⟩, w6⟩ := nuR_i p6
    subst e5
    obtain ⟨r4, e4⟩ := pwR_i p5
    subst e4
    obtain ⟨⟨r3, e3⟩, w4⟩ := nuR_i p4
    subst e3
    obtain ⟨ra, ea⟩ := pwR_i p3
    subst ea
    have nk := nnR_i p2
    have g1 := nx9_s nx hW (wd9_k w)
    have g2 := nnR_g p2 g1.1
    have g3 := pwR_g p3 g2.1
    have g4 := nuR_g p4 g3.1
    have g5 := pwR_g p5 g4.1
    have g6 := nuR_g p6 g5.1
    have g7 := pwR_g p7 g6.1
    have g8 := nuR_g p8 g7.1
    have g9 := pwR_g p9 g8.1
    have g10 := nuR_g p10 g9.1
    exact ⟨h.bar h8 (nL9_ok g1.1 (nx9_L nx) nk.1.1 nk.1.2.2) nk.2 w4 w6 w8 w10, g10.1, by omega, by omega⟩
  · rcases hr with ⟨-, e⟩ | ⟨h8, r2, nx, e⟩
    · subst e; cases h1
    subst e
    obtain ⟨z2, z3, z4, pl, p2, p3, p4, ez, eD, el⟩ := h1
    subst ez eD el
    obtain ⟨⟨r3, e3⟩, w4⟩ := nuR_i p4
    subst e3
    obtain ⟨ra, ea⟩ := pwR_i p3
    subst ea
    have nk := nnR_i p2
    have g1 := nx9_s nx hW (wd9_k w)
    have g2 := nnR_g p2 g1.1
    have g3 := pwR_g p3 g2.1
    have g4 := nuR_g p4 g3.1
    exact ⟨h.brd h8 (nL9_ok g1.1 (nx9_L nx) nk.1.1 nk.1.2.2) w4, g4.1, by omega, by omega⟩
  · have g1 := nx9_s nx hW (wd9_k w)
    rcases h1 with ⟨f, x, -, e⟩ | ⟨-, -, e⟩ | ⟨nk, b, -, -, r3, nx3, e, eD, el⟩
    · cases e
    · cases e
    · cases e
      subst eD el
      have g3 := nx9_s nx3 g1.1 (by have := nk.1; omega)
      exact ⟨h.cat, g3.1, by omega, by omega⟩
  · rcases hr with ⟨-, e⟩ | ⟨h8, r2, nx, e⟩
    · subst e; cases h1
    subst e
    obtain ⟨z2, z3, z4, z5, z6, z7, z8, z9, z10, tk, ar, us, vs, p2, p3, p4, p5, p6, p7, p8, p9, p10, ez, eD, el⟩ := h1
    subst ez eD el
    obtain ⟨r9, e9, d10⟩ := rdR_i p10
    subst e9
    obtain ⟨r8, e8⟩ := pwR_i p9
    subst e8
    obtain ⟨r7, e7, d8⟩ := rdR_i p8
    subst e7
    obtain ⟨r6, e6⟩ := pwR_i p7
    subst e6
    obtain ⟨⟨r5, e5⟩, w6⟩ := nuR_i p6
    subst e5
    obtain ⟨r4, e4⟩ := pwR_i p5
    subst e4
    obtain ⟨⟨r3, e3⟩, w4⟩ := nuR_i p4
    subst e3
    obtain ⟨ra, ea⟩ := pwR_i p3
    subst ea
    have nk := nnR_i p2
    have g1 := nx9_s nx hW (wd9_k w)
    have g2 := nnR_g p2 g1.1
    have g3 := pwR_g p3 g2.1
    have g4 := nuR_g p4 g3.1
    have g5 := pwR_g p5 g4.1
    have g6 := nuR_g p6 g5.1
    have g7 := pwR_g p7 g6.1
    have g8 := d8.len _ _ rfl g7.1
    have g9 := pwR_g p9 g8.1
    have g10 := d10.len _ _ rfl g9.1
    have := g10.1.1
    exact ⟨h.trk h8 (nL9_ok g1.1 (nx9_L nx) nk.1.1 nk.1.2.2) w4 w6 d8 d10 (by omega), g10.1, by omega, by omega⟩
  · cases e
theorem DW.zero : DW (fun _ _ => 0) 0 := by
  have no : ∀ {p : Prop} (b : Int), 0 ≤ b → b < (0 : Int) → p := fun b a c => by omega
  exact ⟨⟨by decide, by decide, by decide, fun b a c => no b a c, fun b a c => no b a c, fun b a c => no b a c⟩, ⟨fun b a c => no b a c, fun b a c => no b a c, fun b a c => no b a c⟩, fun b a c => no b a c, fun b a c => no b a c, fun b a c => no b a c, fun b a c => no b a c, by decide, fun b c a => no b a.1 a.2⟩
end
