/-! the model: a test by the rules; test() -/
section
variable {M M' M0 M1 M2 : Int → Int → Int} {T : Int → Int} {n : Int} {d : Nat} {Q Q1 Q2 : AV → am_S → Prop} {q q' X : Nat} {r r' r1 : tk9} {o w b c : Int} {us vs pa pm : List Int}
/-- what may stand below a fact, what is joined by and, a test -/
def nF (M : Int → Int → Int) (w : Int) : Prop := w = 0 ∨ M 179 (w - 1) = 14 ∨ M 179 (w - 1) = 15 ∨ M 179 (w - 1) = 16 ∨ M 179 (w - 1) = 25
def nA (M : Int → Int → Int) (w : Int) : Prop := w = 0 ∨ M 179 (w - 1) = 15 ∨ M 179 (w - 1) = 25
def nT (M : Int → Int → Int) (w : Int) : Prop := w = 0 ∨ M 179 (w - 1) = 25
def P2 (T : Int → Int) (n : Int) (d : Nat) (Q : AV → am_S → Prop) (X : Nat) (o : Int) (r : tk9) (out : ou9) : Prop :=
  (X = 1 → ∀ M w b c, mK T n M (.inl r) → mN M o w b c → c + w ≤ r.2.1 → nF M w → (∀ r' us, out = ok9 r' us → ∀ M', mK T n M' (.inl r') → pS M M' o w b c us [] [] → DG d Q M') → (∀ f x, out = fl9 f x → ∀ M', sY M M' f x → EX d Q M') → TP d Q M) ∧
  (X = 4 → ∀ M w b c, mK T n M (.inl r) → mN M o w b c → c + w ≤ r.2.1 → nA M w → (∀ r' us, out = ok9 r' us → ∀ M' pm, mK T n M' (.inl r') → pT M M' o w b c us [] pm → GTs d Q M') → (∀ f x, out = fl9 f x → ∀ M', sY M M' f x → EX d Q M') → TP d Q M) ∧
  (X = 5 → ∀ M w b c, mK T n M (.inl r) → mN M o w b c → c + w ≤ r.2.1 → nT M w → (∀ r' us, out = ok9 r' us → ∀ M' pa pm, mK T n M' (.inl r') → pT M M' o w b c us pa pm → GTs d Q M') → (∀ f x, out = fl9 f x → ∀ M', sY M M' f x → EX d Q M') → TP d Q M) ∧
  (X = 8 → ∀ M0 M w b c us0 pm0, mK T n M (.inl r) → pT M0 M o w b c us0 [] pm0 → c + us0.length + w ≤ r.2.1 → nA M0 w → (∀ r' us, out = ok9 r' us → ∀ M' pm, mK T n M' (.inl r') → pT M0 M' o w b c (us0 ++ us) [] pm → GTs d Q M') → (∀ f x, out = fl9 f x → ∀ M', sY M0 M' f x → EX d Q M') → GTs d Q M) ∧
  (X = 9 → ∀ M0 M w b c us0 pa0 pm0, mK T n M (.inl r) → pT M0 M o w b c us0 pa0 pm0 → c + us0.length + w ≤ r.2.1 → nT M0 w → (∀ r' us, out = ok9 r' us → ∀ M' pa pm, mK T n M' (.inl r') → pT M0 M' o w b c (us0 ++ us) pa pm → GTs d Q M') → (∀ f x, out = fl9 f x → ∀ M', sY M0 M' f x → EX d Q M') → GTs d Q M)
theorem P2_none {out : ou9} (hX : X ≠ 1 ∧ X ≠ 4 ∧ X ≠ 5 ∧ X ≠ 8 ∧ X ≠ 9) : P2 T n d Q X o r out := ⟨fun e => absurd e hX.1, fun e => absurd e hX.2.1, fun e => absurd e hX.2.2.1, fun e => absurd e hX.2.2.2.1, fun e => absurd e hX.2.2.2.2⟩
theorem r_test_ind (hb : by9 T n) {out : ou9} (h : RD T n X o r out) : P2 T n d Q X o r out := by
  refine RD.ind (P := P2 T n d Q) ?_ h
  clear h
  intro X o r out h
  rcases h with ⟨rfl, h⟩ | ⟨rfl, h⟩ | ⟨L, l, rfl, h⟩ | ⟨L, l, rfl, h⟩
  · exact P2_none (by decide)
  · refine ⟨fun _ M w b c k hN hL hw hok hfl => ?_, fun e => by omega, fun e => by omega, fun e => by omega, fun e => by omega⟩
    have l9 := le9 k
    have hW := tK9_W k.2.1
    have hN2 := hN.2.2
    have ho := hN.2.1
    have hw4 : ∀ M1, tF M M1 → w = 0 ∨ ¬ (1 ≤ M1 179 (w - 1) ∧ M1 179 (w - 1) ≤ 4) := fun M1 s => by
      rw [s.1 179 (by decide)]
      rcases hw with g | g | g | g | g
      · exact Or.inl g
      all_goals exact Or.inr (by omega)
    rcases h with ⟨a, h⟩ | ⟨a, h⟩ | ⟨a, r1, nx, h⟩ | ⟨h23, h91, h24, h⟩
    · rcases h with ⟨o6, e⟩ | ⟨o6, r1, nx, h⟩
      · subst e
        exact tp_open (r1 := r) (u := 16) k hN hL (Or.inr ⟨a, rfl⟩) (fun g => by omega) (fun g => by omega) (fun _ M' z => hfl _ _ rfl M' z)
      refine tp_open (u := 16) k hN hL (Or.inr ⟨a, rfl⟩) (fun _ => nx) (fun _ M1 k1 N1 s1 w1 => ?_) (fun g => by omega)
      have g1 := nx9_s nx hW (wd9_k a)
      have nf1 : nF M1 (w + 1) := by unfold nF; rw [show w + 1 - 1 = w by omega, w1]; exact Or.inr (Or.inr (Or.inr (Or.inl rfl)))
      rcases h with ⟨r2, us, ⟨rd, i, -⟩, h⟩ | ⟨f, x, ⟨rd, i, -⟩, h⟩
      · have ln := rd.len r2 us rfl g1.1
        subst h
        refine i rfl M1 (w + 1) b c k1 N1 (by omega) nf1 (fun r2' us' e M2 k2 p2 => ?_) (fun f x e => by cases e)
        cases e
        have l92 := le9 k2
        exact dg_not k2 p2 w1 s1 hN2.1.2 (by omega) (fun M3 k3 p3 => hok _ _ rfl M3 k3 p3) ho
      · subst h
        exact i rfl M1 (w + 1) b c k1 N1 (by omega) nf1 (fun r2' us' e => by cases e) (fun f' x' e M' z => by cases e; exact hfl _ _ rfl M' (s1.yy z))
    · rcases h with ⟨o6, e⟩ | ⟨o6, r1, nx, h⟩
      · subst e
        exact tp_open (r1 := r) (u := 25) k hN hL (Or.inl ⟨a, rfl⟩) (fun g => by omega) (fun g => by omega) (fun _ M' z => hfl _ _ rfl M' z)
      refine tp_open (u := 25) k hN hL (Or.inl ⟨a, rfl⟩) (fun _ => nx) (fun _ M1 k1 N1 s1 w1 => ?_) (fun g => by omega)
      have g1 := nx9_s nx hW (sg9_k a)
      have nt1 : nT M1 (w + 1) := by unfold nT; rw [show w + 1 - 1 = w by omega, w1]; exact Or.inr rfl
      rcases h with ⟨r2, us, ⟨rd, -, -, i, -⟩, h⟩ | ⟨f, x, ⟨rd, -, -, i, -⟩, h⟩
      · have ln := rd.len r2 us rfl g1.1
        have fo := rd.fol r2 us rfl 3 (by decide)
        have n25 : ¬ wd9 T 25 r2 := fun z => fo.2.1 rfl (Or.inr rfl) 14 (Or.inr (Or.inr (Or.inl ⟨rfl, z, rfl⟩)))
        have n26 : ¬ wd9 T 26 r2 := fun z => fo.1 (Or.inl rfl) 15 (Or.inr (Or.inr (Or.inr ⟨rfl, z, rfl⟩)))
        refine i rfl M1 (w + 1) b c k1 N1 (by omega) nt1 (fun r2' us' e M2 pa pm k2 p2 => ?_) (fun f x e => by cases e)
        cases e
        have l92 := le9 k2
        rcases h with ⟨s93, r3, nx3, e⟩ | ⟨s93, e⟩
        · subst e
          exact gt_close k2 p2 (by omega) s93 w1 s1 hN2.1.2 ho (fun M3 c3 p3 => hok _ _ rfl M3 (c3.nx nx3) p3)
        · subst e
          exact gt_end k2 p2 (by omega) n25 n26 (Or.inr ⟨s93, by rw [show w + 1 - 1 = w by omega]; exact w1, by omega⟩) (fun g => by omega) (fun _ M' z => hfl _ _ rfl M' (s1.yy z))
      · subst h
        exact i rfl M1 (w + 1) b c k1 N1 (by omega) nt1 (fun r2' us' e => by cases e) (fun f' x' e M' z => by cases e; exact hfl _ _ rfl M' (s1.yy z))
    · subst h
      refine tp_fact k (fun z => by have := z.1; have := a.1; omega) (fun z => by have := wd9_u a z (by decide) (by decide); omega) (fun M1 K k1 s1 h1 _ => ?_)
      refine r_fact_all k1 (hN.tf s1) hL a (fun M2 c2 p2 => h1 M2 c2.1.1 (hok _ _ rfl M2 (c2.nx nx) ?_))
      obtain ⟨-, -, es, e1, n1, s2, g1, w2, b1⟩ := p2
      exact ⟨Or.inl rfl, Or.inl rfl, es, e1, n1, sG.tr (w' := w) (c' := c) s1.sg s2 (Int.le_refl _) (Int.le_refl _), g1, w2, b1⟩
    · refine tp_fact k h91 h23 (fun M1 K k1 s1 h1 h0 => ?_)
      refine r_fact_cmp hb k1 (hN.tf s1) hL (hw4 M1 s1) h24 (bd9_m h (fun _ z => z.1) (fun r1 us z => ?_)) (fun r' us e M2 k2 p2 => h1 M2 k2.PM (hok _ _ e M2 k2 ?_)) (fun f x e M2 z => h0 M2 z.2.1 (by rw [z.2.2.2.1]; exact z.2.2.1) (hfl _ _ e M2 ((s1.sg (w := 0) (c := 0)).yy z)))
      · rcases z with ⟨u, d, r2, e, z⟩ | z
        · exact Or.inl ⟨u, d, r2, e, bd9_m z (fun _ z => z.1) (fun _ _ z => z)⟩
        · exact Or.inr z
      · obtain ⟨-, -, es, e1, n1, s2, g1, w2, b1⟩ := p2
        exact ⟨Or.inl rfl, Or.inl rfl, es, e1, n1, sG.tr (w' := w) (c' := c) s1.sg s2 (Int.le_refl _) (Int.le_refl _), g1, w2, b1⟩
  · obtain rfl | rfl | rfl | rfl : L = 0 ∨ L = 1 ∨ L = 2 ∨ L = 3 := by omega
    · exact P2_none (by decide)
    · exact P2_none (by decide)
    · refine ⟨fun e => by omega, fun _ M w b c k hN hL hM hok hfl => ?_, fun e => by omega, fun e => by omega, fun e => by omega⟩
      have hN2 := hN.2.2
      have nf : nF M w := by unfold nA at hM; unfold nF; omega
      rcases h with ⟨r1, us, ⟨rd, i, -⟩, h⟩ | ⟨f, x, ⟨rd, i, -⟩, h⟩
      · have ln := rd.len r1 us rfl (tK9_W k.2.1)
        refine i rfl M w b c k hN hL nf (fun r1' us' e M1 k1 p1 => ?_) (fun f x e => by cases e)
        cases e
        have l91 := le9 k1
        have ew := p1.fr.2.2.2 (w - 1) (by omega)
        refine dg_stop k1 p1.c1.2 (by omega) (by unfold nA at hM; omega) ?_
        rcases h with ⟨r2, vs, ⟨-, -, -, -, i2, -⟩, h⟩ | ⟨f, x, ⟨-, -, -, -, i2, -⟩, h⟩
        · subst h
          exact i2 rfl M M1 w b c us [] k1 p1.t (by omega) hM (fun r2' vs' e M2 pm k2 p2 => by cases e; exact hok _ _ rfl M2 pm k2 p2) (fun f x e => by cases e)
        · subst h
          exact i2 rfl M M1 w b c us [] k1 p1.t (by omega) hM (fun r2' vs' e => by cases e) (fun f' x' e M' z => by cases e; exact hfl _ _ rfl M' z)
      · subst h
        exact i rfl M w b c k hN hL nf (fun r1' us' e => by cases e) (fun f' x' e M' z => by cases e; exact hfl _ _ rfl M' z)
    · refine ⟨fun e => by omega, fun e => by omega, fun _ M w b c k hN hL hM hok hfl => ?_, fun e => by omega, fun e => by omega⟩
      have na : nA M w := by unfold nT at hM; unfold nA; omega
      rcases h with ⟨r1, us, ⟨rd, -, i, -⟩, h⟩ | ⟨f, x, ⟨rd, -, i, -⟩, h⟩
      · have ln := rd.len r1 us rfl (tK9_W k.2.1)
        refine i rfl M w b c k hN hL na (fun r1' us' e M1 pm k1 p1 => ?_) (fun f x e => by cases e)
        cases e
        rcases h with ⟨r2, vs, ⟨-, -, -, -, -, i2⟩, h⟩ | ⟨f, x, ⟨-, -, -, -, -, i2⟩, h⟩
        · subst h
          exact i2 rfl M M1 w b c us [] pm k1 p1 (by omega) hM (fun r2' vs' e M2 pa pm k2 p2 => by cases e; exact hok _ _ rfl M2 pa pm k2 p2) (fun f x e => by cases e)
        · subst h
          exact i2 rfl M M1 w b c us [] pm k1 p1 (by omega) hM (fun r2' vs' e => by cases e) (fun f' x' e M' z => by cases e; exact hfl _ _ rfl M' z)
      · subst h
        exact i rfl M w b c k hN hL na (fun r1' us' e => by cases e) (fun f' x' e M' z => by cases e; exact hfl _ _ rfl M' z)
  · obtain rfl | rfl | rfl | rfl : L = 0 ∨ L = 1 ∨ L = 2 ∨ L = 3 := by omega
    · exact P2_none (by decide)
    · exact P2_none (by decide)
    · refine ⟨fun e => by omega, fun e => by omega, fun e => by omega, fun _ M0 M w b c us0 pm0 k p hL hM hok hfl => ?_, fun e => by omega⟩
      rcases h with ⟨-, e⟩ | ⟨u, hu, r1, nx, h⟩
      · subst e
        exact hok r [] rfl M pm0 k (by rw [List.append_nil]; exact p)
      have l9 := le9 k
      have g1 := nx9_s nx (tK9_W k.2.1) (op9_k hu)
      have hu' : wd9 T 25 r ∧ u = 14 := by
        rcases hu with ⟨g, -⟩ | ⟨g, -⟩ | ⟨-, g⟩ | ⟨g, -⟩
        · exact absurd g (by decide)
        · exact absurd g (by decide)
        · exact g
        · exact absurd g (by decide)
      obtain ⟨w25, rfl⟩ := hu'
      refine gt_and (u := 14) k p (by omega) (by unfold nA at hM; omega) w25 (fun M2 c2 p2 => ?_)
      have k3 := (pu_C (w := w) (u := 14) c2).nx nx
      have N3 := pu_N (u := 14) p2.s
      have s3 := pu_G (u := 14) p2.s
      have nf3 : nF (puM M2 w 14) (w + 1) := by unfold nF; rw [show w + 1 - 1 = w by omega, puM_e.2.2.2.1]; exact Or.inr (Or.inl rfl)
      rcases h with ⟨r2, us, ⟨rd, i, -⟩, h⟩ | ⟨f, x, ⟨rd, i, -⟩, h⟩
      · have ln := rd.len r2 us rfl g1.1
        refine i rfl (puM M2 w 14) (w + 1) b (c + us0.length) k3 N3 (by omega) nf3 (fun r2' us' e M4 k4 p4 => ?_) (fun f x e => by cases e)
        cases e
        have l94 := le9 k4
        have bb : 0 ≤ w ∧ 0 ≤ c := by obtain ⟨c1, m1, m2, m3, m4, m5, m6, m7, m8, m9⟩ := p2.nn; omega
        have ew := p4.fr.2.2.2 w (by omega)
        rw [puM_e.2.2.2.1] at ew
        refine dg_stop k4 p4.c1.2 (by omega) (Or.inr (by rw [show w + 1 - 1 = w by omega, ew]; decide)) ?_
        have p5 := (pT_a (pm' := []) p2).1 p4
        have ll : ((us0 ++ us ++ [14]).length : Int) = us0.length + us.length + 1 := by simp only [List.length_append, List.length_cons, List.length_nil]; omega
        rcases h with ⟨r3, vs, ⟨-, -, -, -, i2, -⟩, h⟩ | ⟨f, x, ⟨-, -, -, -, i2, -⟩, h⟩
        · subst h
          refine i2 rfl M0 M4 w b c _ [14] k4 p5 (by omega) hM (fun r2' vs' e M5 pm k5 p6 => ?_) (fun f x e => by cases e)
          cases e
          refine hok _ _ rfl M5 pm k5 ?_
          rw [← List.append_assoc, ← List.append_assoc]
          exact p6
        · subst h
          exact i2 rfl M0 M4 w b c _ [14] k4 p5 (by omega) hM (fun r2' vs' e => by cases e) (fun f' x' e M' z => by cases e; exact hfl _ _ rfl M' z)
      · subst h
        exact i rfl (puM M2 w 14) (w + 1) b (c + us0.length) k3 N3 (by omega) nf3 (fun r1' us' e => by cases e) (fun f' x' e M' z => by cases e; exact hfl _ _ rfl M' (s3.yy z))
    · refine ⟨fun e => by omega, fun e => by omega, fun e => by omega, fun e => by omega, fun _ M0 M w b c us0 pa0 pm0 k p hL hM hok hfl => ?_⟩
      rcases h with ⟨-, e⟩ | ⟨u, hu, r1, nx, h⟩
      · subst e
        exact hok r [] rfl M pa0 pm0 k (by rw [List.append_nil]; exact p)
      have l9 := le9 k
      have g1 := nx9_s nx (tK9_W k.2.1) (op9_k hu)
      have hu' : wd9 T 26 r ∧ u = 15 := by
        rcases hu with ⟨g, -⟩ | ⟨g, -⟩ | ⟨g, -⟩ | ⟨-, g⟩
        · exact absurd g (by decide)
        · exact absurd g (by decide)
        · exact absurd g (by decide)
        · exact g
      obtain ⟨w26, rfl⟩ := hu'
      refine gt_or k p (by omega) (by unfold nT at hM; omega) w26 (fun M2 c2 p2 => ?_)
      have k3 := (pu_C (w := w) (u := 15) c2).nx nx
      have N3 := pu_N (u := 15) p2.s
      have s3 := pu_G (u := 15) p2.s
      have na3 : nA (puM M2 w 15) (w + 1) := by unfold nA; rw [show w + 1 - 1 = w by omega, puM_e.2.2.2.1]; exact Or.inr (Or.inl rfl)
      rcases h with ⟨r2, us, ⟨rd, -, i, -⟩, h⟩ | ⟨f, x, ⟨rd, -, i, -⟩, h⟩
      · have ln := rd.len r2 us rfl g1.1
        refine i rfl (puM M2 w 15) (w + 1) b (c + us0.length) k3 N3 (by omega) na3 (fun r2' us' e M4 pm k4 p4 => ?_) (fun f x e => by cases e)
        cases e
        have p5 := (pT_a p2).2 p4
        have ll : ((us0 ++ us ++ [15]).length : Int) = us0.length + us.length + 1 := by simp only [List.length_append, List.length_cons, List.length_nil]; omega
        rcases h with ⟨r3, vs, ⟨-, -, -, -, -, i2⟩, h⟩ | ⟨f, x, ⟨-, -, -, -, -, i2⟩, h⟩
        · subst h
          refine i2 rfl M0 M4 w b c _ [15] pm k4 p5 (by omega) hM (fun r2' vs' e M5 pa pm k5 p6 => ?_) (fun f x e => by cases e)
          cases e
          refine hok _ _ rfl M5 pa pm k5 ?_
          rw [← List.append_assoc, ← List.append_assoc]
          exact p6
        · subst h
          exact i2 rfl M0 M4 w b c _ [15] pm k4 p5 (by omega) hM (fun r2' vs' e => by cases e) (fun f' x' e M' z => by cases e; exact hfl _ _ rfl M' z)
      · subst h
        exact i rfl (puM M2 w 15) (w + 1) b (c + us0.length) k3 N3 (by omega) na3 (fun r1' us' e => by cases e) (fun f' x' e M' z => by cases e; exact hfl _ _ rfl M' (s3.yy z))
/-- test(), with nothing waiting -/
theorem r_test {out : ou9} (hb : by9 T n) (rd : RD T n 5 o r out) (k : mK T n M (.inl r)) (hN : mN M o 0 0 c) (hL : c ≤ r.2.1) (hok : ∀ r' us, out = ok9 r' us → ∀ M', mK T n M' (.inl r') → pS M M' o 0 0 c us [] [] → Q none (am_SH, M')) (hfl : ∀ f x, out = fl9 f x → ∀ M', sY M M' f x → Q none (am_SH, M')) : am_Call (d + 9) m_Md_test 0 0 [vR 137] (am_SH, M) Q := by
  have c0 := hN.2.2.2
  have main : TP d Q M := by
    refine (r_test_ind hb rd).2.2.1 rfl M 0 0 c k hN (by omega) (Or.inl rfl) (fun r' us e M' pa pm k' p' => ?_) (fun f x e M' z x1 x2 => ?_)
    · have ln := rd.len r' us e (tK9_W k.2.1)
      have fo := rd.fol r' us e 3 (by decide)
      have l9 := le9 k'
      have n25 : ¬ wd9 T 25 r' := fun z => fo.2.1 rfl (Or.inr rfl) 14 (Or.inr (Or.inr (Or.inl ⟨rfl, z, rfl⟩)))
      have n26 : ¬ wd9 T 26 r' := fun z => fo.1 (Or.inl rfl) 15 (Or.inr (Or.inr (Or.inr ⟨rfl, z, rfl⟩)))
      refine gt_end k' p' (by omega) n25 n26 (Or.inl rfl) (fun _ M1 k1 p1 x1 x2 => ?_) (fun g => by omega)
      have fin : ∀ M2, mK T n M2 (.inl r') → pT M M2 o 0 0 c us [] [] → am_Wp (d + 9) m_Md_test 0 0 110 [vR 137, x1, x2] [] (am_SH, M2) Q := by
        intro M2 k2 p2
        have hP := k2.PM
        have e2 := p2.s.c1
        refine B_Md_test_110 _ _ _ _ _ ?_
        simp only [b_Md_test_110, b_Md_test_131, k2.2.2.1, e2.2, kd_137, ln_138, ln_139, ln_140, ln_141, ln_142, ln_143, ln_144, ln_145, ln_146, ln_147, ln_148, ln_149, ln_150, ln_151, ln_152, ln_153, ln_154, ln_155, ln_156, ln_157, ln_158, ln_159, ln_160, ln_161, ln_162, ln_163, ln_164, ln_165, ln_166, ln_167, ln_168, ln_169, ln_170, ln_171, ln_172, ln_173, ln_174, ln_175, ln_176, ln_177, ln_178, ln_179, ln_180, ln_181, ln_182, ln_183, ln_184, ln_185, ln_186, ln_187, ln_188, ln_189, ln_190, ln_191, pm_0 hP, pm_9 hP, pm_10 hP, pm_11 hP, pm_12 hP, pm_13 hP, pm_14 hP, pm_15 hP, pm_16 hP, pm_17 hP, pm_18 hP, pm_19 hP, pm_20 hP, pm_21 hP, pm_22 hP, pm_23 hP, pm_24 hP, pm_25 hP, pm_26 hP, pm_27 hP, pm_28 hP, pm_29 hP, pm_30 hP, pm_31 hP, pm_32 hP, pm_33 hP, pm_34 hP, pm_36 hP, pm_37 hP, pm_38 hP, pm_39 hP, pm_40 hP, pm_41 hP, pm_42 hP, pm_43 hP, pm_44 hP, pm_45 hP, pm_46 hP, pm_47 hP, pm_48 hP, pm_49 hP, pm_51 hP, pm_64 hP, pm_66 hP, pm_69 hP, pm_72 hP, pm_73 hP, pm_74 hP, pm_75 hP, pm_76 hP, pm_77 hP, pm_78 hP, pm_79 hP, pm_83 hP, am_up_eq, Int.reduceEq, Int.reduceLT, Int.reduceLE, Int.reduceNeg, if_true, if_false, c_const, c_lconst, c_ref, c_iload, c_lload, c_aload, c_istore, c_lstore, c_astore, c_iinc, c_iadd, c_isub, c_imul, c_ladd, c_lsub, c_lmul, c_idiv, c_irem, c_ldiv, c_lrem, c_iand, c_ior, c_ixor, c_ishl, c_ishr, c_ineg, c_i2l, c_l2i, c_i2c, c_lcmp, c_dup, c_pop, c_dup2, c_at, c_icmp_eq, c_icmp_ne, c_icmp_lt, c_icmp_ge, c_icmp_gt, c_icmp_le, c_if_eq, c_if_ne, c_if_lt, c_if_ge, c_if_gt, c_if_le, c_ifnull, c_ifnonnull, am_swK, c_sw, c_iret, c_zret, c_cret, c_bret, c_lret, c_aret, c_vret, c_getI, c_getR, c_putI, c_putZ, c_putR, c_iald, c_zald, c_cald, c_lald, c_oald, c_gald, c_iast, c_zast, c_cast, c_last, c_oast, c_alen, c_callS0, c_callS1, c_callS2, c_callS3, c_callS4, c_callS5, c_callS6, c_callS7, c_callV0, c_callV1, c_callV2, c_callV3, c_callV4, c_callV5, c_callV6, c_callV7, c_callT0, c_callT1, am_nx_eq, am_set, am_set2, am_clr, am_isL, am_push, am_w, am_ent, am_ent1, List.getElem?_cons_zero, List.getElem?_cons_succ, List.set_cons_zero, List.set_cons_succ, List.getD_cons_zero, List.getD_cons_succ, List.cons_append, List.nil_append, List.append_nil, List.replicate_succ, List.replicate_zero, Nat.reduceAdd, Nat.reduceSub, Nat.reduceLeDiff, Bool.false_eq_true, reduceIte, true_and, and_true, true_or, or_true, or_self, am_i32, am_i64, bz_0, bz_01, bz_em, bz_n0, Classical.not_not, am_cmp_lt0, am_cmp_gt0, am_cmp_eq0, am_cmp_ge0, am_cmp_le0, am_cmp_ne0]
        try simp only [Int.reduceEq, Int.reduceLT, Int.reduceLE, Int.reduceNeg, not_true_eq_false, not_false_eq_true, false_implies, true_implies, implies_true, true_and, and_true]
        exact hok r' us e M2 k2 p2.s
      have any : ∀ M2 c1 W, mK T n M2 (.inl r') → M2 137 52 = W → (1 ≤ W ∧ W ≤ 1000) → M2 137 50 = c1 → (0 ≤ c1 ∧ c1 < 1000) → am_Wp (d + 9) m_Md_test 0 0 110 [vR 137, x1, x2] [] (am_SH, drM M2 W c1) Q → am_Wp (d + 9) m_Md_test 0 0 110 [vR 137, x1, x2] [] (am_SH, M2) Q := by
        intro M2 c1 W k2 n2 W9 n1 c9 go
        have hP := k2.PM
        refine B_Md_test_110 _ _ _ _ _ ?_
        simp only [b_Md_test_110, b_Md_test_131, k2.2.2.1, n2, kd_137, ln_138, ln_139, ln_140, ln_141, ln_142, ln_143, ln_144, ln_145, ln_146, ln_147, ln_148, ln_149, ln_150, ln_151, ln_152, ln_153, ln_154, ln_155, ln_156, ln_157, ln_158, ln_159, ln_160, ln_161, ln_162, ln_163, ln_164, ln_165, ln_166, ln_167, ln_168, ln_169, ln_170, ln_171, ln_172, ln_173, ln_174, ln_175, ln_176, ln_177, ln_178, ln_179, ln_180, ln_181, ln_182, ln_183, ln_184, ln_185, ln_186, ln_187, ln_188, ln_189, ln_190, ln_191, pm_0 hP, pm_9 hP, pm_10 hP, pm_11 hP, pm_12 hP, pm_13 hP, pm_14 hP, pm_15 hP, pm_16 hP, pm_17 hP, pm_18 hP, pm_19 hP, pm_20 hP, pm_21 hP, pm_22 hP, pm_23 hP, pm_24 hP, pm_25 hP, pm_26 hP, pm_27 hP, pm_28 hP, pm_29 hP, pm_30 hP, pm_31 hP, pm_32 hP, pm_33 hP, pm_34 hP, pm_36 hP, pm_37 hP, pm_38 hP, pm_39 hP, pm_40 hP, pm_41 hP, pm_42 hP, pm_43 hP, pm_44 hP, pm_45 hP, pm_46 hP, pm_47 hP, pm_48 hP, pm_49 hP, pm_51 hP, pm_64 hP, pm_66 hP, pm_69 hP, pm_72 hP, pm_73 hP, pm_74 hP, pm_75 hP, pm_76 hP, pm_77 hP, pm_78 hP, pm_79 hP, pm_83 hP, am_up_eq, Int.reduceEq, Int.reduceLT, Int.reduceLE, Int.reduceNeg, if_true, if_false, c_const, c_lconst, c_ref, c_iload, c_lload, c_aload, c_istore, c_lstore, c_astore, c_iinc, c_iadd, c_isub, c_imul, c_ladd, c_lsub, c_lmul, c_idiv, c_irem, c_ldiv, c_lrem, c_iand, c_ior, c_ixor, c_ishl, c_ishr, c_ineg, c_i2l, c_l2i, c_i2c, c_lcmp, c_dup, c_pop, c_dup2, c_at, c_icmp_eq, c_icmp_ne, c_icmp_lt, c_icmp_ge, c_icmp_gt, c_icmp_le, c_if_eq, c_if_ne, c_if_lt, c_if_ge, c_if_gt, c_if_le, c_ifnull, c_ifnonnull, am_swK, c_sw, c_iret, c_zret, c_cret, c_bret, c_lret, c_aret, c_vret, c_getI, c_getR, c_putI, c_putZ, c_putR, c_iald, c_zald, c_cald, c_lald, c_oald, c_gald, c_iast, c_zast, c_cast, c_last, c_oast, c_alen, c_callS0, c_callS1, c_callS2, c_callS3, c_callS4, c_callS5, c_callS6, c_callS7, c_callV0, c_callV1, c_callV2, c_callV3, c_callV4, c_callV5, c_callV6, c_callV7, c_callT0, c_callT1, am_nx_eq, am_set, am_set2, am_clr, am_isL, am_push, am_w, am_ent, am_ent1, List.getElem?_cons_zero, List.getElem?_cons_succ, List.set_cons_zero, List.set_cons_succ, List.getD_cons_zero, List.getD_cons_succ, List.cons_append, List.nil_append, List.append_nil, List.replicate_succ, List.replicate_zero, Nat.reduceAdd, Nat.reduceSub, Nat.reduceLeDiff, Bool.false_eq_true, reduceIte, true_and, and_true, true_or, or_true, or_self, am_i32, am_i64, bz_0, bz_01, bz_em, bz_n0, Classical.not_not, am_cmp_lt0, am_cmp_gt0, am_cmp_eq0, am_cmp_ge0, am_cmp_le0, am_cmp_ne0]
        try simp only [Int.reduceEq, Int.reduceLT, Int.reduceLE, Int.reduceNeg, not_true_eq_false, not_false_eq_true, false_implies, true_implies, implies_true, true_and, and_true]
        refine ⟨fun z => by omega, fun _ => r_drops hP n2 (by omega) n1 (by omega) ?_⟩
        simp only [c_const, c_lconst, c_ref, c_iload, c_lload, c_aload, c_istore, c_lstore, c_astore, c_iinc, c_iadd, c_isub, c_imul, c_ladd, c_lsub, c_lmul, c_idiv, c_irem, c_ldiv, c_lrem, c_iand, c_ior, c_ixor, c_ishl, c_ishr, c_ineg, c_i2l, c_l2i, c_i2c, c_lcmp, c_dup, c_pop, c_dup2, c_at, c_icmp_eq, c_icmp_ne, c_icmp_lt, c_icmp_ge, c_icmp_gt, c_icmp_le, c_if_eq, c_if_ne, c_if_lt, c_if_ge, c_if_gt, c_if_le, c_ifnull, c_ifnonnull, am_swK, c_sw, c_iret, c_zret, c_cret, c_bret, c_lret, c_aret, c_vret, c_getI, c_getR, c_putI, c_putZ, c_putR, c_iald, c_zald, c_cald, c_lald, c_oald, c_gald, c_iast, c_zast, c_cast, c_last, c_oast, c_alen, c_callS0, c_callS1, c_callS2, c_callS3, c_callS4, c_callS5, c_callS6, c_callS7, c_callV0, c_callV1, c_callV2, c_callV3, c_callV4, c_callV5, c_callV6, c_callV7, c_callT0, c_callT1, am_nx_eq, am_set, am_set2, am_clr, am_isL, am_push, am_w, am_ent, am_ent1, List.getElem?_cons_zero, List.getElem?_cons_succ, List.set_cons_zero, List.set_cons_succ, List.getD_cons_zero, List.getD_cons_succ, List.cons_append, List.nil_append, List.append_nil, List.replicate_succ, List.replicate_zero, Nat.reduceAdd, Nat.reduceSub, Nat.reduceLeDiff, Bool.false_eq_true, reduceIte, true_and, and_true, true_or, or_true, or_self, am_i32, am_i64, bz_0, bz_01, bz_em, bz_n0, Classical.not_not, am_cmp_lt0, am_cmp_gt0, am_cmp_eq0, am_cmp_ge0, am_cmp_le0, am_cmp_ne0]
        exact go
      have lp2 : ∀ M2 pa, mK T n M2 (.inl r') → pT M M2 o 0 0 c us pa [] → am_Wp (d + 9) m_Md_test 0 0 110 [vR 137, x1, x2] [] (am_SH, M2) Q := by
        intro M2 pa k2 p2
        rcases p2.1 with rfl | rfl
        · exact fin M2 k2 p2
        · obtain ⟨c1, n1, n2, n3, n4, n5, n6, n7, n8, n9⟩ := p2.nn
          simp only [List.length_nil, List.length_cons] at n2 n5
          have n2 : M2 137 52 = 0 + 1 := by rw [n2]; rfl
          have dA := p2.dA n1 (by omega)
          exact any M2 c1 (0 + 1) k2 n2 (by decide) n1 (by omega) (fin _ k2.dr dA.2)
      rcases p1.2.1 with rfl | rfl
      · exact lp2 M1 pa k1 p1
      · obtain ⟨c1, n1, n2, n3, n4, n5, n6, n7, n8, n9, n10, n11⟩ := p1.nn
        simp only [List.length_nil, List.length_cons] at n2 n5
        have n2 : M1 137 52 = 0 + pa.length + 1 := by rw [n2]; omega
        have dM := p1.dM n1 (by omega)
        exact any M1 c1 (0 + pa.length + 1) k1 n2 (by omega) n1 (by omega) (lp2 _ pa k1.dr dM.2)
    · have hP := z.2.1
      have h5 : M' 137 5 ≠ 0 := by rw [z.2.2.2.1]; exact z.2.2.1
      refine B_Md_test_110 _ _ _ _ _ ?_
      simp only [b_Md_test_110, b_Md_test_131, kd_137, ln_138, ln_139, ln_140, ln_141, ln_142, ln_143, ln_144, ln_145, ln_146, ln_147, ln_148, ln_149, ln_150, ln_151, ln_152, ln_153, ln_154, ln_155, ln_156, ln_157, ln_158, ln_159, ln_160, ln_161, ln_162, ln_163, ln_164, ln_165, ln_166, ln_167, ln_168, ln_169, ln_170, ln_171, ln_172, ln_173, ln_174, ln_175, ln_176, ln_177, ln_178, ln_179, ln_180, ln_181, ln_182, ln_183, ln_184, ln_185, ln_186, ln_187, ln_188, ln_189, ln_190, ln_191, pm_0 hP, pm_9 hP, pm_10 hP, pm_11 hP, pm_12 hP, pm_13 hP, pm_14 hP, pm_15 hP, pm_16 hP, pm_17 hP, pm_18 hP, pm_19 hP, pm_20 hP, pm_21 hP, pm_22 hP, pm_23 hP, pm_24 hP, pm_25 hP, pm_26 hP, pm_27 hP, pm_28 hP, pm_29 hP, pm_30 hP, pm_31 hP, pm_32 hP, pm_33 hP, pm_34 hP, pm_36 hP, pm_37 hP, pm_38 hP, pm_39 hP, pm_40 hP, pm_41 hP, pm_42 hP, pm_43 hP, pm_44 hP, pm_45 hP, pm_46 hP, pm_47 hP, pm_48 hP, pm_49 hP, pm_51 hP, pm_64 hP, pm_66 hP, pm_69 hP, pm_72 hP, pm_73 hP, pm_74 hP, pm_75 hP, pm_76 hP, pm_77 hP, pm_78 hP, pm_79 hP, pm_83 hP, am_up_eq, Int.reduceEq, Int.reduceLT, Int.reduceLE, Int.reduceNeg, if_true, if_false, c_const, c_lconst, c_ref, c_iload, c_lload, c_aload, c_istore, c_lstore, c_astore, c_iinc, c_iadd, c_isub, c_imul, c_ladd, c_lsub, c_lmul, c_idiv, c_irem, c_ldiv, c_lrem, c_iand, c_ior, c_ixor, c_ishl, c_ishr, c_ineg, c_i2l, c_l2i, c_i2c, c_lcmp, c_dup, c_pop, c_dup2, c_at, c_icmp_eq, c_icmp_ne, c_icmp_lt, c_icmp_ge, c_icmp_gt, c_icmp_le, c_if_eq, c_if_ne, c_if_lt, c_if_ge, c_if_gt, c_if_le, c_ifnull, c_ifnonnull, am_swK, c_sw, c_iret, c_zret, c_cret, c_bret, c_lret, c_aret, c_vret, c_getI, c_getR, c_putI, c_putZ, c_putR, c_iald, c_zald, c_cald, c_lald, c_oald, c_gald, c_iast, c_zast, c_cast, c_last, c_oast, c_alen, c_callS0, c_callS1, c_callS2, c_callS3, c_callS4, c_callS5, c_callS6, c_callS7, c_callV0, c_callV1, c_callV2, c_callV3, c_callV4, c_callV5, c_callV6, c_callV7, c_callT0, c_callT1, am_nx_eq, am_set, am_set2, am_clr, am_isL, am_push, am_w, am_ent, am_ent1, List.getElem?_cons_zero, List.getElem?_cons_succ, List.set_cons_zero, List.set_cons_succ, List.getD_cons_zero, List.getD_cons_succ, List.cons_append, List.nil_append, List.append_nil, List.replicate_succ, List.replicate_zero, Nat.reduceAdd, Nat.reduceSub, Nat.reduceLeDiff, Bool.false_eq_true, reduceIte, true_and, and_true, true_or, or_true, or_self, am_i32, am_i64, bz_0, bz_01, bz_em, bz_n0, Classical.not_not, am_cmp_lt0, am_cmp_gt0, am_cmp_eq0, am_cmp_ge0, am_cmp_le0, am_cmp_ne0]
      exact ⟨fun _ => hfl f x e M' z, fun g => absurd g h5⟩
  refine am_go B_Md_test_0 rfl (Nat.le_of_ble_eq_true rfl) ?_
  simp only [b_Md_test_0, c_const, c_lconst, c_ref, c_iload, c_lload, c_aload, c_istore, c_lstore, c_astore, c_iinc, c_iadd, c_isub, c_imul, c_ladd, c_lsub, c_lmul, c_idiv, c_irem, c_ldiv, c_lrem, c_iand, c_ior, c_ixor, c_ishl, c_ishr, c_ineg, c_i2l, c_l2i, c_i2c, c_lcmp, c_dup, c_pop, c_dup2, c_at, c_icmp_eq, c_icmp_ne, c_icmp_lt, c_icmp_ge, c_icmp_gt, c_icmp_le, c_if_eq, c_if_ne, c_if_lt, c_if_ge, c_if_gt, c_if_le, c_ifnull, c_ifnonnull, am_swK, c_sw, c_iret, c_zret, c_cret, c_bret, c_lret, c_aret, c_vret, c_getI, c_getR, c_putI, c_putZ, c_putR, c_iald, c_zald, c_cald, c_lald, c_oald, c_gald, c_iast, c_zast, c_cast, c_last, c_oast, c_alen, c_callS0, c_callS1, c_callS2, c_callS3, c_callS4, c_callS5, c_callS6, c_callS7, c_callV0, c_callV1, c_callV2, c_callV3, c_callV4, c_callV5, c_callV6, c_callV7, c_callT0, c_callT1, am_nx_eq, am_set, am_set2, am_clr, am_isL, am_push, am_w, am_ent, am_ent1, List.getElem?_cons_zero, List.getElem?_cons_succ, List.set_cons_zero, List.set_cons_succ, List.getD_cons_zero, List.getD_cons_succ, List.cons_append, List.nil_append, List.append_nil, List.replicate_succ, List.replicate_zero, Nat.reduceAdd, Nat.reduceSub, Nat.reduceLeDiff, Bool.false_eq_true, reduceIte, true_and, and_true, true_or, or_true, or_self, am_i32, am_i64, bz_0, bz_01, bz_em, bz_n0, Classical.not_not, am_cmp_lt0, am_cmp_gt0, am_cmp_eq0, am_cmp_ge0, am_cmp_le0, am_cmp_ne0]
  exact main none
end
