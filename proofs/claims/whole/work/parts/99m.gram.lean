/-! reading: pieces, outcomes, rules -/
abbrev tk9 : Type := Int × Int × Int
abbrev ou9 : Type := (tk9 × List Int) ⊕ (Int × Int)
abbrev ok9 (r : tk9) (us : List Int) : ou9 := .inl (r, us)
abbrev fl9 (f x : Int) : ou9 := .inr (f, x)
/-- the piece behind r is r' -/
def nx9 (T : Int → Int) (n : Int) (r r' : tk9) : Prop := advR T n r.1 r.2.2 r'.1 r'.2.1 r'.2.2
def sg9 (T : Int → Int) (r : tk9) (c : Int) : Prop := r.1 = 3 ∧ T r.2.1 = c
def wd9 (T : Int → Int) (q : Nat) (r : tk9) : Prop := r.1 = 1 ∧ wdE T q r.2.1 r.2.2
def tkW (n : Int) (r : tk9) : Prop := (0 ≤ r.2.1 ∧ r.2.1 ≤ r.2.2 ∧ r.2.2 ≤ n) ∧ (r.1 ≠ 0 → r.2.1 < r.2.2) ∧ (0 ≤ r.1 ∧ r.1 ≤ 4)
/-- what a word that names a value comes to -/
def kc9 (q : Nat) : Int := if q = 12 then 7 else if q = 13 then 8 else if q = 14 then 9 else if q = 15 then 10 else if q = 16 then 18 else if q = 17 then 30 else if q = 18 then 31 else 32
/-- a number's worth -/
def vn9 (T : Int → Int) (a : Int) : Nat → Int
  | 0 => 0
  | k + 1 => 10 * vn9 T a k + T (a + k) - 48
def nv9 (T : Int → Int) (r : tk9) : Int := vn9 T r.2.1 (r.2.2 - r.2.1).toNat
def bd9 (P : ou9 → Prop) (K : tk9 → List Int → Prop) (out : ou9) : Prop := (∃ r us, P (ok9 r us) ∧ K r us) ∨ ∃ f x, P (fl9 f x) ∧ out = fl9 f x
def psg9 (T : Int → Int) (n c : Int) (r : tk9) (out : ou9) (K : tk9 → Prop) : Prop := (sg9 T r c ∧ ∃ r', nx9 T n r r' ∧ K r') ∨ (¬ sg9 T r c ∧ out = fl9 1 r.2.1)
def opn9 (T : Int → Int) (n o : Int) (r : tk9) (out : ou9) (K : tk9 → Prop) : Prop := (6 ≤ o ∧ out = fl9 4 r.2.1) ∨ (o < 6 ∧ ∃ r', nx9 T n r r' ∧ K r')
/-- none of what a part may begin with but a number -/
def ot9 (T : Int → Int) (r : tk9) : Prop := (∀ q, 12 ≤ q → q ≤ 21 → ¬ wd9 T q r) ∧ ¬ sg9 T r 40
def nm9 (T : Int → Int) (n lo hi : Int) (r : tk9) (out : ou9) (K : Int → tk9 → Prop) : Prop := (r.1 ≠ 2 ∧ out = fl9 1 r.2.1) ∨ (r.1 = 2 ∧ 4 < r.2.2 - r.2.1 ∧ out = fl9 1 (r.2.1 + 4)) ∨ (r.1 = 2 ∧ r.2.2 - r.2.1 ≤ 4 ∧ ¬ (lo ≤ nv9 T r ∧ nv9 T r ≤ hi) ∧ out = fl9 2 r.2.1) ∨ (r.1 = 2 ∧ r.2.2 - r.2.1 ≤ 4 ∧ (lo ≤ nv9 T r ∧ nv9 T r ≤ hi) ∧ ∃ r', nx9 T n r r' ∧ K (nv9 T r) r')
/-- the sign or word that joins, by level: 0 * /, 1 + -, 2 and, 3 or -/
def op9 (T : Int → Int) (L : Nat) (r : tk9) (u : Int) : Prop := (L = 0 ∧ ((sg9 T r 42 ∧ u = 3) ∨ (sg9 T r 47 ∧ u = 4))) ∨ (L = 1 ∧ ((sg9 T r 43 ∧ u = 1) ∨ (sg9 T r 45 ∧ u = 2))) ∨ (L = 2 ∧ wd9 T 25 r ∧ u = 14) ∨ (L = 3 ∧ wd9 T 26 r ∧ u = 15)
def sb9L (L : Nat) : Nat := if L = 0 then 0 else if L = 1 then 2 else if L = 2 then 1 else 4
/-- what a fact's sign comes to -/
def cm9 (T : Int → Int) (r : tk9) (u : Int) : Prop := (sg9 T r 60 ∧ u = 11) ∨ (sg9 T r 62 ∧ u = 12) ∨ (sg9 T r 61 ∧ u = 13)
/-- one rule: 0 a part, 1 a fact, 2 + L what level L joins, 6 + L what goes on behind -/
def st9 (T : Int → Int) (n : Int) (R : Nat → Int → tk9 → ou9 → Prop) (X : Nat) (o : Int) (r : tk9) (out : ou9) : Prop :=
  (X = 0 ∧ ((∃ q, (12 ≤ q ∧ q ≤ 19) ∧ wd9 T q r ∧ ∃ r', nx9 T n r r' ∧ out = ok9 r' [kc9 q]) ∨
    (sg9 T r 40 ∧ opn9 T n o r out (fun r1 => bd9 (R 3 (o + 1) r1) (fun r2 us => psg9 T n 41 r2 out (fun r3 => out = ok9 r3 us)) out)) ∨
    (∃ q u, ((q = 20 ∧ u = 5) ∨ (q = 21 ∧ u = 6)) ∧ wd9 T q r ∧ ∃ r1, nx9 T n r r1 ∧ ((¬ sg9 T r1 40 ∧ out = fl9 1 r1.2.1) ∨ (sg9 T r1 40 ∧ opn9 T n o r1 out (fun r2 => bd9 (R 3 (o + 1) r2) (fun r3 us => psg9 T n 44 r3 out (fun r4 => bd9 (R 3 (o + 1) r4) (fun r5 vs => psg9 T n 41 r5 out (fun r6 => out = ok9 r6 (us ++ vs ++ [u]))) out)) out)))) ∨
    (ot9 T r ∧ nm9 T n 0 9999 r out (fun v r' => out = ok9 r' [1000 + v])))) ∨
  (X = 1 ∧ ((wd9 T 23 r ∧ opn9 T n o r out (fun r1 => bd9 (R 1 (o + 1) r1) (fun r2 us => out = ok9 r2 (us ++ [16])) out)) ∨
    (sg9 T r 91 ∧ opn9 T n o r out (fun r1 => bd9 (R 5 (o + 1) r1) (fun r2 us => psg9 T n 93 r2 out (fun r3 => out = ok9 r3 us)) out)) ∨
    (wd9 T 24 r ∧ ∃ r1, nx9 T n r r1 ∧ out = ok9 r1 [17]) ∨
    (¬ wd9 T 23 r ∧ ¬ sg9 T r 91 ∧ ¬ wd9 T 24 r ∧ bd9 (R 3 o r) (fun r1 us => (∃ u, cm9 T r1 u ∧ ∃ r2, nx9 T n r1 r2 ∧ bd9 (R 3 o r2) (fun r3 vs => out = ok9 r3 (us ++ vs ++ [u])) out) ∨ ((∀ u, ¬ cm9 T r1 u) ∧ out = fl9 1 r1.2.1)) out))) ∨
  (∃ L, L ≤ 3 ∧ X = 2 + L ∧ bd9 (R (sb9L L) o r) (fun r1 us => bd9 (R (6 + L) o r1) (fun r2 vs => out = ok9 r2 (us ++ vs)) out) out) ∨
  (∃ L, L ≤ 3 ∧ X = 6 + L ∧ (((∀ u, ¬ op9 T L r u) ∧ out = ok9 r []) ∨ ∃ u, op9 T L r u ∧ ∃ r1, nx9 T n r r1 ∧ bd9 (R (sb9L L) o r1) (fun r2 us => bd9 (R (6 + L) o r2) (fun r3 vs => out = ok9 r3 (us ++ [u] ++ vs)) out) out))
def RD (T : Int → Int) (n : Int) (X : Nat) (o : Int) (r : tk9) (out : ou9) : Prop := ∀ R : Nat → Int → tk9 → ou9 → Prop, (∀ X o r out, st9 T n R X o r out → R X o r out) → R X o r out
theorem bd9_m {P P' : ou9 → Prop} {K K' : tk9 → List Int → Prop} {out : ou9} (h : bd9 P K out) (hP : ∀ z, P z → P' z) (hK : ∀ r us, K r us → K' r us) : bd9 P' K' out := by
  rcases h with ⟨r, us, a, b⟩ | ⟨f, x, a, b⟩
  · exact Or.inl ⟨r, us, hP _ a, hK _ _ b⟩
  · exact Or.inr ⟨f, x, hP _ a, b⟩
theorem psg9_m {T : Int → Int} {n c : Int} {r : tk9} {out : ou9} {K K' : tk9 → Prop} (h : psg9 T n c r out K) (hK : ∀ r, K r → K' r) : psg9 T n c r out K' := by
  rcases h with ⟨a, r', b, c⟩ | h
  · exact Or.inl ⟨a, r', b, hK _ c⟩
  · exact Or.inr h
theorem opn9_m {T : Int → Int} {n o : Int} {r : tk9} {out : ou9} {K K' : tk9 → Prop} (h : opn9 T n o r out K) (hK : ∀ r, K r → K' r) : opn9 T n o r out K' := by
  rcases h with h | ⟨a, r', b, c⟩
  · exact Or.inl h
  · exact Or.inr ⟨a, r', b, hK _ c⟩
theorem st9_m {T : Int → Int} {n : Int} {R R' : Nat → Int → tk9 → ou9 → Prop} (hR : ∀ X o r out, R X o r out → R' X o r out) {X : Nat} {o : Int} {r : tk9} {out : ou9} (h : st9 T n R X o r out) : st9 T n R' X o r out := by
  rcases h with ⟨x, h⟩ | ⟨x, h⟩ | ⟨L, l, x, h⟩ | ⟨L, l, x, h⟩
  · refine Or.inl ⟨x, ?_⟩
    rcases h with h | ⟨a, h⟩ | ⟨q, u, a, b, r1, c, h⟩ | h
    · exact Or.inl h
    · exact Or.inr (Or.inl ⟨a, opn9_m h (fun _ z => bd9_m z (fun _ => hR _ _ _ _) (fun _ _ z => z))⟩)
    · refine Or.inr (Or.inr (Or.inl ⟨q, u, a, b, r1, c, ?_⟩))
      rcases h with h | ⟨d, h⟩
      · exact Or.inl h
      · exact Or.inr ⟨d, opn9_m h (fun _ z => bd9_m z (fun _ => hR _ _ _ _) (fun _ _ z => psg9_m z (fun _ z => bd9_m z (fun _ => hR _ _ _ _) (fun _ _ z => z))))⟩
    · exact Or.inr (Or.inr (Or.inr h))
  · refine Or.inr (Or.inl ⟨x, ?_⟩)
    rcases h with ⟨a, h⟩ | ⟨a, h⟩ | h | ⟨a, b, c, h⟩
    · exact Or.inl ⟨a, opn9_m h (fun _ z => bd9_m z (fun _ => hR _ _ _ _) (fun _ _ z => z))⟩
    · exact Or.inr (Or.inl ⟨a, opn9_m h (fun _ z => bd9_m z (fun _ => hR _ _ _ _) (fun _ _ z => z))⟩)
    · exact Or.inr (Or.inr (Or.inl h))
    · refine Or.inr (Or.inr (Or.inr ⟨a, b, c, bd9_m h (fun _ => hR _ _ _ _) (fun r1 us z => ?_)⟩))
      rcases z with ⟨u, d, r2, e, z⟩ | z
      · exact Or.inl ⟨u, d, r2, e, bd9_m z (fun _ => hR _ _ _ _) (fun _ _ z => z)⟩
      · exact Or.inr z
  · exact Or.inr (Or.inr (Or.inl ⟨L, l, x, bd9_m h (fun _ => hR _ _ _ _) (fun _ _ z => bd9_m z (fun _ => hR _ _ _ _) (fun _ _ z => z))⟩))
  · refine Or.inr (Or.inr (Or.inr ⟨L, l, x, ?_⟩))
    rcases h with h | ⟨u, a, r1, b, h⟩
    · exact Or.inl h
    · exact Or.inr ⟨u, a, r1, b, bd9_m h (fun _ => hR _ _ _ _) (fun _ _ z => bd9_m z (fun _ => hR _ _ _ _) (fun _ _ z => z))⟩
theorem RD.mk {T : Int → Int} {n : Int} {X : Nat} {o : Int} {r : tk9} {out : ou9} (h : st9 T n (RD T n) X o r out) : RD T n X o r out := fun R hR => hR _ _ _ _ (st9_m (fun _ _ _ _ z => z R hR) h)
/-- the rule of induction; at each rule the pieces are also read -/
theorem RD.ind {T : Int → Int} {n : Int} {P : Nat → Int → tk9 → ou9 → Prop} (hP : ∀ X o r out, st9 T n (fun X o r out => RD T n X o r out ∧ P X o r out) X o r out → P X o r out) {X : Nat} {o : Int} {r : tk9} {out : ou9} (h : RD T n X o r out) : P X o r out :=
  (h (fun X o r out => RD T n X o r out ∧ P X o r out) (fun X o r out z => ⟨RD.mk (st9_m (fun _ _ _ _ w => w.1) z), hP X o r out z⟩)).2
theorem nx9_W {T : Int → Int} {n : Int} {r r' : tk9} (h : nx9 T n r r') (h0 : 0 ≤ r.2.2) : tkW n r' ∧ r.2.2 ≤ r'.2.1 := by
  obtain ⟨⟨⟨b1, b2⟩, _⟩, e, ⟨⟨l1, l2⟩, _⟩, c⟩ := h
  unfold tkW
  rcases c with ⟨c1, c2, c3⟩ | ⟨c1, e2, ⟨⟨d1, d2⟩, _⟩, ⟨c2, c3, c4⟩ | ⟨c2, c3, c4, c5⟩ | ⟨c2, c3, c4, c5⟩⟩
  · rw [c3, c2]; refine ⟨⟨⟨by omega, by omega, by omega⟩, fun _ => c1, ?_⟩, b1⟩; split <;> omega
  · rw [c4, c3]; refine ⟨⟨⟨by omega, by omega, by omega⟩, fun _ => c2, ?_⟩, b1⟩; split <;> omega
  · rw [c4, c5]; exact ⟨⟨⟨by omega, by omega, by omega⟩, fun _ => by omega, by omega⟩, b1⟩
  · rw [c4, c5]; exact ⟨⟨⟨by omega, by omega, by omega⟩, fun z => absurd rfl z, by omega⟩, b1⟩
/-- behind a piece that is not the end the next one begins later -/
theorem nx9_s {T : Int → Int} {n : Int} {r r' : tk9} (h : nx9 T n r r') (h0 : tkW n r) (hk : r.1 ≠ 0) : tkW n r' ∧ r.2.1 + 1 ≤ r'.2.1 := by
  have a := nx9_W h (by have := h0.1; omega)
  have b := h0.2.1 hk
  exact ⟨a.1, by omega⟩
theorem sg9_k {T : Int → Int} {r : tk9} {c : Int} (h : sg9 T r c) : r.1 ≠ 0 := by have := h.1; omega
theorem wd9_k {T : Int → Int} {r : tk9} {q : Nat} (h : wd9 T q r) : r.1 ≠ 0 := by have := h.1; omega
theorem op9_k {T : Int → Int} {r : tk9} {L : Nat} {u : Int} (h : op9 T L r u) : r.1 ≠ 0 := by
  rcases h with ⟨-, ⟨h, -⟩ | ⟨h, -⟩⟩ | ⟨-, ⟨h, -⟩ | ⟨h, -⟩⟩ | ⟨-, h, -⟩ | ⟨-, h, -⟩
  all_goals first | exact sg9_k h | exact wd9_k h
theorem cm9_k {T : Int → Int} {r : tk9} {u : Int} (h : cm9 T r u) : r.1 ≠ 0 := by
  rcases h with ⟨h, -⟩ | ⟨h, -⟩ | ⟨h, -⟩ <;> exact sg9_k h
/-- what is read is no shorter than what comes of it -/
theorem RD.len {T : Int → Int} {n : Int} {X : Nat} {o : Int} {r : tk9} {out : ou9} (h : RD T n X o r out) : ∀ r' us, out = ok9 r' us → tkW n r → tkW n r' ∧ r.2.1 + us.length ≤ r'.2.1 := by
  refine RD.ind (P := fun X o r out => ∀ r' us, out = ok9 r' us → tkW n r → tkW n r' ∧ r.2.1 + us.length ≤ r'.2.1) ?_ h
  clear h X o r out
  intro X o r out h r' us e hW
  subst e
  rcases h with ⟨-, h⟩ | ⟨-, h⟩ | ⟨L, l, -, h⟩ | ⟨L, l, -, h⟩
  · rcases h with ⟨q, -, a, r1, b, c⟩ | ⟨a, h⟩ | ⟨q, u, -, b, r1, c, h⟩ | ⟨-, h⟩
    · cases c
      have := nx9_s b hW (wd9_k a)
      exact ⟨this.1, by simp only [List.length_cons, List.length_nil]; omega⟩
    · rcases h with ⟨-, h⟩ | ⟨-, r1, b, h⟩
      · cases h
      have n1 := nx9_s b hW (sg9_k a)
      rcases h with ⟨r2, us2, ⟨-, i⟩, h⟩ | ⟨f, x, -, h⟩
      · have n2 := i r2 us2 rfl n1.1
        rcases h with ⟨c, r3, d, h⟩ | ⟨-, h⟩
        · cases h
          have n3 := nx9_s d n2.1 (sg9_k c)
          exact ⟨n3.1, by omega⟩
        · cases h
      · cases h
    · have n1 := nx9_s c hW (wd9_k b)
      rcases h with ⟨-, h⟩ | ⟨d, h⟩
      · cases h
      rcases h with ⟨-, h⟩ | ⟨-, r2, e, h⟩
      · cases h
      have n2 := nx9_s e n1.1 (sg9_k d)
      rcases h with ⟨r3, us3, ⟨-, i⟩, h⟩ | ⟨f, x, -, h⟩
      · have n3 := i r3 us3 rfl n2.1
        rcases h with ⟨c3, r4, d4, h⟩ | ⟨-, h⟩
        · have n4 := nx9_s d4 n3.1 (sg9_k c3)
          rcases h with ⟨r5, us5, ⟨-, i5⟩, h⟩ | ⟨f, x, -, h⟩
          · have n5 := i5 r5 us5 rfl n4.1
            rcases h with ⟨c5, r6, d6, h⟩ | ⟨-, h⟩
            · cases h
              have n6 := nx9_s d6 n5.1 (sg9_k c5)
              exact ⟨n6.1, by simp only [List.length_append, List.length_cons, List.length_nil]; omega⟩
            · cases h
          · cases h
        · cases h
      · cases h
    · rcases h with ⟨-, h⟩ | ⟨-, -, h⟩ | ⟨-, -, -, h⟩ | ⟨a, -, -, r1, b, h⟩
      · cases h
      · cases h
      · cases h
      · cases h
        have := nx9_s b hW (by omega)
        exact ⟨this.1, by simp only [List.length_cons, List.length_nil]; omega⟩
  · rcases h with ⟨a, h⟩ | ⟨a, h⟩ | ⟨a, r1, b, h⟩ | ⟨-, -, -, h⟩
    · rcases h with ⟨-, h⟩ | ⟨-, r1, b, h⟩
      · cases h
      have n1 := nx9_s b hW (wd9_k a)
      rcases h with ⟨r2, us2, ⟨-, i⟩, h⟩ | ⟨f, x, -, h⟩
      · cases h
        have n2 := i _ _ rfl n1.1
        exact ⟨n2.1, by simp only [List.length_append, List.length_cons, List.length_nil]; omega⟩
      · cases h
    · rcases h with ⟨-, h⟩ | ⟨-, r1, b, h⟩
      · cases h
      have n1 := nx9_s b hW (sg9_k a)
      rcases h with ⟨r2, us2, ⟨-, i⟩, h⟩ | ⟨f, x, -, h⟩
      · have n2 := i r2 us2 rfl n1.1
        rcases h with ⟨c, r3, d, h⟩ | ⟨-, h⟩
        · cases h
          have n3 := nx9_s d n2.1 (sg9_k c)
          exact ⟨n3.1, by omega⟩
        · cases h
      · cases h
    · cases h
      have := nx9_s b hW (wd9_k a)
      exact ⟨this.1, by simp only [List.length_cons, List.length_nil]; omega⟩
    · rcases h with ⟨r1, us1, ⟨-, i⟩, h⟩ | ⟨f, x, -, h⟩
      · have n1 := i _ _ rfl hW
        rcases h with ⟨u, a, r2, b, h⟩ | ⟨-, h⟩
        · have n2 := nx9_s b n1.1 (cm9_k a)
          rcases h with ⟨r3, us3, ⟨-, i3⟩, h⟩ | ⟨f, x, -, h⟩
          · cases h
            have n3 := i3 _ _ rfl n2.1
            exact ⟨n3.1, by simp only [List.length_append, List.length_cons, List.length_nil]; omega⟩
          · cases h
        · cases h
      · cases h
  · rcases h with ⟨r1, us1, ⟨-, i⟩, h⟩ | ⟨f, x, -, h⟩
    · have n1 := i _ _ rfl hW
      rcases h with ⟨r2, us2, ⟨-, i2⟩, h⟩ | ⟨f, x, -, h⟩
      · cases h
        have n2 := i2 _ _ rfl n1.1
        exact ⟨n2.1, by simp only [List.length_append]; omega⟩
      · cases h
    · cases h
  · rcases h with ⟨-, h⟩ | ⟨u, a, r1, b, h⟩
    · cases h
      exact ⟨hW, by simp only [List.length_nil]; omega⟩
    · have n1 := nx9_s b hW (op9_k a)
      rcases h with ⟨r2, us2, ⟨-, i⟩, h⟩ | ⟨f, x, -, h⟩
      · have n2 := i _ _ rfl n1.1
        rcases h with ⟨r3, us3, ⟨-, i3⟩, h⟩ | ⟨f, x, -, h⟩
        · cases h
          have n3 := i3 _ _ rfl n2.1
          exact ⟨n3.1, by simp only [List.length_append, List.length_cons, List.length_nil]; omega⟩
        · cases h
      · cases h
