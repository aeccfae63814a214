/-! what is read is in order -/
def xtl (B : Nat) : List Int → List Bool → List Bool → Prop
  | [], t, t' => t' = t
  | c :: cs, t, t' => t.length ≤ B ∧ ∃ t1, xty c t t1 ∧ xtl B cs t1 t'
theorem xtl_a {B : Nat} {ds : List Int} {t1 t2 : List Bool} (h2 : xtl B ds t1 t2) : ∀ {cs : List Int} {t : List Bool}, xtl B cs t t1 → xtl B (cs ++ ds) t t2
  | [], t, h => by rw [List.nil_append]; cases h; exact h2
  | c :: cs, t, ⟨a, t3, b, h⟩ => ⟨a, t3, b, xtl_a h2 h⟩
theorem xtl_1 {B : Nat} {c : Int} {t t1 : List Bool} (h : t.length ≤ B) (x : xty c t t1) : xtl B [c] t t1 := ⟨h, t1, x, rfl⟩
theorem xtl_f {B : Nat} {t' : List Bool} : ∀ {cs : List Int} {t : List Bool}, xtl B cs t t' → ∃ f : Nat → List Bool, f 0 = t ∧ f cs.length = t' ∧ ∀ i, i < cs.length → (f i).length ≤ B ∧ xty (cs.getD i 0) (f i) (f (i + 1))
  | [], t, h => ⟨fun _ => t, rfl, h.symm, fun i hi => by simp at hi⟩
  | c :: cs, t, ⟨a, t3, b, h⟩ => by
    obtain ⟨f, f0, f1, f2⟩ := xtl_f h
    refine ⟨fun i => match i with | 0 => t | i + 1 => f i, rfl, f1, fun i hi => ?_⟩
    cases i with
    | zero => exact ⟨a, by show xty c t (f 0); rw [f0]; exact b⟩
    | succ i => exact f2 i (by simp at hi; omega)
theorem xtl_c {cs : List Int} {c : Int → Int} {a b : Int} {top : Bool} (h : xtl 60 cs [] [top]) (hb : b = a + cs.length) (hc : ∀ i : Nat, i < cs.length → c (a + i) = cs.getD i 0) : xcode c a b top := by
  obtain ⟨f, f0, f1, f2⟩ := xtl_f h
  refine ⟨fun i => f (i - a).toNat, ?_, ?_, fun i i0 i1 => ?_⟩
  · show f (a - a).toNat = []
    rw [show (a - a).toNat = 0 by omega]; exact f0
  · show f (b - a).toNat = [top]
    rw [show (b - a).toNat = cs.length by omega]; exact f1
  · have := f2 (i - a).toNat (by omega)
    show (f (i - a).toNat).length ≤ 60 ∧ xty (c i) (f (i - a).toNat) (f (i + 1 - a).toNat)
    rw [show (i + 1 - a).toNat = (i - a).toNat + 1 by omega]
    have e := hc (i - a).toNat (by omega)
    rw [show a + (((i - a).toNat : Nat) : Int) = i by omega] at e
    rw [e]
    exact this
def bX9 (X : Nat) : Bool := decide (X = 1 ∨ X = 4 ∨ X = 5 ∨ X = 8 ∨ X = 9)
def e9o (o : Int) : Nat := 3 * (6 - o).toNat
def N9 (X : Nat) (o : Int) : Nat := e9o o + (if X = 0 then 0 else if X = 1 then 3 else if X = 2 ∨ X = 6 then 1 else if X = 3 ∨ X = 7 then 2 else if X = 4 ∨ X = 8 then 4 else 5)
theorem op9_t {T : Int → Int} {L : Nat} {r : tk9} {u : Int} (h : op9 T L r u) (t : List Bool) : xty (ct9 u) (bX9 (sb9L L) :: bX9 (sb9L L) :: t) (bX9 (sb9L L) :: t) ∧ tokR (ct9 u) u := by
  rcases h with ⟨rfl, ⟨-, rfl⟩ | ⟨-, rfl⟩⟩ | ⟨rfl, ⟨-, rfl⟩ | ⟨-, rfl⟩⟩ | ⟨rfl, -, rfl⟩ | ⟨rfl, -, rfl⟩
  · exact ⟨Or.inr (Or.inr (Or.inr (Or.inl ⟨by decide, by decide, t, rfl, rfl⟩))), by unfold tokR; decide⟩
  · exact ⟨Or.inr (Or.inr (Or.inr (Or.inl ⟨by decide, by decide, t, rfl, rfl⟩))), by unfold tokR; decide⟩
  · exact ⟨Or.inr (Or.inr (Or.inr (Or.inl ⟨by decide, by decide, t, rfl, rfl⟩))), by unfold tokR; decide⟩
  · exact ⟨Or.inr (Or.inr (Or.inr (Or.inl ⟨by decide, by decide, t, rfl, rfl⟩))), by unfold tokR; decide⟩
  · exact ⟨Or.inr (Or.inr (Or.inr (Or.inr (Or.inr ⟨by decide, t, rfl, rfl⟩)))), by unfold tokR; decide⟩
  · exact ⟨Or.inr (Or.inr (Or.inr (Or.inr (Or.inr ⟨by decide, t, rfl, rfl⟩)))), by unfold tokR; decide⟩
theorem cm9_t {T : Int → Int} {r : tk9} {u : Int} (h : cm9 T r u) (t : List Bool) : xty (ct9 u) (false :: false :: t) (true :: t) ∧ tokR (ct9 u) u := by
  rcases h with ⟨-, rfl⟩ | ⟨-, rfl⟩ | ⟨-, rfl⟩
  all_goals exact ⟨Or.inr (Or.inr (Or.inr (Or.inr (Or.inl ⟨by decide, by decide, t, rfl, rfl⟩)))), by unfold tokR; decide⟩
theorem kc9_t {q : Nat} (h : 12 ≤ q ∧ q ≤ 19) (t : List Bool) : xty (ct9 (kc9 q)) t (false :: t) ∧ tokR (ct9 (kc9 q)) (kc9 q) := by
  obtain rfl | rfl | rfl | rfl | rfl | rfl | rfl | rfl : q = 12 ∨ q = 13 ∨ q = 14 ∨ q = 15 ∨ q = 16 ∨ q = 17 ∨ q = 18 ∨ q = 19 := by omega
  all_goals exact ⟨Or.inr (Or.inl ⟨by decide, by decide, rfl⟩), by unfold tokR; decide⟩
def ty9 (X : Nat) (o : Int) (us : List Int) : Prop := (∀ t : List Bool, t.length + N9 X o ≤ 50 → xtl 60 (us.map ct9) (if 6 ≤ X then bX9 X :: t else t) (bX9 X :: t)) ∧ ∀ u ∈ us, tokR (ct9 u) u
theorem RD.ty {T : Int → Int} {n : Int} {X : Nat} {o : Int} {r : tk9} {out : ou9} (h : RD T n X o r out) : ∀ r' us, out = ok9 r' us → ty9 X o us := by
  refine RD.ind (P := fun X o r out => ∀ r' us, out = ok9 r' us → ty9 X o us) ?_ h
  clear h X o r out
  intro X o r out h r' us e
  subst e
  rcases h with ⟨rfl, h⟩ | ⟨rfl, h⟩ | ⟨L, l, rfl, h⟩ | ⟨L, l, rfl, h⟩
  · rcases h with ⟨q, hq, a, r1, b, c⟩ | ⟨a, h⟩ | ⟨q, u, hu, b, r1, c, h⟩ | ⟨-, h⟩
    · cases c
      refine ⟨fun t ht => xtl_1 (by show t.length ≤ 60; omega) (kc9_t hq t).1, fun u hu => ?_⟩
      rw [List.mem_singleton] at hu
      rw [hu]; exact (kc9_t hq []).2
    · rcases h with ⟨-, h⟩ | ⟨ho, r1, b, h⟩
      · cases h
      rcases h with ⟨r2, us2, ⟨-, i⟩, h⟩ | ⟨f, x, -, h⟩
      · have n2 := i r2 us2 rfl
        rcases h with ⟨c, r3, d, h⟩ | ⟨-, h⟩
        · cases h
          refine ⟨fun t ht => n2.1 t ?_, n2.2⟩
          unfold N9 e9o at *
          simp only [Nat.reduceEqDiff, reduceIte, or_self, or_true, true_or, or_false, false_or] at *
          omega
        · cases h
      · cases h
    · rcases h with ⟨-, h⟩ | ⟨d, h⟩
      · cases h
      rcases h with ⟨-, h⟩ | ⟨ho, r2, e, h⟩
      · cases h
      rcases h with ⟨r3, us3, ⟨-, i⟩, h⟩ | ⟨f, x, -, h⟩
      · have n3 := i r3 us3 rfl
        rcases h with ⟨c3, r4, d4, h⟩ | ⟨-, h⟩
        · rcases h with ⟨r5, us5, ⟨-, i5⟩, h⟩ | ⟨f, x, -, h⟩
          · have n5 := i5 r5 us5 rfl
            rcases h with ⟨c5, r6, d6, h⟩ | ⟨-, h⟩
            · cases h
              have cu : ∀ t, xty (ct9 u) (false :: false :: t) (false :: t) ∧ tokR (ct9 u) u := by
                intro t
                rcases hu with ⟨-, rfl⟩ | ⟨-, rfl⟩
                all_goals exact ⟨Or.inr (Or.inr (Or.inr (Or.inl ⟨by decide, by decide, t, rfl, rfl⟩))), by unfold tokR; decide⟩
              refine ⟨fun t ht => ?_, fun v hv => ?_⟩
              · have ht2 : t.length + 1 + N9 3 (o + 1) ≤ 50 := by
                  unfold N9 e9o at *
                  simp only [Nat.reduceEqDiff, reduceIte, or_self, or_true, true_or, or_false, false_or] at *
                  omega
                rw [List.map_append, List.map_append]
                refine xtl_a (t1 := false :: false :: t) (xtl_1 (by simp only [List.length_cons]; omega) (cu t).1) (xtl_a (n5.1 (false :: t) (by simp only [List.length_cons]; omega)) (n3.1 t (by omega)))
              · rw [List.mem_append, List.mem_append, List.mem_singleton] at hv
                rcases hv with (hv | hv) | hv
                · exact n3.2 v hv
                · exact n5.2 v hv
                · rw [hv]; exact (cu []).2
            · cases h
          · cases h
        · cases h
      · cases h
    · rcases h with ⟨-, h⟩ | ⟨-, -, h⟩ | ⟨-, -, -, h⟩ | ⟨a, -, rg, r1, b, h⟩
      · cases h
      · cases h
      · cases h
      · cases h
        have cn := (ct9_n rg.1).1
        refine ⟨fun t ht => xtl_1 (by show t.length ≤ 60; omega) (Or.inl ⟨by rw [← cn]; exact rg.1, by rw [← cn]; exact rg.2, Or.inl rfl⟩), fun u hu => ?_⟩
        rw [List.mem_singleton] at hu
        rw [hu, ← cn]; exact Or.inl ⟨rg.1, rg.2, rfl⟩
  · rcases h with ⟨a, h⟩ | ⟨a, h⟩ | ⟨a, r1, b, h⟩ | ⟨-, -, -, h⟩
    · rcases h with ⟨-, h⟩ | ⟨ho, r1, b, h⟩
      · cases h
      rcases h with ⟨r2, us2, ⟨-, i⟩, h⟩ | ⟨f, x, -, h⟩
      · cases h
        have n2 := i _ _ rfl
        refine ⟨fun t ht => ?_, fun v hv => ?_⟩
        · have ht2 : t.length + N9 1 (o + 1) ≤ 50 ∧ t.length ≤ 50 := by
            unfold N9 e9o at *
            simp only [Nat.reduceEqDiff, reduceIte, or_self, or_true, true_or, or_false, false_or] at *
            omega
          rw [List.map_append]
          exact xtl_a (t1 := true :: t) (xtl_1 (by simp only [List.length_cons]; omega) (Or.inr (Or.inr (Or.inl ⟨by decide, t, rfl, rfl⟩)))) (n2.1 t ht2.1)
        · rw [List.mem_append, List.mem_singleton] at hv
          rcases hv with hv | hv
          · exact n2.2 v hv
          · rw [hv]; unfold tokR; decide
      · cases h
    · rcases h with ⟨-, h⟩ | ⟨ho, r1, b, h⟩
      · cases h
      rcases h with ⟨r2, us2, ⟨-, i⟩, h⟩ | ⟨f, x, -, h⟩
      · have n2 := i r2 us2 rfl
        rcases h with ⟨c, r3, d, h⟩ | ⟨-, h⟩
        · cases h
          refine ⟨fun t ht => n2.1 t ?_, n2.2⟩
          unfold N9 e9o at *
          simp only [Nat.reduceEqDiff, reduceIte, or_self, or_true, true_or, or_false, false_or] at *
          omega
        · cases h
      · cases h
    · cases h
      refine ⟨fun t ht => xtl_1 (by show t.length ≤ 60; omega) (Or.inl ⟨by decide, by decide, Or.inr ⟨by decide, rfl⟩⟩), fun u hu => ?_⟩
      rw [List.mem_singleton] at hu
      rw [hu]; unfold tokR; decide
    · rcases h with ⟨r1, us1, ⟨-, i⟩, h⟩ | ⟨f, x, -, h⟩
      · have n1 := i _ _ rfl
        rcases h with ⟨u, a, r2, b, h⟩ | ⟨-, h⟩
        · rcases h with ⟨r3, us3, ⟨-, i3⟩, h⟩ | ⟨f, x, -, h⟩
          · cases h
            have n3 := i3 _ _ rfl
            refine ⟨fun t ht => ?_, fun v hv => ?_⟩
            · have ht2 : t.length + 1 + N9 3 o ≤ 50 := by
                unfold N9 e9o at *
                simp only [Nat.reduceEqDiff, reduceIte, or_self, or_true, true_or, or_false, false_or] at *
                omega
              rw [List.map_append, List.map_append]
              exact xtl_a (t1 := false :: false :: t) (xtl_1 (by simp only [List.length_cons]; omega) (cm9_t a t).1) (xtl_a (n3.1 (false :: t) (by simp only [List.length_cons]; omega)) (n1.1 t (by omega)))
            · rw [List.mem_append, List.mem_append, List.mem_singleton] at hv
              rcases hv with (hv | hv) | hv
              · exact n1.2 v hv
              · exact n3.2 v hv
              · rw [hv]; exact (cm9_t a []).2
          · cases h
        · cases h
      · cases h
  · have eb : bX9 (2 + L) = bX9 (sb9L L) ∧ bX9 (6 + L) = bX9 (sb9L L) ∧ N9 (sb9L L) o + 1 = N9 (2 + L) o ∧ N9 (6 + L) o = N9 (2 + L) o ∧ ¬ 6 ≤ sb9L L := by
      obtain rfl | rfl | rfl | rfl : L = 0 ∨ L = 1 ∨ L = 2 ∨ L = 3 := by omega
      all_goals exact ⟨rfl, rfl, rfl, rfl, by decide⟩
    rcases h with ⟨r1, us1, ⟨-, i⟩, h⟩ | ⟨f, x, -, h⟩
    · have n1 := i _ _ rfl
      rcases h with ⟨r2, us2, ⟨-, i2⟩, h⟩ | ⟨f, x, -, h⟩
      · cases h
        have n2 := i2 _ _ rfl
        refine ⟨fun t ht => ?_, fun v hv => ?_⟩
        · rw [List.map_append, if_neg (by omega), eb.1]
          have a1 := n1.1 t (by omega)
          have a2 := n2.1 t (by omega)
          rw [if_neg eb.2.2.2.2] at a1
          rw [if_pos (by omega), eb.2.1] at a2
          exact xtl_a a2 a1
        · rw [List.mem_append] at hv
          rcases hv with hv | hv
          · exact n1.2 v hv
          · exact n2.2 v hv
      · cases h
    · cases h
  · have eb : bX9 (6 + L) = bX9 (sb9L L) ∧ N9 (sb9L L) o + 1 = N9 (6 + L) o ∧ ¬ 6 ≤ sb9L L := by
      obtain rfl | rfl | rfl | rfl : L = 0 ∨ L = 1 ∨ L = 2 ∨ L = 3 := by omega
      all_goals exact ⟨rfl, rfl, by decide⟩
    rcases h with ⟨-, h⟩ | ⟨u, a, r1, b, h⟩
    · cases h
      refine ⟨fun t ht => ?_, fun v hv => by simp at hv⟩
      rw [if_pos (by omega)]
      rfl
    · rcases h with ⟨r2, us2, ⟨-, i⟩, h⟩ | ⟨f, x, -, h⟩
      · have n2 := i _ _ rfl
        rcases h with ⟨r3, us3, ⟨-, i3⟩, h⟩ | ⟨f, x, -, h⟩
        · cases h
          have n3 := i3 _ _ rfl
          refine ⟨fun t ht => ?_, fun v hv => ?_⟩
          · rw [List.map_append, List.map_append, if_pos (by omega), eb.1]
            have a2 := n2.1 (bX9 (sb9L L) :: t) (by simp only [List.length_cons]; omega)
            have a3 := n3.1 t ht
            rw [if_neg eb.2.2] at a2
            rw [if_pos (by omega), eb.1] at a3
            exact xtl_a a3 (xtl_a (t1 := bX9 (sb9L L) :: bX9 (sb9L L) :: t) (xtl_1 (by simp only [List.length_cons]; omega) (op9_t a t).1) a2)
          · rw [List.mem_append, List.mem_append, List.mem_singleton] at hv
            rcases hv with (hv | hv) | hv
            · exact n2.2 v hv
            · rw [hv]; exact (op9_t a []).2
            · exact n3.2 v hv
        · cases h
      · cases h
