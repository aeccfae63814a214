/-! names; the steps of a statement -/
/-- where a word of the own words begins -/
def pw9 : Nat → Nat
  | 0 => 0
  | i + 1 => if sb9 1 i = 32 then i + 1 else pw9 i
theorem pw9_le : ∀ i, pw9 i ≤ i
  | 0 => Nat.le_refl _
  | i + 1 => by unfold pw9; have := pw9_le i; split <;> omega
theorem ow_a : ∀ i : Fin 135, 1 ≤ i.val → sb9 1 (i.val : Int) = 32 → ∃ q : Fin 27, q.val ≠ 1 ∧ sl9 q.val = (i.val : Int) - (pw9 i.val : Int) ∧ ∀ j : Fin 8, (j.val : Int) < sl9 q.val → sb9 q.val (j.val : Int) = sb9 1 ((pw9 i.val : Int) + (j.val : Int)) := by decide +kernel
theorem ow_b : ∀ q : Fin 27, q.val ≠ 1 → ∃ i : Fin 135, 1 ≤ i.val ∧ sb9 1 (i.val : Int) = 32 ∧ sl9 q.val = (i.val : Int) - (pw9 i.val : Int) ∧ ∀ j : Fin 8, (j.val : Int) < sl9 q.val → sb9 q.val (j.val : Int) = sb9 1 ((pw9 i.val : Int) + (j.val : Int)) := by decide +kernel
theorem ow_l : ∀ q : Fin 27, q.val ≠ 1 → 1 ≤ sl9 q.val ∧ sl9 q.val ≤ 7 := by decide +kernel
theorem ow_n : ∀ i : Fin 135, 1 ≤ i.val → sb9 1 (i.val : Int) = 32 → pw9 i.val < i.val := by decide +kernel
/-- an own word -/
def ow9 (T : Int → Int) (r : tk9) : Prop := ∃ q : Nat, q < 27 ∧ q ≠ 1 ∧ wdE T q r.2.1 r.2.2
/-- the letters of a name -/
def nL9 (T : Int → Int) (r : tk9) : Int → Int := fun j => if 0 ≤ j ∧ j < r.2.2 - r.2.1 then T (r.2.1 + j) - 96 else 0
def sm9 (L L' : Int → Int) : Prop := ∀ j, 0 ≤ j → j < 6 → L j = L' j
/-- a name that is there already -/
def gv9 (D : Int → Int → Int) (L : Int → Int) : Prop := (∃ b, (0 ≤ b ∧ b < D 0 0) ∧ sm9 (D (20 + b)) L) ∨ (∃ b, (0 ≤ b ∧ b < D 0 1) ∧ sm9 (D (30 + b)) L) ∨ (∃ b, (0 ≤ b ∧ b < D 0 2) ∧ sm9 (D (40 + b)) L)
theorem sm9_n {L L' : Int → Int} {n n' : Int} (h : okN n L) (h' : okN n' L') (s : sm9 L L') : n = n' := by
  rcases Int.lt_trichotomy n n' with z | z | z
  · have a := h.2.2 n (Int.le_refl _)
    have b := (h'.2.1 n (by have := h.1; omega) z).1
    have := s n (by have := h.1; omega) (by have := h'.1; omega)
    omega
  · exact z
  · have a := h'.2.2 n' (Int.le_refl _)
    have b := (h.2.1 n' (by have := h'.1; omega) z).1
    have := s n' (by have := h'.1; omega) (by have := h.1; omega)
    omega
theorem nm32_c {L L' : Int → Int} : ∀ k : Nat, (∀ j : Int, 0 ≤ j → j < k → L j = L' j) → nm32 L k = nm32 L' k
  | 0, _ => rfl
  | k + 1, h => by unfold nm32; rw [nm32_c k (fun j a b => h j a (by omega)), h k (by omega) (by omega)]
theorem nm27_c {L L' : Int → Int} : ∀ k : Nat, (∀ j : Int, 0 ≤ j → j < k → L j = L' j) → nm27 L k = nm27 L' k
  | 0, _ => rfl
  | k + 1, h => by unfold nm27; rw [nm27_c k (fun j a b => h j a (by omega)), h k (by omega) (by omega)]
theorem nm32_i {L L' : Int → Int} {n n' : Int} (h : okN n L) (h' : okN n' L') : nm32 L n.toNat = nm32 L' n'.toNat ↔ sm9 L L' := by
  constructor
  · intro e j j0 j1
    have a := (nm32_k h (k := j) ⟨j0, by omega⟩).2.2
    have b := (nm32_k h' (k := j) ⟨j0, by omega⟩).2.2
    rw [← a, ← b, e]
  · intro s
    rw [sm9_n h h' s]
    exact nm32_c _ (fun j a b => s j a (by have := h'.1; omega))
theorem nm27_e {L L' : Int → Int} {n n' : Int} (h : okN n L) (h' : okN n' L') : ∀ k k' : Nat, (k : Int) ≤ n → (k' : Int) ≤ n' → nm27 L k = nm27 L' k' → k = k' ∧ ∀ j : Int, 0 ≤ j → j < k → L j = L' j
  | 0, 0, _, _, _ => ⟨rfl, fun j a b => by omega⟩
  | 0, k' + 1, _, b, e => by have := (nm27_in h' (k' + 1) b).1 (by omega); have e2 : nm27 L 0 = 0 := rfl; omega
  | k + 1, 0, a, _, e => by have := (nm27_in h (k + 1) a).1 (by omega); have e2 : nm27 L' 0 = 0 := rfl; omega
  | k + 1, k' + 1, a, b, e => by
    have l := h.2.1 k (by omega) (by omega)
    have l' := h'.2.1 k' (by omega) (by omega)
    unfold nm27 at e
    obtain ⟨e1, e2⟩ := nm27_e h h' k k' (by omega) (by omega) (by omega)
    refine ⟨by omega, fun j j0 j1 => ?_⟩
    by_cases z : j = k
    · subst e1; rw [z]; omega
    · exact e2 j j0 (by omega)
theorem nm27_i {L L' : Int → Int} {n n' : Int} (h : okN n L) (h' : okN n' L') : nm27 L n.toNat = nm27 L' n'.toNat ↔ sm9 L L' := by
  constructor
  · intro e
    have a := h.1
    have a' := h'.1
    obtain ⟨e1, e2⟩ := nm27_e h h' n.toNat n'.toNat (by omega) (by omega) e
    intro j j0 j1
    by_cases z : j < n
    · exact e2 j j0 (by omega)
    · rw [h.2.2 j (by omega), h'.2.2 j (by omega)]
  · intro s
    rw [sm9_n h h' s]
    exact nm27_c _ (fun j a b => s j a (by have := h'.1; omega))
/-- a word's letters are letters -/
def tkL (T : Int → Int) (r : tk9) : Prop := r.1 = 1 → ∀ i, r.2.1 ≤ i → i < r.2.2 → lt9 (T i)
theorem nx9_L {T : Int → Int} {n : Int} {r r' : tk9} (h : nx9 T n r r') : tkL T r' := by
  obtain ⟨-, e, l, c⟩ := h
  intro k i i0 i1
  rcases c with ⟨c1, c2, c3⟩ | ⟨c1, e2, -, ⟨c2, c3, c4⟩ | ⟨c2, c3, c4, c5⟩ | ⟨c2, c3, c4, c5⟩⟩
  · exact l.2.1 i i0 (by omega)
  · rw [c4] at k; split at k <;> omega
  · omega
  · omega
theorem nL9_ok {T : Int → Int} {n : Int} {r : tk9} (hW : tkW n r) (hL : tkL T r) (k : r.1 = 1) (l6 : r.2.2 - r.2.1 ≤ 6) : okN (r.2.2 - r.2.1) (nL9 T r) := by
  have := hW.2.1 (by omega)
  refine ⟨by omega, fun j a b => ?_, fun j a => ?_⟩
  · unfold nL9
    rw [if_pos ⟨a, b⟩]
    have := hL k (r.2.1 + j) (by omega) (by omega)
    unfold lt9 at this
    omega
  · unfold nL9
    rw [if_neg (by omega)]
/-- where the reading stands: at a piece, or at a fault -/
abbrev sz9 : Type := tk9 ⊕ (Int × Int)
def pwR (T : Int → Int) (n : Int) (q : Nat) (z z' : sz9) : Prop := match z with
  | .inr p => z' = .inr p
  | .inl r => (wd9 T q r ∧ ∃ r', nx9 T n r r' ∧ z' = .inl r') ∨ (¬ wd9 T q r ∧ z' = .inr (1, r.2.1))
def psR (T : Int → Int) (n c : Int) (z z' : sz9) : Prop := match z with
  | .inr p => z' = .inr p
  | .inl r => (sg9 T r c ∧ ∃ r', nx9 T n r r' ∧ z' = .inl r') ∨ (¬ sg9 T r c ∧ z' = .inr (1, r.2.1))
def nuR (T : Int → Int) (n lo hi : Int) (z z' : sz9) (v : Int) : Prop := match z with
  | .inr p => z' = .inr p
  | .inl r => (∃ f x, nf9 T lo hi r f x ∧ z' = .inr (f, x)) ∨ (r.1 = 2 ∧ r.2.2 - r.2.1 ≤ 4 ∧ (lo ≤ nv9 T r ∧ nv9 T r ≤ hi) ∧ v = nv9 T r ∧ ∃ r', nx9 T n r r' ∧ z' = .inl r')
/-- how a name is refused, before it is looked up -/
def nbF (T : Int → Int) (r : tk9) (f x : Int) : Prop := ((r.1 ≠ 1 ∨ ow9 T r) ∧ f = 1 ∧ x = r.2.1) ∨ (r.1 = 1 ∧ ¬ ow9 T r ∧ 6 < r.2.2 - r.2.1 ∧ f = 1 ∧ x = r.2.1 + 6)
def nbK (T : Int → Int) (r : tk9) : Prop := r.1 = 1 ∧ ¬ ow9 T r ∧ r.2.2 - r.2.1 ≤ 6
def nnR (T : Int → Int) (n : Int) (D : Int → Int → Int) (r : tk9) (z' : sz9) : Prop := (∃ f x, nbF T r f x ∧ z' = .inr (f, x)) ∨ (nbK T r ∧ gv9 D (nL9 T r) ∧ z' = .inr (3, r.2.1)) ∨ (nbK T r ∧ ¬ gv9 D (nL9 T r) ∧ ∃ r', nx9 T n r r' ∧ z' = .inl r')
def rdR (T : Int → Int) (n : Int) (X : Nat) (z z' : sz9) (us : List Int) : Prop := match z with
  | .inr p => z' = .inr p
  | .inl r => (∃ r', RD T n X 0 r (ok9 r' us) ∧ z' = .inl r') ∨ (∃ f x, RD T n X 0 r (fl9 f x) ∧ z' = .inr (f, x))
def rmR (T : Int → Int) (n c most : Int) (r : tk9) (z' : sz9) : Prop := (most ≤ c ∧ z' = .inr (5, r.2.1)) ∨ (c < most ∧ ∃ r', nx9 T n r r' ∧ z' = .inl r')
/-- a bar, a board, a catcher, a trick more -/
def upR (D : Int → Int → Int) (r j v : Int) : Int → Int → Int := am_up D r j v
def adBar (D : Int → Int → Int) (L : Int → Int) (ln pl pe ph re : Int) : Int → Int → Int := fun r j => if r = 20 + D 0 0 then L j else am_up (am_up (am_up (am_up (am_up (am_up (am_up D 13 (D 0 0) ln) 1 (D 0 0) pl) 2 (D 0 0) pe) 3 (D 0 0) ph) 4 (D 0 0) re) 5 (D 0 0) 0) 0 0 (D 0 0 + 1) r j
def adBrd (D : Int → Int → Int) (L : Int → Int) (ln pl : Int) : Int → Int → Int := fun r j => if r = 30 + D 0 1 then L j else am_up (am_up (am_up D 14 (D 0 1) ln) 6 (D 0 1) pl) 0 1 (D 0 1 + 1) r j
def cdD (D : Int → Int → Int) (lc : Int) (ws : List Int) : Int → Int := fun i => if lc ≤ i ∧ i < lc + ws.length then ct9 (ws.getD (i - lc).toNat 0) else D 12 i
def adTrk (D : Int → Int → Int) (L : Int → Int) (ln tk ar lc : Int) (us vs : List Int) : Int → Int → Int := fun r j => if r = 40 + D 0 2 then L j else if r = 12 then cdD D lc (us ++ vs) j else am_up (am_up (am_up (am_up (am_up (am_up (am_up (am_up (am_up D 15 (D 0 2) ln) 7 (D 0 2) tk) 8 (D 0 2) ar) 9 (D 0 2) lc) 10 (D 0 2) (lc + us.length)) 11 (D 0 2) (lc + us.length + vs.length)) 16 (D 0 2) (bz ((31 : Int) ∈ us ++ vs))) 17 (D 0 2) (bz ((32 : Int) ∈ us ++ vs))) 0 2 (D 0 2 + 1) r j
/-- what a statement's words come to, ahead of its sign -/
def bdR (T : Int → Int) (n : Int) (D : Int → Int → Int) (lc : Int) (r : tk9) (z' : sz9) (D' : Int → Int → Int) (lc' : Int) : Prop :=
  (wd9 T 0 r ∧ ∃ z1, rmR T n (D 0 0) 8 r z1 ∧ match z1 with
    | .inr p => z' = .inr p
    | .inl r1 => ∃ z2 z3 z4 z5 z6 z7 z8 z9 z10 pl pe ph re, nnR T n D r1 z2 ∧ pwR T n 2 z2 z3 ∧ nuR T n 0 400 z3 z4 pl ∧ pwR T n 3 z4 z5 ∧ nuR T n 4 40 z5 z6 pe ∧ pwR T n 4 z6 z7 ∧ nuR T n 0 39 z7 z8 ph ∧ pwR T n 5 z8 z9 ∧ nuR T n 0 60 z9 z10 re ∧ z' = z10 ∧ D' = adBar D (nL9 T r1) (r1.2.2 - r1.2.1) pl pe ph re ∧ lc' = lc) ∨
  (¬ wd9 T 0 r ∧ wd9 T 6 r ∧ ∃ z1, rmR T n (D 0 1) 4 r z1 ∧ match z1 with
    | .inr p => z' = .inr p
    | .inl r1 => ∃ z2 z3 z4 pl, nnR T n D r1 z2 ∧ pwR T n 2 z2 z3 ∧ nuR T n 0 400 z3 z4 pl ∧ z' = z4 ∧ D' = adBrd D (nL9 T r1) (r1.2.2 - r1.2.1) pl ∧ lc' = lc) ∨
  (¬ wd9 T 0 r ∧ ¬ wd9 T 6 r ∧ wd9 T 7 r ∧ ∃ r1, nx9 T n r r1 ∧ ((∃ f x, nbF T r1 f x ∧ z' = .inr (f, x)) ∨ (nbK T r1 ∧ (∀ b, 0 ≤ b → b < D 0 0 → ¬ sm9 (D (20 + b)) (nL9 T r1)) ∧ z' = .inr (3, r1.2.1)) ∨ (nbK T r1 ∧ ∃ b, (0 ≤ b ∧ b < D 0 0) ∧ sm9 (D (20 + b)) (nL9 T r1) ∧ ∃ r2, nx9 T n r1 r2 ∧ z' = .inl r2 ∧ D' = am_up D 5 b 1 ∧ lc' = lc))) ∨
  (¬ wd9 T 0 r ∧ ¬ wd9 T 6 r ∧ ¬ wd9 T 7 r ∧ wd9 T 8 r ∧ ∃ z1, rmR T n (D 0 2) 8 r z1 ∧ match z1 with
    | .inr p => z' = .inr p
    | .inl r1 => ∃ z2 z3 z4 z5 z6 z7 z8 z9 z10 tk ar us vs, nnR T n D r1 z2 ∧ pwR T n 9 z2 z3 ∧ nuR T n 1 20 z3 z4 tk ∧ pwR T n 10 z4 z5 ∧ nuR T n 0 40 z5 z6 ar ∧ pwR T n 11 z6 z7 ∧ rdR T n 3 z7 z8 us ∧ pwR T n 22 z8 z9 ∧ rdR T n 5 z9 z10 vs ∧ z' = z10 ∧ D' = adTrk D (nL9 T r1) (r1.2.2 - r1.2.1) tk ar lc us vs ∧ lc' = lc + us.length + vs.length) ∨
  (¬ wd9 T 0 r ∧ ¬ wd9 T 6 r ∧ ¬ wd9 T 7 r ∧ ¬ wd9 T 8 r ∧ z' = .inr (1, r.2.1))
/-- one statement: the k-th -/
def stmR (T : Int → Int) (n k : Int) (D : Int → Int → Int) (lc : Int) (r : tk9) (z' : sz9) (D' : Int → Int → Int) (lc' : Int) : Prop := (30 ≤ k ∧ z' = .inr (5, r.2.1)) ∨ (k < 30 ∧ ∃ z1, bdR T n D lc r z1 D' lc' ∧ psR T n 59 z1 z')
/-- from the k-th statement on -/
def rgR (T : Int → Int) (n : Int) : Nat → Int → (Int → Int → Int) → Int → tk9 → sz9 → (Int → Int → Int) → Int → Int → Prop
  | 0, _, _, _, _, _, _, _, _ => False
  | m + 1, k, D, lc, r, z', D', lc', k' => (r.1 = 0 ∧ z' = .inl r ∧ D' = D ∧ lc' = lc ∧ k' = k) ∨ (r.1 ≠ 0 ∧ ∃ z1 D1 lc1, stmR T n k D lc r z1 D1 lc1 ∧ match z1 with
    | .inr p => z' = .inr p
    | .inl r1 => rgR T n m (k + 1) D1 lc1 r1 z' D' lc' k')
