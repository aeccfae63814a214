/-! worlds of stores -/
theorem am_ws_get {g : am_G} {ads : Nat → Nat} {st : am_S} {k : Nat} (h : k < st.1.length) : (am_ws g ads st)[k]? = some (ads k, am_cell g ads (st.1.getD k (0, 0)) (st.2 ((k : Int) + 1))) := by
  unfold am_ws
  rw [List.getElem?_map, List.getElem?_range h]
  rfl
theorem am_ws_len (g : am_G) (ads : Nat → Nat) (st : am_S) : (am_ws g ads st).length = st.1.length := by simp [am_ws]
theorem am_at_spec {sh : List (Nat × Nat)} {o : Int} {q : Nat × Nat} (h : am_at sh o = some q) : 1 ≤ o ∧ (o - 1).toNat < sh.length ∧ sh.getD (o - 1).toNat (0, 0) = q ∧ (((o - 1).toNat : Nat) : Int) + 1 = o := by
  unfold am_at at h
  split at h
  next h1 =>
    obtain ⟨h2, h3⟩ := List.getElem?_eq_some_iff.mp h
    refine ⟨h1, h2, ?_, by omega⟩
    rw [List.getD_eq_getElem?_getD, h]
    rfl
  next => cases h
theorem am_ws_at {g : am_G} {ads : Nat → Nat} {st : am_S} {o : Int} {q : Nat × Nat} (h : am_at st.1 o = some q) : (am_ws g ads st)[(o - 1).toNat]? = some (ads (o - 1).toNat, am_cell g ads q (st.2 o)) := by
  obtain ⟨h1, h2, h3, h4⟩ := am_at_spec h
  rw [am_ws_get h2, h3, h4]
theorem am_ws_up {g : am_G} {ads : Nat → Nat} {sh : List (Nat × Nat)} {M : Int → Int → Int} {o j v : Int} {q : Nat × Nat} (h : am_at sh o = some q) :
    am_ws g ads (sh, am_up M o j v) = (am_ws g ads (sh, M)).set (o - 1).toNat (ads (o - 1).toNat, am_cell g ads q (am_up M o j v o)) := by
  obtain ⟨h1, h2, h3, h4⟩ := am_at_spec h
  apply List.ext_getElem?
  intro k
  by_cases hk : k < sh.length
  · rw [am_ws_get (st := (sh, am_up M o j v)) hk]
    by_cases e : k = (o - 1).toNat
    · subst e
      rw [List.getElem?_set_self (by rw [am_ws_len]; exact hk)]
      simp only [h3, h4]
    · rw [List.getElem?_set_ne (fun z => e z.symm), am_ws_get (st := (sh, M)) hk]
      have hne : ¬ ((k : Int) + 1 = o) := by omega
      have hf : am_up M o j v ((k : Int) + 1) = M ((k : Int) + 1) := by funext b; simp only [am_up, if_neg hne]
      simp only [hf]
  · rw [List.getElem?_eq_none (by rw [am_ws_len]; show sh.length ≤ k; omega), List.getElem?_eq_none (by rw [List.length_set, am_ws_len]; show sh.length ≤ k; omega)]
theorem am_up_at (M : Int → Int → Int) (o j v : Int) : am_up M o j v o = fun b => if b = j then v else M o b := by funext b; simp [am_up]
theorem am_ro_ext {g : am_G} {ads ads' : Nat → Nat} {n : Nat} (h : am_ext n ads ads') {v : Int} (hv : v ≤ (n : Int)) : am_ro g ads' v = am_ro g ads v := by
  unfold am_ro
  by_cases h0 : v = 0
  · simp [h0]
  · by_cases h1 : 0 < v
    · simp only [if_neg h0, if_pos h1]
      rw [h (v - 1).toNat (by omega)]
    · simp only [if_neg h0, if_neg h1]
theorem am_cv_ext {g : am_G} {ads ads' : Nat → Nat} {n : Nat} (h : am_ext n ads ads') {v : AV} (hv : am_ok n v) : am_cv g ads' v = am_cv g ads v := by
  match v, hv with
  | none, _ => rfl
  | some (.inl _), _ => rfl
  | some (.inr (.inl _)), _ => rfl
  | some (.inr (.inr x)), hv => show va_rf _ = va_rf _; rw [am_ro_ext h hv]
theorem am_cell_ext {g : am_G} {ads ads' : Nat → Nat} {n : Nat} (h : am_ext n ads ads') {sh : Nat × Nat} {f : Int → Int} (hf : ∀ j, am_oks n sh.1 j (f j)) : am_cell g ads' sh f = am_cell g ads sh f := by
  unfold am_cell
  by_cases h1 : sh.1 < 13
  · simp only [if_pos h1]
    congr 2
    apply List.map_congr_left
    intro j _
    unfold am_fv
    by_cases h2 : am_isR (am_ty sh.1 j) = true
    · simp only [if_pos h2]
      have := hf j
      simp only [am_oks, if_pos h1, Int.toNat_natCast, if_pos h2] at this
      rw [am_ro_ext h this]
    · simp only [if_neg h2]
  · simp only [if_neg h1]
    by_cases h2 : sh.1 = 21
    · simp only [if_pos h2]
    · by_cases h3 : 24 ≤ sh.1
      · simp only [if_neg h2, if_pos h3]
        have e : (fun i : Nat => am_ro g ads' (f i)) = fun i : Nat => am_ro g ads (f i) := by
          funext i
          have := hf i
          simp only [am_oks, if_neg h1, if_neg h2, if_pos h3] at this
          rw [am_ro_ext h this]
        rw [e]
      · simp only [if_neg h2, if_neg h3]
theorem am_ws_ext {g : am_G} {ads ads' : Nat → Nat} {st : am_S} (h : am_ext st.1.length ads ads') (hM : am_okM st) : am_ws g ads' st = am_ws g ads st := by
  unfold am_ws
  apply List.map_congr_left
  intro k hk
  have hk := List.mem_range.mp hk
  rw [h k hk, am_cell_ext h (fun j => hM k hk j)]
theorem am_oks_0 (n kd : Nat) (j : Int) : am_oks n kd j 0 := by
  unfold am_oks am_i32 am_i64
  split
  · split <;> omega
  · split
    · omega
    · split <;> omega
theorem am_oks_mono {n n' kd : Nat} (h : n ≤ n') {j v : Int} (hv : am_oks n kd j v) : am_oks n' kd j v := by
  unfold am_oks at hv ⊢
  split
  next h1 =>
    rw [if_pos h1] at hv
    split
    next h2 => rw [if_pos h2] at hv; omega
    next h2 => rw [if_neg h2] at hv; exact hv
  next h1 =>
    rw [if_neg h1] at hv
    split
    next h2 => rw [if_pos h2] at hv; exact hv
    next h2 =>
      rw [if_neg h2] at hv
      split
      next h3 => rw [if_pos h3] at hv; omega
      next h3 => rw [if_neg h3] at hv; exact hv
theorem am_ok_mono {n n' : Nat} (h : n ≤ n') {v : AV} (hv : am_ok n v) : am_ok n' v := by
  match v, hv with
  | none, _ => trivial
  | some (.inl _), hv => exact hv
  | some (.inr (.inl _)), hv => exact hv
  | some (.inr (.inr x)), hv => have hv : x ≤ (n : Int) := hv; show x ≤ (n' : Int); omega
theorem am_okM_up {sh : List (Nat × Nat)} {M : Int → Int → Int} {o j v : Int} {q : Nat × Nat} (h : am_okM (sh, M)) (ha : am_at sh o = some q) (hv : am_oks sh.length q.1 j v) : am_okM (sh, am_up M o j v) := by
  obtain ⟨h1, h2, h3, h4⟩ := am_at_spec ha
  intro k hk b
  have hk' : k < sh.length := hk
  show am_oks sh.length (sh.getD k (0, 0)).1 b (am_up M o j v ((k : Int) + 1) b)
  unfold am_up
  by_cases e : (k : Int) + 1 = o
  · rw [if_pos e]
    have e2 : k = (o - 1).toNat := by omega
    by_cases e3 : b = j
    · rw [if_pos e3, e2, h3, e3]; exact hv
    · rw [if_neg e3]; exact h k hk b
  · rw [if_neg e]; exact h k hk b
theorem am_okM_at {st : am_S} (h : am_okM st) {o : Int} {q : Nat × Nat} (ha : am_at st.1 o = some q) (j : Int) : am_oks st.1.length q.1 j (st.2 o j) := by
  obtain ⟨h1, h2, h3, h4⟩ := am_at_spec ha
  have := h _ h2 j
  rw [h3, h4] at this
  exact this
def am_adN (ads : Nat → Nat) (n q : Nat) : Nat → Nat := fun k => if k = n then q else ads k
theorem am_adN_ext (ads : Nat → Nat) (n q : Nat) : am_ext n ads (am_adN ads n q) := fun k hk => by simp [am_adN, Nat.ne_of_lt hk]
theorem am_okM_new {st : am_S} (h : am_okM st) (kd n : Nat) : am_okM (am_new st kd n) := by
  intro k hk j
  have hl : (am_new st kd n).1.length = st.1.length + 1 := by simp [am_new]
  rw [hl] at hk ⊢
  show am_oks _ ((st.1 ++ [(kd, n)]).getD k (0, 0)).1 j (if (k : Int) + 1 = (st.1.length : Int) + 1 then 0 else st.2 ((k : Int) + 1) j)
  by_cases e : k = st.1.length
  · rw [if_pos (by omega)]; exact am_oks_0 _ _ _
  · rw [if_neg (by omega)]
    have hk2 : k < st.1.length := by omega
    have : (st.1 ++ [(kd, n)]).getD k (0, 0) = st.1.getD k (0, 0) := by simp [List.getD_eq_getElem?_getD, List.getElem?_append_left hk2]
    rw [this]
    exact am_oks_mono (Nat.le_succ _) (h k hk2 j)
theorem am_ws_new {g : am_G} {ads : Nat → Nat} {st : am_S} (hM : am_okM st) (kd n q : Nat) : am_ws g (am_adN ads st.1.length q) (am_new st kd n) = am_ws g ads st ++ [(q, am_cell g (am_adN ads st.1.length q) (kd, n) (fun _ => 0))] := by
  have hl : (am_new st kd n).1.length = st.1.length + 1 := by simp [am_new]
  rw [← am_ws_ext (am_adN_ext ads st.1.length q) hM]
  unfold am_ws
  rw [hl, List.range_succ, List.map_append]
  congr 1
  · apply List.map_congr_left
    intro k hk
    have hk := List.mem_range.mp hk
    have e1 : (am_new st kd n).1.getD k (0, 0) = st.1.getD k (0, 0) := by simp [am_new, List.getD_eq_getElem?_getD, List.getElem?_append_left hk]
    have e2 : (am_new st kd n).2 ((k : Int) + 1) = st.2 ((k : Int) + 1) := by
      funext b
      show (if (k : Int) + 1 = (st.1.length : Int) + 1 then 0 else st.2 ((k : Int) + 1) b) = _
      rw [if_neg (by omega)]
    rw [e1, e2]
  · have e1 : (am_new st kd n).1.getD st.1.length (0, 0) = (kd, n) := by simp [am_new, List.getD_eq_getElem?_getD]
    have e2 : (am_new st kd n).2 ((st.1.length : Int) + 1) = fun _ => 0 := by
      funext b
      show (if (st.1.length : Int) + 1 = (st.1.length : Int) + 1 then 0 else _) = _
      rw [if_pos rfl]
    simp only [List.map_cons, List.map_nil, e1, e2]
    simp [am_adN]
theorem am_Sc_up {g : am_G} {sh sh' : List (Nat × Nat)} {M : Int → Int → Int} {o j v : Int} {q : Nat × Nat} (h : am_Sc g (sh, M)) (ho : am_at sh' o = some q) : am_Sc g (sh, am_up M o j v) := by
  obtain ⟨h1, -⟩ := am_at_spec ho
  have e : am_up M o j v (-1) = M (-1) := by funext b; simp only [am_up]; rw [if_neg (by omega)]
  unfold am_Sc at h ⊢
  simp only [e]
  exact h
theorem am_Sc_new {g : am_G} {st : am_S} (h : am_Sc g st) (kd n : Nat) : am_Sc g (am_new st kd n) := by
  have e : (am_new st kd n).2 (-1) = st.2 (-1) := by funext b; show (if (-1 : Int) = (st.1.length : Int) + 1 then 0 else st.2 (-1) b) = _; rw [if_neg (by omega)]
  unfold am_Sc at h ⊢
  rw [e]
  exact h
