/-! new int[n][m] -/
def am_newM (st : am_S) (N K : Nat) : am_S := (st.1 ++ [(25, N)] ++ List.replicate N (20, K), fun a b => if a = (st.1.length : Int) + 1 then (if 0 ≤ b ∧ b < (N : Int) then (st.1.length : Int) + 2 + b else 0) else if (st.1.length : Int) + 1 < a ∧ a ≤ (st.1.length : Int) + 1 + N then 0 else st.2 a b)
def am_adM (ads : Nat → Nat) (n N q : Nat) (r : Nat → Nat) : Nat → Nat := fun k => if k = n then q else if n < k ∧ k ≤ n + N then r (k - n - 1) else ads k
theorem am_adM_ext (ads : Nat → Nat) (n N q : Nat) (r : Nat → Nat) : am_ext n ads (am_adM ads n N q r) := fun k hk => by
  unfold am_adM
  rw [if_neg (by omega), if_neg (by omega)]
theorem am_newM_len (st : am_S) (N K : Nat) : (am_newM st N K).1.length = st.1.length + 1 + N := by simp [am_newM]; omega
theorem am_newM_sh0 {st : am_S} {N K k : Nat} (h : k < st.1.length) : (am_newM st N K).1.getD k (0, 0) = st.1.getD k (0, 0) := by
  simp only [am_newM, List.getD_eq_getElem?_getD, List.append_assoc]
  rw [List.getElem?_append_left h]
theorem am_newM_sh1 (st : am_S) (N K : Nat) : (am_newM st N K).1.getD st.1.length (0, 0) = (25, N) := by
  simp [am_newM, List.getD_eq_getElem?_getD, List.append_assoc]
theorem am_newM_sh2 {st : am_S} {N K i : Nat} (h : i < N) : (am_newM st N K).1.getD (st.1.length + 1 + i) (0, 0) = (20, K) := by
  simp only [am_newM, List.getD_eq_getElem?_getD]
  rw [List.getElem?_append_right (by simp)]
  have e : st.1.length + 1 + i - (st.1 ++ [(25, N)]).length = i := by simp
  rw [e, List.getElem?_replicate, if_pos h]
  rfl
theorem am_okM_newM {st : am_S} (h : am_okM st) (N K : Nat) : am_okM (am_newM st N K) := by
  intro k hk j
  rw [am_newM_len] at hk ⊢
  by_cases e1 : k < st.1.length
  · rw [am_newM_sh0 e1]
    show am_oks _ _ j (if (k : Int) + 1 = (st.1.length : Int) + 1 then _ else if (st.1.length : Int) + 1 < (k : Int) + 1 ∧ (k : Int) + 1 ≤ (st.1.length : Int) + 1 + N then 0 else st.2 ((k : Int) + 1) j)
    rw [if_neg (by omega), if_neg (by omega)]
    exact am_oks_mono (by omega) (h k e1 j)
  · by_cases e2 : k = st.1.length
    · subst e2
      rw [am_newM_sh1]
      show am_oks _ 25 j (if (st.1.length : Int) + 1 = (st.1.length : Int) + 1 then (if 0 ≤ j ∧ j < (N : Int) then (st.1.length : Int) + 2 + j else 0) else _)
      rw [if_pos rfl]
      show (if 0 ≤ j ∧ j < (N : Int) then (st.1.length : Int) + 2 + j else 0) ≤ ((st.1.length + 1 + N : Nat) : Int)
      split <;> omega
    · obtain ⟨i, rfl⟩ : ∃ i, k = st.1.length + 1 + i := ⟨k - st.1.length - 1, by omega⟩
      rw [am_newM_sh2 (by omega)]
      show am_oks _ 20 j (if ((st.1.length + 1 + i : Nat) : Int) + 1 = (st.1.length : Int) + 1 then _ else if (st.1.length : Int) + 1 < ((st.1.length + 1 + i : Nat) : Int) + 1 ∧ ((st.1.length + 1 + i : Nat) : Int) + 1 ≤ (st.1.length : Int) + 1 + N then 0 else _)
      rw [if_neg (by omega), if_pos (by omega)]
      exact am_oks_0 _ _ _
theorem am_Sc_newM {g : am_G} {st : am_S} (h : am_Sc g st) (N K : Nat) : am_Sc g (am_newM st N K) := by
  have e : (am_newM st N K).2 (-1) = st.2 (-1) := by
    funext b
    show (if (-1 : Int) = (st.1.length : Int) + 1 then (if 0 ≤ b ∧ b < (N : Int) then (st.1.length : Int) + 2 + b else 0) else if (st.1.length : Int) + 1 < (-1 : Int) ∧ (-1 : Int) ≤ (st.1.length : Int) + 1 + N then 0 else st.2 (-1) b) = _
    rw [if_neg (by omega), if_neg (by omega)]
  unfold am_Sc at h ⊢
  rw [e]
  exact h
theorem am_ws_newM {g : am_G} {ads : Nat → Nat} {st : am_S} (hM : am_okM st) (N K q : Nat) (r : Nat → Nat) : am_ws g (am_adM ads st.1.length N q r) (am_newM st N K) = (am_ws g ads st ++ [(q, .inl (g.2.1 25, N, .inr (.inr (.inr (.inr (fun i => if i < N then some (r i) else none))))))]) ++ (List.range N).map (fun i => (r i, .inl (g.2.1 20, K, .inl (fun _ => Int32.ofInt 0)))) := by
  rw [← am_ws_ext (am_adM_ext ads st.1.length N q r) hM]
  unfold am_ws
  rw [am_newM_len, List.range_add, List.map_append, List.range_succ, List.map_append]
  congr 1
  · congr 1
    · apply List.map_congr_left
      intro k hk
      have hk := List.mem_range.mp hk
      have e2 : (am_newM st N K).2 ((k : Int) + 1) = st.2 ((k : Int) + 1) := by
        funext b
        show (if (k : Int) + 1 = (st.1.length : Int) + 1 then _ else if (st.1.length : Int) + 1 < (k : Int) + 1 ∧ (k : Int) + 1 ≤ (st.1.length : Int) + 1 + N then 0 else st.2 ((k : Int) + 1) b) = _
        rw [if_neg (by omega), if_neg (by omega)]
      rw [am_newM_sh0 hk, e2]
    · have e2 : (am_newM st N K).2 ((st.1.length : Int) + 1) = fun b => if 0 ≤ b ∧ b < (N : Int) then (st.1.length : Int) + 2 + b else 0 := by
        funext b
        show (if (st.1.length : Int) + 1 = (st.1.length : Int) + 1 then _ else _) = _
        rw [if_pos rfl]
      rw [List.map_cons, List.map_nil, am_newM_sh1, e2, am_cell_r (Or.inr rfl)]
      have e3 : am_adM ads st.1.length N q r st.1.length = q := if_pos rfl
      have e4 : (fun i : Nat => am_ro g (am_adM ads st.1.length N q r) (if 0 ≤ (i : Int) ∧ (i : Int) < (N : Int) then (st.1.length : Int) + 2 + i else 0)) = fun i : Nat => if i < N then some (r i) else none := by
        funext i
        by_cases hi : i < N
        · rw [if_pos (by omega), if_pos hi]
          unfold am_ro
          rw [if_neg (by omega), if_pos (by omega)]
          have e5 : ((st.1.length : Int) + 2 + i - 1).toNat = st.1.length + 1 + i := by omega
          rw [e5]
          unfold am_adM
          rw [if_neg (by omega), if_pos (by omega)]
          congr 2
          omega
        · rw [if_neg (by omega), if_neg hi]
          rfl
      rw [e3, e4]
  · rw [List.map_map]
    apply List.map_congr_left
    intro i hi
    have hi := List.mem_range.mp hi
    have e2 : (am_newM st N K).2 (((st.1.length + 1 + i : Nat) : Int) + 1) = fun _ => 0 := by
      funext b
      show (if ((st.1.length + 1 + i : Nat) : Int) + 1 = (st.1.length : Int) + 1 then _ else if (st.1.length : Int) + 1 < ((st.1.length + 1 + i : Nat) : Int) + 1 ∧ ((st.1.length + 1 + i : Nat) : Int) + 1 ≤ (st.1.length : Int) + 1 + N then 0 else _) = _
      rw [if_neg (by omega), if_pos (by omega)]
    show (am_adM ads st.1.length N q r (st.1.length + 1 + i), am_cell g _ ((am_newM st N K).1.getD (st.1.length + 1 + i) (0, 0)) ((am_newM st N K).2 (((st.1.length + 1 + i : Nat) : Int) + 1))) = _
    rw [am_newM_sh2 hi, e2, am_cell_i (Or.inl rfl)]
    have e3 : am_adM ads st.1.length N q r (st.1.length + 1 + i) = r i := by
      unfold am_adM
      rw [if_neg (by omega), if_pos (by omega)]
      congr 1
      omega
    rw [e3]
theorem sd_mna {d : Nat} {k : am_M} {rc rs pc : Nat} {ls stk : List AV} {st : am_S} {Q : AV → am_S → Prop} {N K index : Nat} (hd : decode k.2.1 pc = .ok (.multianewarray index 2, 4)) (w1 : Cond.classLink k.1.cls index "[[I" ∈ am_wall) (w2 : Cond.arrayClass .int ∈ am_wall) (hN9 : N ≤ 10000) (hK9 : K ≤ 10000) (h : am_Wp d k (rc) (rs) (pc + 4) (ls) (vR ((st.1.length : Int) + 1) :: stk) (am_newM st N K) Q) : am_Wp d k (rc + (1 + N)) (rs + (N + N * K)) (pc) (ls) (vI (K : Int) :: vI (N : Int) :: stk) (st) Q := by
  intro g l p e R s m args below meth c Z ads0 n0 cm sm F O hZ ads H locs cells slots lsA hH he hn hc hs hl hol hos
  obtain ⟨hx, hb, hml, hown, hts, hG, hE, hin⟩ := id F
  have hi : am_i32 (N : Int) := am_32c (by omega) (by omega)
  have hk : am_i32 (K : Int) := am_32c (by omega) (by omega)
  have z0 : (0 : Int32) = Int32.ofInt 0 := rfl
  have hcy : s.vm.findClass (FieldType.array FieldType.int).toString = some (g.2.1 20) := (hG.1.2 0 _ rfl).2
  have e0 : am_ws g ads st ++ va_pl [] (fun _ => (.inr (0, []) : va_E)) = am_ws g ads st := by simp [va_pl]
  refine va_mna (X := am_ws g ads st) (L := []) (f := fun _ => .inr (0, [])) (ty := .int) (cy := g.2.1 20) (N' := N) (K' := K) (z := (K, .inl (fun _ => Int32.ofInt 0))) hx hb hown (hts _ w1) hG.2.2.2.2 (hts _ w2) hcy hG.1 (by rw [e0]; exact hH.1) (by rw [e0]; exact hH.2.1) hH.2.2.1 (am_base hE) (by rw [z0, am_lt hi (am_32c (by omega) (by omega))]; omega) (by rw [z0, am_lt hk (am_32c (by omega) (by omega))]; omega) (by rw [am_cl_ix (by omega) hi]; omega) (by rw [am_cl_ix (by omega) hk]; omega) (by omega) (by show K * 4 ≤ _; omega) (by omega) rfl rfl (by have := O.2.2.1; omega) (by have := O.2.2.2; omega) (fun c9 => arrV_new _ _ _) hd (fun q r cA H1 hinj hout hK' hP hD hS => ?_)
  have ec : cA = g.2.1 25 := am_cls_eq (hK'.2 6 (cA, .array .int) rfl).2 (hG.1.2 5 _ rfl).2
  subst ec
  have eW := am_ws_newM (g := g) (ads := ads) hH.2.2.2.1 N K q r
  have e5 : va_pl ([] ++ (List.range N).map r) (vr_up (fun _ => (.inr (0, []) : va_E)) ((List.range N).map r) (.inl (g.2.1 20, (K, .inl (fun _ => Int32.ofInt 0))))) = (List.range N).map (fun i => (r i, .inl (g.2.1 20, K, .inl (fun _ => Int32.ofInt 0)))) := by
    unfold va_pl
    rw [List.nil_append, List.map_map]
    apply List.map_congr_left
    intro i hi9
    show (r i, vr_up _ _ _ (r i)) = _
    rw [vr_up_in (List.mem_map.mpr ⟨i, hi9, rfl⟩)]
  rw [e5, ← eW] at hP hD
  have K9 := h g l p e R s m args below meth c Z ads0 n0 cm sm F O hZ (am_adM ads st.1.length N q r) H1 locs (cells + 1 + N) (slots + N + N * K) lsA ⟨hP, hD, hS, am_okM_newM hH.2.2.2.1 _ _, am_Sc_newM hH.2.2.2.2 _ _⟩ (am_ext_tr he (am_adM_ext _ _ _ _ _) hn) (by rw [am_newM_len]; omega) (by omega) (by omega) (am_hasL_ext (am_adM_ext _ _ _ _ _) hol hl) (fun v hv => am_ok_mono (by rw [am_newM_len]; omega) (hol v hv)) (am_cns (show ((st.1.length : Int) + 1) ≤ _ by rw [am_newM_len]; omega) (fun v hv => am_ok_mono (by rw [am_newM_len]; omega) (am_tlv (am_tlv hos) v hv)))
  have K9 : W p l e R s m args below meth c H1 locs (cells + 1 + N) (slots + N + N * K) Z (F0 m (pc + 4) lsA (va_rf (am_ro g (am_adM ads st.1.length N q r) ((st.1.length : Int) + 1)) :: stk.map (am_cv g (am_adM ads st.1.length N q r)))) := K9
  have e6 : am_ro g (am_adM ads st.1.length N q r) ((st.1.length : Int) + 1) = some q := by
    unfold am_ro
    rw [if_neg (by omega), if_pos (by omega)]
    have e7 : ((st.1.length : Int) + 1 - 1).toNat = st.1.length := by omega
    rw [e7]
    unfold am_adM
    rw [if_pos rfl]
  rw [e6, am_map_ext (am_adM_ext ads st.1.length N q r) (am_tlv (am_tlv hos))] at K9
  exact K9
