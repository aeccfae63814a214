/-! fields -/
theorem am_ref {g : am_G} {ads : Nat → Nat} {sh : List (Nat × Nat)} {o : Int} {q : Nat × Nat} (h : am_at sh o = some q) : am_ro g ads o = some (ads (o - 1).toNat) := by
  obtain ⟨h1, -⟩ := am_at_spec h
  unfold am_ro
  rw [if_neg (by omega), if_pos (by omega)]
def am_Cl (c : Nat) (C : String) (T : u_T) (N : Nat) : Prop := vwCl[c]? = some (C, T, N) ∧ c < 13 ∧ am_nf c = N ∧ (∀ w ∈ u_ws C T N, w ∈ am_wall) ∧ (∀ k, k < N → parseFieldDescriptor (T k).2.2.1 = some (am_ty c k)) ∧ (∀ a, a < N → ∀ b, b < N → a ≠ b → (T a).2.1 ≠ (T b).2.1)
theorem am_wl {w : Cond} (h : w ∈ lw_tbl) (hg : goodWord w = true) : w ∈ am_wall := List.mem_filter.mpr ⟨h, hg⟩
theorem am_wl_all {ws : List Cond} (h : ws.all (fun w => decide (w ∈ lw_tbl) && goodWord w) = true) : ∀ w ∈ ws, w ∈ am_wall := by
  intro w hw
  have h1 := List.all_eq_true.mp h w hw
  simp only [Bool.and_eq_true, decide_eq_true_eq] at h1
  exact am_wl h1.1 h1.2
set_option maxRecDepth 100000 in
theorem am_Cl_0 : am_Cl 0 RX0 TX0 12 := ⟨rfl, by decide, rfl, am_wl_all (by decide +kernel), tyX0_ok, nmX0⟩
set_option maxRecDepth 100000 in
theorem am_Cl_1 : am_Cl 1 RX1 TX1 7 := ⟨rfl, by decide, rfl, am_wl_all (by decide +kernel), tyX1_ok, nmX1⟩
set_option maxRecDepth 100000 in
theorem am_Cl_2 : am_Cl 2 RX2 TX2 5 := ⟨rfl, by decide, rfl, am_wl_all (by decide +kernel), tyX2_ok, nmX2⟩
set_option maxRecDepth 100000 in
theorem am_Cl_3 : am_Cl 3 RX3 TX3 3 := ⟨rfl, by decide, rfl, am_wl_all (by decide +kernel), tyX3_ok, nmX3⟩
set_option maxRecDepth 100000 in
theorem am_Cl_4 : am_Cl 4 RX4 TX4 12 := ⟨rfl, by decide, rfl, am_wl_all (by decide +kernel), tyX4_ok, nmX4⟩
set_option maxRecDepth 100000 in
theorem am_Cl_5 : am_Cl 5 RX5 TX5 3 := ⟨rfl, by decide, rfl, am_wl_all (by decide +kernel), tyX5_ok, nmX5⟩
set_option maxRecDepth 100000 in
theorem am_Cl_6 : am_Cl 6 RX6 TX6 7 := ⟨rfl, by decide, rfl, am_wl_all (by decide +kernel), tyX6_ok, nmX6⟩
set_option maxRecDepth 100000 in
theorem am_Cl_7 : am_Cl 7 RX7 TX7 4 := ⟨rfl, by decide, rfl, am_wl_all (by decide +kernel), tyX7_ok, nmX7⟩
set_option maxRecDepth 100000 in
theorem am_Cl_8 : am_Cl 8 RX8 TX8 17 := ⟨rfl, by decide, rfl, am_wl_all (by decide +kernel), tyX8_ok, nmX8⟩
set_option maxRecDepth 100000 in
theorem am_Cl_9 : am_Cl 9 RX9 TX9 3 := ⟨rfl, by decide, rfl, am_wl_all (by decide +kernel), tyX9_ok, nmX9⟩
set_option maxRecDepth 100000 in
theorem am_Cl_10 : am_Cl 10 RX10 TX10 11 := ⟨rfl, by decide, rfl, am_wl_all (by decide +kernel), tyX10_ok, nmX10⟩
set_option maxRecDepth 100000 in
theorem am_Cl_11 : am_Cl 11 RX11 TX11 9 := ⟨rfl, by decide, rfl, am_wl_all (by decide +kernel), tyX11_ok, nmX11⟩
set_option maxRecDepth 100000 in
theorem am_Cl_12 : am_Cl 12 RX12 TX12 85 := ⟨rfl, by decide, rfl, am_wl_all (by decide +kernel), tyX12_ok, nmX12⟩
