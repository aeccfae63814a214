/-! the class's own objects -/
def isR (R : Int) : Prop := R = 4 ∨ R = 25
def isA (e : Int) : Prop := e = 59 ∨ (66 ≤ e ∧ e ≤ 91 ∧ (e - 66) % 5 = 0) ∨ (97 ≤ e ∧ e ≤ 122 ∧ (e - 97) % 5 = 0)
def isG (G : Int) : Prop := G = 65 ∨ G = 96
def isE (e : Int) : Prop := e = 47 ∨ e = 51
theorem isA_c {e : Int} (h : isA e) : e = 59 ∨ e = 66 ∨ e = 71 ∨ e = 76 ∨ e = 81 ∨ e = 86 ∨ e = 91 ∨ e = 97 ∨ e = 102 ∨ e = 107 ∨ e = 112 ∨ e = 117 ∨ e = 122 := by unfold isA at h; omega
theorem kr_0 {R : Int} (h : isR R) : am_kd am_SH R = 7 := by rcases h with rfl | rfl <;> rfl
theorem kr_1 {R : Int} (h : isR R) : am_kd am_SH (R + 1) = 1 := by rcases h with rfl | rfl <;> rfl
theorem lr_2 {R : Int} (h : isR R) : am_ln am_SH (R + 2) 20 = 8 := by rcases h with rfl | rfl <;> rfl
theorem mr_2 {R : Int} (h : isR R) : am_ll am_SH (R + 2) = 8 := by rcases h with rfl | rfl <;> rfl
theorem lr_3 {R : Int} (h : isR R) : am_ln am_SH (R + 3) 20 = 8 := by rcases h with rfl | rfl <;> rfl
theorem mr_3 {R : Int} (h : isR R) : am_ll am_SH (R + 3) = 8 := by rcases h with rfl | rfl <;> rfl
theorem lr_4 {R : Int} (h : isR R) : am_ln am_SH (R + 4) 20 = 8 := by rcases h with rfl | rfl <;> rfl
theorem mr_4 {R : Int} (h : isR R) : am_ll am_SH (R + 4) = 8 := by rcases h with rfl | rfl <;> rfl
theorem lr_5 {R : Int} (h : isR R) : am_ln am_SH (R + 5) 20 = 8 := by rcases h with rfl | rfl <;> rfl
theorem mr_5 {R : Int} (h : isR R) : am_ll am_SH (R + 5) = 8 := by rcases h with rfl | rfl <;> rfl
theorem lr_6 {R : Int} (h : isR R) : am_ln am_SH (R + 6) 20 = 8 := by rcases h with rfl | rfl <;> rfl
theorem mr_6 {R : Int} (h : isR R) : am_ll am_SH (R + 6) = 8 := by rcases h with rfl | rfl <;> rfl
theorem lr_7 {R : Int} (h : isR R) : am_ln am_SH (R + 7) 22 = 8 := by rcases h with rfl | rfl <;> rfl
theorem mr_7 {R : Int} (h : isR R) : am_ll am_SH (R + 7) = 8 := by rcases h with rfl | rfl <;> rfl
theorem kr_8 {R : Int} (h : isR R) : am_kd am_SH (R + 8) = 3 := by rcases h with rfl | rfl <;> rfl
theorem lr_9 {R : Int} (h : isR R) : am_ln am_SH (R + 9) 20 = 4 := by rcases h with rfl | rfl <;> rfl
theorem mr_9 {R : Int} (h : isR R) : am_ll am_SH (R + 9) = 4 := by rcases h with rfl | rfl <;> rfl
theorem lr_10 {R : Int} (h : isR R) : am_ln am_SH (R + 10) 20 = 4 := by rcases h with rfl | rfl <;> rfl
theorem mr_10 {R : Int} (h : isR R) : am_ll am_SH (R + 10) = 4 := by rcases h with rfl | rfl <;> rfl
theorem kr_11 {R : Int} (h : isR R) : am_kd am_SH (R + 11) = 10 := by rcases h with rfl | rfl <;> rfl
theorem lr_12 {R : Int} (h : isR R) : am_ln am_SH (R + 12) 20 = 8 := by rcases h with rfl | rfl <;> rfl
theorem mr_12 {R : Int} (h : isR R) : am_ll am_SH (R + 12) = 8 := by rcases h with rfl | rfl <;> rfl
theorem lr_13 {R : Int} (h : isR R) : am_ln am_SH (R + 13) 20 = 8 := by rcases h with rfl | rfl <;> rfl
theorem mr_13 {R : Int} (h : isR R) : am_ll am_SH (R + 13) = 8 := by rcases h with rfl | rfl <;> rfl
theorem lr_14 {R : Int} (h : isR R) : am_ln am_SH (R + 14) 20 = 8 := by rcases h with rfl | rfl <;> rfl
theorem mr_14 {R : Int} (h : isR R) : am_ll am_SH (R + 14) = 8 := by rcases h with rfl | rfl <;> rfl
theorem lr_15 {R : Int} (h : isR R) : am_ln am_SH (R + 15) 20 = 8 := by rcases h with rfl | rfl <;> rfl
theorem mr_15 {R : Int} (h : isR R) : am_ll am_SH (R + 15) = 8 := by rcases h with rfl | rfl <;> rfl
theorem lr_16 {R : Int} (h : isR R) : am_ln am_SH (R + 16) 20 = 8 := by rcases h with rfl | rfl <;> rfl
theorem mr_16 {R : Int} (h : isR R) : am_ll am_SH (R + 16) = 8 := by rcases h with rfl | rfl <;> rfl
theorem lr_17 {R : Int} (h : isR R) : am_ln am_SH (R + 17) 20 = 8 := by rcases h with rfl | rfl <;> rfl
theorem mr_17 {R : Int} (h : isR R) : am_ll am_SH (R + 17) = 8 := by rcases h with rfl | rfl <;> rfl
theorem lr_18 {R : Int} (h : isR R) : am_ln am_SH (R + 18) 22 = 8 := by rcases h with rfl | rfl <;> rfl
theorem mr_18 {R : Int} (h : isR R) : am_ll am_SH (R + 18) = 8 := by rcases h with rfl | rfl <;> rfl
theorem lr_19 {R : Int} (h : isR R) : am_ln am_SH (R + 19) 22 = 8 := by rcases h with rfl | rfl <;> rfl
theorem mr_19 {R : Int} (h : isR R) : am_ll am_SH (R + 19) = 8 := by rcases h with rfl | rfl <;> rfl
theorem lr_20 {R : Int} (h : isR R) : am_ln am_SH (R + 20) 20 = 900 := by rcases h with rfl | rfl <;> rfl
theorem mr_20 {R : Int} (h : isR R) : am_ll am_SH (R + 20) = 900 := by rcases h with rfl | rfl <;> rfl
theorem ka_0 {e : Int} (h : isA e) : am_kd am_SH e = 0 := by rcases isA_c h with rfl | rfl | rfl | rfl | rfl | rfl | rfl | rfl | rfl | rfl | rfl | rfl | rfl <;> rfl
theorem la_1 {e : Int} (h : isA e) : am_ln am_SH (e + 1) 20 = 8 := by rcases isA_c h with rfl | rfl | rfl | rfl | rfl | rfl | rfl | rfl | rfl | rfl | rfl | rfl | rfl <;> rfl
theorem la_2 {e : Int} (h : isA e) : am_ln am_SH (e + 2) 20 = 8 := by rcases isA_c h with rfl | rfl | rfl | rfl | rfl | rfl | rfl | rfl | rfl | rfl | rfl | rfl | rfl <;> rfl
theorem la_3 {e : Int} (h : isA e) : am_ln am_SH (e + 3) 20 = 8 := by rcases isA_c h with rfl | rfl | rfl | rfl | rfl | rfl | rfl | rfl | rfl | rfl | rfl | rfl | rfl <;> rfl
theorem la_4 {e : Int} (h : isA e) : am_ln am_SH (e + 4) 20 = 8 := by rcases isA_c h with rfl | rfl | rfl | rfl | rfl | rfl | rfl | rfl | rfl | rfl | rfl | rfl | rfl <;> rfl
theorem lg_0 {G : Int} (h : isG G) : am_ln am_SH G 24 = 6 := by rcases h with rfl | rfl <;> rfl
theorem ke_0 {e : Int} (h : isE e) : am_kd am_SH e = 4 := by rcases h with rfl | rfl <;> rfl
theorem le_1 {e : Int} (h : isE e) : am_ln am_SH (e + 1) 20 = 64 := by rcases h with rfl | rfl <;> rfl
theorem me_1 {e : Int} (h : isE e) : am_ll am_SH (e + 1) = 64 := by rcases h with rfl | rfl <;> rfl
theorem lk_0 {o : Int} (h : 128 ≤ o ∧ o ≤ 134) : am_ln am_SH o 20 = 81 := by obtain rfl | rfl | rfl | rfl | rfl | rfl | rfl : o = 128 ∨ o = 129 ∨ o = 130 ∨ o = 131 ∨ o = 132 ∨ o = 133 ∨ o = 134 := (by omega) <;> rfl
theorem mk_0 {o : Int} (h : 128 ≤ o ∧ o ≤ 134) : am_ll am_SH o = 81 := by obtain rfl | rfl | rfl | rfl | rfl | rfl | rfl : o = 128 ∨ o = 129 ∨ o = 130 ∨ o = 131 ∨ o = 132 ∨ o = 133 ∨ o = 134 := (by omega) <;> rfl
/-- the class's fixed references -/
def am_PC (M : Int → Int → Int) : Prop := (M 1 0 = 2 ∧ M 1 3 = 46 ∧ M 1 4 = 47 ∧ M 1 5 = 50 ∧ M 1 6 = 59 ∧ M 1 7 = 64 ∧ M 1 8 = 135 ∧ M 2 0 = 3 ∧ M 46 0 = 2 ∧ M 50 0 = 51 ∧ M 50 1 = 54 ∧ M 50 2 = 55 ∧ M 50 3 = 56 ∧ M 50 4 = 57 ∧ M 50 5 = 58 ∧ M 64 2 = 127 ∧ M 64 3 = 134 ∧ M 135 0 = 136) ∧ (∀ R, isR R → M R 0 = R + 1 ∧ M R 1 = R + 8 ∧ M R 2 = R + 11 ∧ (∀ j, 0 ≤ j → j ≤ 5 → M (R + 1) j = R + 2 + j) ∧ (∀ j, 0 ≤ j → j ≤ 1 → M (R + 8) j = R + 9 + j) ∧ (∀ j, 0 ≤ j → j ≤ 8 → M (R + 11) j = R + 12 + j)) ∧ (∀ e, isA e → ∀ j, 0 ≤ j → j ≤ 3 → M e j = e + 1 + j) ∧ (∀ G, isG G → ∀ j, 0 ≤ j → j ≤ 5 → M G j = G + 1 + 5 * j) ∧ (∀ e, isE e → M e 0 = e + 1) ∧ ∀ j, 0 ≤ j → j ≤ 5 → M 127 j = 128 + j
def pcPl (o j : Int) : Prop := (o = 1 ∧ (j = 0 ∨ (3 ≤ j ∧ j ≤ 8))) ∨ (o = 2 ∧ j = 0) ∨ ((o = 4 ∨ o = 25) ∧ 0 ≤ j ∧ j ≤ 2) ∨ ((o = 5 ∨ o = 26) ∧ 0 ≤ j ∧ j ≤ 5) ∨ ((o = 12 ∨ o = 33) ∧ 0 ≤ j ∧ j ≤ 1) ∨ ((o = 15 ∨ o = 36) ∧ 0 ≤ j ∧ j ≤ 8) ∨ (o = 46 ∧ j = 0) ∨ ((o = 47 ∨ o = 51) ∧ j = 0) ∨ (o = 50 ∧ 0 ≤ j ∧ j ≤ 5) ∨ (o = 59 ∧ 0 ≤ j ∧ j ≤ 3) ∨ (o = 64 ∧ (j = 2 ∨ j = 3)) ∨ ((o = 65 ∨ o = 96) ∧ 0 ≤ j ∧ j ≤ 5) ∨ (66 ≤ o ∧ o ≤ 91 ∧ (o - 66) % 5 = 0 ∧ 0 ≤ j ∧ j ≤ 3) ∨ (97 ≤ o ∧ o ≤ 122 ∧ (o - 97) % 5 = 0 ∧ 0 ≤ j ∧ j ≤ 3) ∨ (o = 127 ∧ 0 ≤ j ∧ j ≤ 5) ∨ (o = 135 ∧ j = 0)
theorem pc_1_0 {M : Int → Int → Int} (h : am_PC M) : M 1 0 = 2 := h.1.1
theorem pc_1_3 {M : Int → Int → Int} (h : am_PC M) : M 1 3 = 46 := h.1.2.1
theorem pc_1_4 {M : Int → Int → Int} (h : am_PC M) : M 1 4 = 47 := h.1.2.2.1
theorem pc_1_5 {M : Int → Int → Int} (h : am_PC M) : M 1 5 = 50 := h.1.2.2.2.1
theorem pc_1_6 {M : Int → Int → Int} (h : am_PC M) : M 1 6 = 59 := h.1.2.2.2.2.1
theorem pc_1_7 {M : Int → Int → Int} (h : am_PC M) : M 1 7 = 64 := h.1.2.2.2.2.2.1
theorem pc_1_8 {M : Int → Int → Int} (h : am_PC M) : M 1 8 = 135 := h.1.2.2.2.2.2.2.1
theorem pc_2_0 {M : Int → Int → Int} (h : am_PC M) : M 2 0 = 3 := h.1.2.2.2.2.2.2.2.1
theorem pc_46_0 {M : Int → Int → Int} (h : am_PC M) : M 46 0 = 2 := h.1.2.2.2.2.2.2.2.2.1
theorem pc_50_0 {M : Int → Int → Int} (h : am_PC M) : M 50 0 = 51 := h.1.2.2.2.2.2.2.2.2.2.1
theorem pc_50_1 {M : Int → Int → Int} (h : am_PC M) : M 50 1 = 54 := h.1.2.2.2.2.2.2.2.2.2.2.1
theorem pc_50_2 {M : Int → Int → Int} (h : am_PC M) : M 50 2 = 55 := h.1.2.2.2.2.2.2.2.2.2.2.2.1
theorem pc_50_3 {M : Int → Int → Int} (h : am_PC M) : M 50 3 = 56 := h.1.2.2.2.2.2.2.2.2.2.2.2.2.1
theorem pc_50_4 {M : Int → Int → Int} (h : am_PC M) : M 50 4 = 57 := h.1.2.2.2.2.2.2.2.2.2.2.2.2.2.1
theorem pc_50_5 {M : Int → Int → Int} (h : am_PC M) : M 50 5 = 58 := h.1.2.2.2.2.2.2.2.2.2.2.2.2.2.2.1
theorem pc_64_2 {M : Int → Int → Int} (h : am_PC M) : M 64 2 = 127 := h.1.2.2.2.2.2.2.2.2.2.2.2.2.2.2.2.1
theorem pc_64_3 {M : Int → Int → Int} (h : am_PC M) : M 64 3 = 134 := h.1.2.2.2.2.2.2.2.2.2.2.2.2.2.2.2.2.1
theorem pc_135_0 {M : Int → Int → Int} (h : am_PC M) : M 135 0 = 136 := h.1.2.2.2.2.2.2.2.2.2.2.2.2.2.2.2.2.2
section
variable {M M' : Int → Int → Int} {R e G : Int}
theorem pr_0 (h : am_PC M) (hR : isR R) : M R 0 = R + 1 := (h.2.1 R hR).1
theorem pr_1 (h : am_PC M) (hR : isR R) : M R 1 = R + 8 := (h.2.1 R hR).2.1
theorem pr_2 (h : am_PC M) (hR : isR R) : M R 2 = R + 11 := (h.2.1 R hR).2.2.1
theorem pr1_0 (h : am_PC M) (hR : isR R) : M (R + 1) 0 = R + 2 := by rw [(h.2.1 R hR).2.2.2.1 0 (by decide) (by decide)]; omega
theorem pr1_1 (h : am_PC M) (hR : isR R) : M (R + 1) 1 = R + 3 := by rw [(h.2.1 R hR).2.2.2.1 1 (by decide) (by decide)]; omega
theorem pr1_2 (h : am_PC M) (hR : isR R) : M (R + 1) 2 = R + 4 := by rw [(h.2.1 R hR).2.2.2.1 2 (by decide) (by decide)]; omega
theorem pr1_3 (h : am_PC M) (hR : isR R) : M (R + 1) 3 = R + 5 := by rw [(h.2.1 R hR).2.2.2.1 3 (by decide) (by decide)]; omega
theorem pr1_4 (h : am_PC M) (hR : isR R) : M (R + 1) 4 = R + 6 := by rw [(h.2.1 R hR).2.2.2.1 4 (by decide) (by decide)]; omega
theorem pr1_5 (h : am_PC M) (hR : isR R) : M (R + 1) 5 = R + 7 := by rw [(h.2.1 R hR).2.2.2.1 5 (by decide) (by decide)]; omega
theorem pr8_0 (h : am_PC M) (hR : isR R) : M (R + 8) 0 = R + 9 := by rw [(h.2.1 R hR).2.2.2.2.1 0 (by decide) (by decide)]; omega
theorem pr8_1 (h : am_PC M) (hR : isR R) : M (R + 8) 1 = R + 10 := by rw [(h.2.1 R hR).2.2.2.2.1 1 (by decide) (by decide)]; omega
theorem prt_0 (h : am_PC M) (hR : isR R) : M (R + 11) 0 = R + 12 := by rw [(h.2.1 R hR).2.2.2.2.2 0 (by decide) (by decide)]; omega
theorem prt_1 (h : am_PC M) (hR : isR R) : M (R + 11) 1 = R + 13 := by rw [(h.2.1 R hR).2.2.2.2.2 1 (by decide) (by decide)]; omega
theorem prt_2 (h : am_PC M) (hR : isR R) : M (R + 11) 2 = R + 14 := by rw [(h.2.1 R hR).2.2.2.2.2 2 (by decide) (by decide)]; omega
theorem prt_3 (h : am_PC M) (hR : isR R) : M (R + 11) 3 = R + 15 := by rw [(h.2.1 R hR).2.2.2.2.2 3 (by decide) (by decide)]; omega
theorem prt_4 (h : am_PC M) (hR : isR R) : M (R + 11) 4 = R + 16 := by rw [(h.2.1 R hR).2.2.2.2.2 4 (by decide) (by decide)]; omega
theorem prt_5 (h : am_PC M) (hR : isR R) : M (R + 11) 5 = R + 17 := by rw [(h.2.1 R hR).2.2.2.2.2 5 (by decide) (by decide)]; omega
theorem prt_6 (h : am_PC M) (hR : isR R) : M (R + 11) 6 = R + 18 := by rw [(h.2.1 R hR).2.2.2.2.2 6 (by decide) (by decide)]; omega
theorem prt_7 (h : am_PC M) (hR : isR R) : M (R + 11) 7 = R + 19 := by rw [(h.2.1 R hR).2.2.2.2.2 7 (by decide) (by decide)]; omega
theorem prt_8 (h : am_PC M) (hR : isR R) : M (R + 11) 8 = R + 20 := by rw [(h.2.1 R hR).2.2.2.2.2 8 (by decide) (by decide)]; omega
theorem pa_0 (h : am_PC M) (hA : isA e) : M e 0 = e + 1 := by rw [h.2.2.1 e hA 0 (by decide) (by decide)]; omega
theorem pa_1 (h : am_PC M) (hA : isA e) : M e 1 = e + 2 := by rw [h.2.2.1 e hA 1 (by decide) (by decide)]; omega
theorem pa_2 (h : am_PC M) (hA : isA e) : M e 2 = e + 3 := by rw [h.2.2.1 e hA 2 (by decide) (by decide)]; omega
theorem pa_3 (h : am_PC M) (hA : isA e) : M e 3 = e + 4 := by rw [h.2.2.1 e hA 3 (by decide) (by decide)]; omega
theorem pg_0 (h : am_PC M) (hG : isG G) {j : Int} (h0 : 0 ≤ j) (h1 : j ≤ 5) : M G j = G + 1 + 5 * j := h.2.2.2.1 G hG j h0 h1
theorem pe_0 (h : am_PC M) (hE : isE e) : M e 0 = e + 1 := h.2.2.2.2.1 e hE
theorem pk_0 (h : am_PC M) {j : Int} (h0 : 0 ≤ j) (h1 : j ≤ 5) : M 127 j = 128 + j := h.2.2.2.2.2 j h0 h1
theorem am_PC.eq (h : am_PC M) (e : ∀ o j, pcPl o j → M' o j = M o j) : am_PC M' := by
  obtain ⟨h1, h2, h3, h4, h5, h6⟩ := h
  refine ⟨?_, fun R hR => ?_, fun a ha j j0 j1 => ?_, fun G hG j j0 j1 => ?_, fun a ha => ?_, fun j j0 j1 => ?_⟩
  · obtain ⟨w0, w1, w2, w3, w4, w5, w6, w7, w8, w9, w10, w11, w12, w13, w14, w15, w16, w17⟩ := h1
    exact ⟨(e 1 0 (by unfold pcPl; decide)).trans w0, (e 1 3 (by unfold pcPl; decide)).trans w1, (e 1 4 (by unfold pcPl; decide)).trans w2, (e 1 5 (by unfold pcPl; decide)).trans w3, (e 1 6 (by unfold pcPl; decide)).trans w4, (e 1 7 (by unfold pcPl; decide)).trans w5, (e 1 8 (by unfold pcPl; decide)).trans w6, (e 2 0 (by unfold pcPl; decide)).trans w7, (e 46 0 (by unfold pcPl; decide)).trans w8, (e 50 0 (by unfold pcPl; decide)).trans w9, (e 50 1 (by unfold pcPl; decide)).trans w10, (e 50 2 (by unfold pcPl; decide)).trans w11, (e 50 3 (by unfold pcPl; decide)).trans w12, (e 50 4 (by unfold pcPl; decide)).trans w13, (e 50 5 (by unfold pcPl; decide)).trans w14, (e 64 2 (by unfold pcPl; decide)).trans w15, (e 64 3 (by unfold pcPl; decide)).trans w16, (e 135 0 (by unfold pcPl; decide)).trans w17⟩
  · obtain ⟨a0, a1, a2, a3, a4, a5⟩ := h2 R hR
    rcases hR with rfl | rfl
    · exact ⟨(e _ _ (Or.inr <| Or.inr <| Or.inl ⟨Or.inl rfl, by first | decide | assumption, by first | decide | assumption⟩)).trans a0, (e _ _ (Or.inr <| Or.inr <| Or.inl ⟨Or.inl rfl, by first | decide | assumption, by first | decide | assumption⟩)).trans a1, (e _ _ (Or.inr <| Or.inr <| Or.inl ⟨Or.inl rfl, by first | decide | assumption, by first | decide | assumption⟩)).trans a2, fun j j0 j1 => (e _ _ (Or.inr <| Or.inr <| Or.inr <| Or.inl ⟨Or.inl rfl, by first | decide | assumption, by first | decide | assumption⟩)).trans (a3 j j0 j1), fun j j0 j1 => (e _ _ (Or.inr <| Or.inr <| Or.inr <| Or.inr <| Or.inl ⟨Or.inl rfl, by first | decide | assumption, by first | decide | assumption⟩)).trans (a4 j j0 j1), fun j j0 j1 => (e _ _ (Or.inr <| Or.inr <| Or.inr <| Or.inr <| Or.inr <| Or.inl ⟨Or.inl rfl, by first | decide | assumption, by first | decide | assumption⟩)).trans (a5 j j0 j1)⟩
    · exact ⟨(e _ _ (Or.inr <| Or.inr <| Or.inl ⟨Or.inr rfl, by first | decide | assumption, by first | decide | assumption⟩)).trans a0, (e _ _ (Or.inr <| Or.inr <| Or.inl ⟨Or.inr rfl, by first | decide | assumption, by first | decide | assumption⟩)).trans a1, (e _ _ (Or.inr <| Or.inr <| Or.inl ⟨Or.inr rfl, by first | decide | assumption, by first | decide | assumption⟩)).trans a2, fun j j0 j1 => (e _ _ (Or.inr <| Or.inr <| Or.inr <| Or.inl ⟨Or.inr rfl, by first | decide | assumption, by first | decide | assumption⟩)).trans (a3 j j0 j1), fun j j0 j1 => (e _ _ (Or.inr <| Or.inr <| Or.inr <| Or.inr <| Or.inl ⟨Or.inr rfl, by first | decide | assumption, by first | decide | assumption⟩)).trans (a4 j j0 j1), fun j j0 j1 => (e _ _ (Or.inr <| Or.inr <| Or.inr <| Or.inr <| Or.inr <| Or.inl ⟨Or.inr rfl, by first | decide | assumption, by first | decide | assumption⟩)).trans (a5 j j0 j1)⟩
  · refine (e _ _ ?_).trans (h3 a ha j j0 j1)
    rcases ha with rfl | ⟨q1, q2, q3⟩ | ⟨q1, q2, q3⟩
    · exact (Or.inr <| Or.inr <| Or.inr <| Or.inr <| Or.inr <| Or.inr <| Or.inr <| Or.inr <| Or.inr <| Or.inl ⟨rfl, j0, j1⟩)
    · exact (Or.inr <| Or.inr <| Or.inr <| Or.inr <| Or.inr <| Or.inr <| Or.inr <| Or.inr <| Or.inr <| Or.inr <| Or.inr <| Or.inr <| Or.inl ⟨q1, q2, q3, j0, j1⟩)
    · exact (Or.inr <| Or.inr <| Or.inr <| Or.inr <| Or.inr <| Or.inr <| Or.inr <| Or.inr <| Or.inr <| Or.inr <| Or.inr <| Or.inr <| Or.inr <| Or.inl ⟨q1, q2, q3, j0, j1⟩)
  · exact (e _ _ ((Or.inr <| Or.inr <| Or.inr <| Or.inr <| Or.inr <| Or.inr <| Or.inr <| Or.inr <| Or.inr <| Or.inr <| Or.inr <| Or.inl ⟨hG, j0, j1⟩))).trans (h4 G hG j j0 j1)
  · exact (e _ _ ((Or.inr <| Or.inr <| Or.inr <| Or.inr <| Or.inr <| Or.inr <| Or.inr <| Or.inl ⟨ha, rfl⟩))).trans (h5 a ha)
  · exact (e _ _ ((Or.inr <| Or.inr <| Or.inr <| Or.inr <| Or.inr <| Or.inr <| Or.inr <| Or.inr <| Or.inr <| Or.inr <| Or.inr <| Or.inr <| Or.inr <| Or.inr <| Or.inl ⟨rfl, j0, j1⟩))).trans (h6 j j0 j1)
theorem am_PC.up (h : am_PC M) {o j v : Int} (n : ¬ pcPl o j) : am_PC (am_up M o j v) := h.eq (fun a b q => by
  rw [am_up_eq]
  split
  · split
    · rename_i e1 e2; rw [e1, e2] at q; exact absurd q n
    · rfl
  · rfl)
end
