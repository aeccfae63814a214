/-! the pieces of Math, Str, Lat, Prec, Arr -/
def b_Math_minI_10 (d : Nat) (Q : AV → am_S → Prop) : am_K := c_iret Q
set_option maxRecDepth 100000 in
theorem B_Math_minI_10 {d : Nat} {Q : AV → am_S → Prop} : am_To (d + 1) m_Math_minI 10 Q (b_Math_minI_10 d Q) := to_iret (pc := 10) (by decide +kernel) rfl
def b_Math_minI_9 (d : Nat) (Q : AV → am_S → Prop) : am_K := c_iload 1 <| (b_Math_minI_10 d Q)
set_option maxRecDepth 100000 in
theorem B_Math_minI_9 {d : Nat} {Q : AV → am_S → Prop} : am_To (d + 1) m_Math_minI 9 Q (b_Math_minI_9 d Q) := to_iload_n (pc := 9) (j := 1) (by decide +kernel) rfl <| B_Math_minI_10
def b_Math_minI_0 (d : Nat) (Q : AV → am_S → Prop) : am_K := c_iload 0 <| c_iload 1 <| c_icmp_gt (b_Math_minI_9 d Q) <| c_iload 0 <| (b_Math_minI_10 d Q)
set_option maxRecDepth 100000 in
theorem B_Math_minI_0 {d : Nat} {Q : AV → am_S → Prop} : am_To (d + 1) m_Math_minI 0 Q (b_Math_minI_0 d Q) := to_iload_n (pc := 0) (j := 0) (by decide +kernel) rfl <| to_iload_n (pc := 1) (j := 1) (by decide +kernel) rfl <| to_icmp_gt (pc := 2) (off := 7) (tgt := 9) (by decide +kernel) (by decide) B_Math_minI_9 <| to_iload_n (pc := 5) (j := 0) (by decide +kernel) rfl <| to_goto (pc := 6) (off := 4) (tgt := 10) (by decide +kernel) (by decide) B_Math_minI_10
def b_Math_floorMod_18 (d : Nat) (Q : AV → am_S → Prop) : am_K := c_iload 2 <| c_iret Q
set_option maxRecDepth 100000 in
theorem B_Math_floorMod_18 {d : Nat} {Q : AV → am_S → Prop} : am_To (d + 1) m_Math_floorMod 18 Q (b_Math_floorMod_18 d Q) := to_iload_n (pc := 18) (j := 2) (by decide +kernel) rfl <| to_iret (pc := 19) (by decide +kernel) rfl
def b_Math_floorMod_0 (d : Nat) (Q : AV → am_S → Prop) : am_K := c_iload 0 <| c_iload 1 <| c_irem <| c_istore 2 <| c_iload 0 <| c_iload 1 <| c_ixor <| c_if_ge (b_Math_floorMod_18 d Q) <| c_iload 2 <| c_if_eq (b_Math_floorMod_18 d Q) <| c_iload 2 <| c_iload 1 <| c_iadd <| c_iret Q
set_option maxRecDepth 100000 in
theorem B_Math_floorMod_0 {d : Nat} {Q : AV → am_S → Prop} : am_To (d + 1) m_Math_floorMod 0 Q (b_Math_floorMod_0 d Q) := to_iload_n (pc := 0) (j := 0) (by decide +kernel) rfl <| to_iload_n (pc := 1) (j := 1) (by decide +kernel) rfl <| to_irem (pc := 2) (by decide +kernel) <| to_istore_n (pc := 3) (j := 2) (by decide +kernel) rfl (by decide) <| to_iload_n (pc := 4) (j := 0) (by decide +kernel) rfl <| to_iload_n (pc := 5) (j := 1) (by decide +kernel) rfl <| to_ixor (pc := 6) (by decide +kernel) <| to_if_ge (pc := 7) (off := 11) (tgt := 18) (by decide +kernel) (by decide) B_Math_floorMod_18 <| to_iload_n (pc := 10) (j := 2) (by decide +kernel) rfl <| to_if_eq (pc := 11) (off := 7) (tgt := 18) (by decide +kernel) (by decide) B_Math_floorMod_18 <| to_iload_n (pc := 14) (j := 2) (by decide +kernel) rfl <| to_iload_n (pc := 15) (j := 1) (by decide +kernel) rfl <| to_iadd (pc := 16) (by decide +kernel) <| to_iret (pc := 17) (by decide +kernel) rfl
def b_Math_floorDiv_21 (d : Nat) (Q : AV → am_S → Prop) : am_K := c_iload 2 <| c_iret Q
set_option maxRecDepth 100000 in
theorem B_Math_floorDiv_21 {d : Nat} {Q : AV → am_S → Prop} : am_To (d + 1) m_Math_floorDiv 21 Q (b_Math_floorDiv_21 d Q) := to_iload_n (pc := 21) (j := 2) (by decide +kernel) rfl <| to_iret (pc := 22) (by decide +kernel) rfl
def b_Math_floorDiv_0 (d : Nat) (Q : AV → am_S → Prop) : am_K := c_iload 0 <| c_iload 1 <| c_idiv <| c_istore 2 <| c_iload 0 <| c_iload 1 <| c_ixor <| c_if_ge (b_Math_floorDiv_21 d Q) <| c_iload 2 <| c_iload 1 <| c_imul <| c_iload 0 <| c_icmp_eq (b_Math_floorDiv_21 d Q) <| c_iload 2 <| c_const 1 <| c_isub <| c_iret Q
set_option maxRecDepth 100000 in
theorem B_Math_floorDiv_0 {d : Nat} {Q : AV → am_S → Prop} : am_To (d + 1) m_Math_floorDiv 0 Q (b_Math_floorDiv_0 d Q) := to_iload_n (pc := 0) (j := 0) (by decide +kernel) rfl <| to_iload_n (pc := 1) (j := 1) (by decide +kernel) rfl <| to_idiv (pc := 2) (by decide +kernel) <| to_istore_n (pc := 3) (j := 2) (by decide +kernel) rfl (by decide) <| to_iload_n (pc := 4) (j := 0) (by decide +kernel) rfl <| to_iload_n (pc := 5) (j := 1) (by decide +kernel) rfl <| to_ixor (pc := 6) (by decide +kernel) <| to_if_ge (pc := 7) (off := 14) (tgt := 21) (by decide +kernel) (by decide) B_Math_floorDiv_21 <| to_iload_n (pc := 10) (j := 2) (by decide +kernel) rfl <| to_iload_n (pc := 11) (j := 1) (by decide +kernel) rfl <| to_imul (pc := 12) (by decide +kernel) <| to_iload_n (pc := 13) (j := 0) (by decide +kernel) rfl <| to_icmp_eq (pc := 14) (off := 7) (tgt := 21) (by decide +kernel) (by decide) B_Math_floorDiv_21 <| to_iload_n (pc := 17) (j := 2) (by decide +kernel) rfl <| to_iconst (pc := 18) (by decide +kernel) ⟨by decide, by decide⟩ <| to_isub (pc := 19) (by decide +kernel) <| to_iret (pc := 20) (by decide +kernel) rfl
def b_Math_abs_10 (d : Nat) (Q : AV → am_S → Prop) : am_K := c_iret Q
set_option maxRecDepth 100000 in
theorem B_Math_abs_10 {d : Nat} {Q : AV → am_S → Prop} : am_To (d + 1) m_Math_abs 10 Q (b_Math_abs_10 d Q) := to_iret (pc := 10) (by decide +kernel) rfl
def b_Math_abs_9 (d : Nat) (Q : AV → am_S → Prop) : am_K := c_iload 0 <| (b_Math_abs_10 d Q)
set_option maxRecDepth 100000 in
theorem B_Math_abs_9 {d : Nat} {Q : AV → am_S → Prop} : am_To (d + 1) m_Math_abs 9 Q (b_Math_abs_9 d Q) := to_iload_n (pc := 9) (j := 0) (by decide +kernel) rfl <| B_Math_abs_10
def b_Math_abs_0 (d : Nat) (Q : AV → am_S → Prop) : am_K := c_iload 0 <| c_if_ge (b_Math_abs_9 d Q) <| c_iload 0 <| c_ineg <| (b_Math_abs_10 d Q)
set_option maxRecDepth 100000 in
theorem B_Math_abs_0 {d : Nat} {Q : AV → am_S → Prop} : am_To (d + 1) m_Math_abs 0 Q (b_Math_abs_0 d Q) := to_iload_n (pc := 0) (j := 0) (by decide +kernel) rfl <| to_if_ge (pc := 1) (off := 8) (tgt := 9) (by decide +kernel) (by decide) B_Math_abs_9 <| to_iload_n (pc := 4) (j := 0) (by decide +kernel) rfl <| to_ineg (pc := 5) (by decide +kernel) <| to_goto (pc := 6) (off := 4) (tgt := 10) (by decide +kernel) (by decide) B_Math_abs_10
def b_Math_maxI_10 (d : Nat) (Q : AV → am_S → Prop) : am_K := c_iret Q
set_option maxRecDepth 100000 in
theorem B_Math_maxI_10 {d : Nat} {Q : AV → am_S → Prop} : am_To (d + 1) m_Math_maxI 10 Q (b_Math_maxI_10 d Q) := to_iret (pc := 10) (by decide +kernel) rfl
def b_Math_maxI_9 (d : Nat) (Q : AV → am_S → Prop) : am_K := c_iload 1 <| (b_Math_maxI_10 d Q)
set_option maxRecDepth 100000 in
theorem B_Math_maxI_9 {d : Nat} {Q : AV → am_S → Prop} : am_To (d + 1) m_Math_maxI 9 Q (b_Math_maxI_9 d Q) := to_iload_n (pc := 9) (j := 1) (by decide +kernel) rfl <| B_Math_maxI_10
def b_Math_maxI_0 (d : Nat) (Q : AV → am_S → Prop) : am_K := c_iload 0 <| c_iload 1 <| c_icmp_lt (b_Math_maxI_9 d Q) <| c_iload 0 <| (b_Math_maxI_10 d Q)
set_option maxRecDepth 100000 in
theorem B_Math_maxI_0 {d : Nat} {Q : AV → am_S → Prop} : am_To (d + 1) m_Math_maxI 0 Q (b_Math_maxI_0 d Q) := to_iload_n (pc := 0) (j := 0) (by decide +kernel) rfl <| to_iload_n (pc := 1) (j := 1) (by decide +kernel) rfl <| to_icmp_lt (pc := 2) (off := 7) (tgt := 9) (by decide +kernel) (by decide) B_Math_maxI_9 <| to_iload_n (pc := 5) (j := 0) (by decide +kernel) rfl <| to_goto (pc := 6) (off := 4) (tgt := 10) (by decide +kernel) (by decide) B_Math_maxI_10
def b_Math_minL_11 (d : Nat) (Q : AV → am_S → Prop) : am_K := c_lret Q
set_option maxRecDepth 100000 in
theorem B_Math_minL_11 {d : Nat} {Q : AV → am_S → Prop} : am_To (d + 1) m_Math_minL 11 Q (b_Math_minL_11 d Q) := to_lret (pc := 11) (by decide +kernel) rfl
def b_Math_minL_10 (d : Nat) (Q : AV → am_S → Prop) : am_K := c_lload 2 <| (b_Math_minL_11 d Q)
set_option maxRecDepth 100000 in
theorem B_Math_minL_10 {d : Nat} {Q : AV → am_S → Prop} : am_To (d + 1) m_Math_minL 10 Q (b_Math_minL_10 d Q) := to_lload_n (pc := 10) (j := 2) (by decide +kernel) rfl <| B_Math_minL_11
def b_Math_minL_0 (d : Nat) (Q : AV → am_S → Prop) : am_K := c_lload 0 <| c_lload 2 <| c_lcmp <| c_if_gt (b_Math_minL_10 d Q) <| c_lload 0 <| (b_Math_minL_11 d Q)
set_option maxRecDepth 100000 in
theorem B_Math_minL_0 {d : Nat} {Q : AV → am_S → Prop} : am_To (d + 1) m_Math_minL 0 Q (b_Math_minL_0 d Q) := to_lload_n (pc := 0) (j := 0) (by decide +kernel) rfl <| to_lload_n (pc := 1) (j := 2) (by decide +kernel) rfl <| to_lcmp (pc := 2) (by decide +kernel) <| to_if_gt (pc := 3) (off := 7) (tgt := 10) (by decide +kernel) (by decide) B_Math_minL_10 <| to_lload_n (pc := 6) (j := 0) (by decide +kernel) rfl <| to_goto (pc := 7) (off := 4) (tgt := 11) (by decide +kernel) (by decide) B_Math_minL_11
def b_Math_maxL_11 (d : Nat) (Q : AV → am_S → Prop) : am_K := c_lret Q
set_option maxRecDepth 100000 in
theorem B_Math_maxL_11 {d : Nat} {Q : AV → am_S → Prop} : am_To (d + 1) m_Math_maxL 11 Q (b_Math_maxL_11 d Q) := to_lret (pc := 11) (by decide +kernel) rfl
def b_Math_maxL_10 (d : Nat) (Q : AV → am_S → Prop) : am_K := c_lload 2 <| (b_Math_maxL_11 d Q)
set_option maxRecDepth 100000 in
theorem B_Math_maxL_10 {d : Nat} {Q : AV → am_S → Prop} : am_To (d + 1) m_Math_maxL 10 Q (b_Math_maxL_10 d Q) := to_lload_n (pc := 10) (j := 2) (by decide +kernel) rfl <| B_Math_maxL_11
def b_Math_maxL_0 (d : Nat) (Q : AV → am_S → Prop) : am_K := c_lload 0 <| c_lload 2 <| c_lcmp <| c_if_lt (b_Math_maxL_10 d Q) <| c_lload 0 <| (b_Math_maxL_11 d Q)
set_option maxRecDepth 100000 in
theorem B_Math_maxL_0 {d : Nat} {Q : AV → am_S → Prop} : am_To (d + 1) m_Math_maxL 0 Q (b_Math_maxL_0 d Q) := to_lload_n (pc := 0) (j := 0) (by decide +kernel) rfl <| to_lload_n (pc := 1) (j := 2) (by decide +kernel) rfl <| to_lcmp (pc := 2) (by decide +kernel) <| to_if_lt (pc := 3) (off := 7) (tgt := 10) (by decide +kernel) (by decide) B_Math_maxL_10 <| to_lload_n (pc := 6) (j := 0) (by decide +kernel) rfl <| to_goto (pc := 7) (off := 4) (tgt := 11) (by decide +kernel) (by decide) B_Math_maxL_11
def b_Str_length_0 (d : Nat) (Q : AV → am_S → Prop) : am_K := c_aload 0 <| c_sval <| c_blen <| c_aload 0 <| c_callT0 d m_Str_coder <| c_ishr <| c_iret Q
set_option maxRecDepth 100000 in
theorem B_Str_length_0 {d : Nat} {Q : AV → am_S → Prop} : am_To (d + 1) m_Str_length 0 Q (b_Str_length_0 d Q) := to_aload_n (pc := 0) (j := 0) (by decide +kernel) rfl <| to_sval (pc := 1) (index := 9) (by decide +kernel) (am_wl wd_9_157 rfl) <| to_blen (pc := 4) (by decide +kernel) <| to_aload_n (pc := 5) (j := 0) (by decide +kernel) rfl <| to_callT0 (pc := 6) (index := 335) rfl (by decide +kernel) ck_Str_coder (Or.inl (am_wl wd_3_52 rfl)) (am_wl wd_3_53 rfl) (am_wl wd_3_54 rfl) <| to_ishr (pc := 9) (by decide +kernel) <| to_iret (pc := 10) (by decide +kernel) rfl
def b_Str_coder_14 (d : Nat) (Q : AV → am_S → Prop) : am_K := c_bret Q
set_option maxRecDepth 100000 in
theorem B_Str_coder_14 {d : Nat} {Q : AV → am_S → Prop} : am_To (d + 1) m_Str_coder 14 Q (b_Str_coder_14 d Q) := to_bret (pc := 14) (by decide +kernel) rfl
def b_Str_coder_13 (d : Nat) (Q : AV → am_S → Prop) : am_K := c_const 1 <| (b_Str_coder_14 d Q)
set_option maxRecDepth 100000 in
theorem B_Str_coder_13 {d : Nat} {Q : AV → am_S → Prop} : am_To (d + 1) m_Str_coder 13 Q (b_Str_coder_13 d Q) := to_iconst (pc := 13) (by decide +kernel) ⟨by decide, by decide⟩ <| B_Str_coder_14
def b_Str_coder_0 (d : Nat) (Q : AV → am_S → Prop) : am_K := c_const 1 <| c_if_eq (b_Str_coder_13 d Q) <| c_aload 0 <| c_scod <| (b_Str_coder_14 d Q)
set_option maxRecDepth 100000 in
theorem B_Str_coder_0 {d : Nat} {Q : AV → am_S → Prop} : am_To (d + 1) m_Str_coder 0 Q (b_Str_coder_0 d Q) := to_gcs (pc := 0) (index := 38) (by decide +kernel) (am_wl wd_3_56 rfl) <| to_if_eq (pc := 3) (off := 10) (tgt := 13) (by decide +kernel) (by decide) B_Str_coder_13 <| to_aload_n (pc := 6) (j := 0) (by decide +kernel) rfl <| to_scod (pc := 7) (index := 15) (by decide +kernel) (am_wl wd_9_158 rfl) <| to_goto (pc := 10) (off := 4) (tgt := 14) (by decide +kernel) (by decide) B_Str_coder_14
def b_Str_charAt_16 (d : Nat) (Q : AV → am_S → Prop) : am_K := c_aload 0 <| c_sval <| c_iload 1 <| c_no
set_option maxRecDepth 100000 in
theorem B_Str_charAt_16 {d : Nat} {Q : AV → am_S → Prop} : am_To (d + 1) m_Str_charAt 16 Q (b_Str_charAt_16 d Q) := to_aload_n (pc := 16) (j := 0) (by decide +kernel) rfl <| to_sval (pc := 17) (index := 9) (by decide +kernel) (am_wl wd_9_157 rfl) <| to_iload_n (pc := 20) (j := 1) (by decide +kernel) rfl <| to_no
def b_Str_charAt_0 (d : Nat) (Q : AV → am_S → Prop) : am_K := c_aload 0 <| c_callT0 d m_Str_isLatin1 <| c_if_eq (b_Str_charAt_16 d Q) <| c_aload 0 <| c_sval <| c_iload 1 <| c_callS2 d m_Lat_charAt <| c_cret Q
set_option maxRecDepth 100000 in
theorem B_Str_charAt_0 {d : Nat} {Q : AV → am_S → Prop} : am_To (d + 1) m_Str_charAt 0 Q (b_Str_charAt_0 d Q) := to_aload_n (pc := 0) (j := 0) (by decide +kernel) rfl <| to_callT0 (pc := 1) (index := 492) rfl (by decide +kernel) ck_Str_isLatin1 (Or.inl (am_wl wd_3_62 rfl)) (am_wl wd_3_63 rfl) (am_wl wd_3_64 rfl) <| to_if_eq (pc := 4) (off := 12) (tgt := 16) (by decide +kernel) (by decide) B_Str_charAt_16 <| to_aload_n (pc := 7) (j := 0) (by decide +kernel) rfl <| to_sval (pc := 8) (index := 9) (by decide +kernel) (am_wl wd_9_157 rfl) <| to_iload_n (pc := 11) (j := 1) (by decide +kernel) rfl <| to_callS2 (pc := 12) (index := 495) (by decide +kernel) ck_Lat_charAt (Or.inl (am_wl wd_3_66 rfl)) (am_wl wd_3_67 rfl) <| to_cret (pc := 15) (by decide +kernel) rfl
def b_Str_isLatin1_18 (d : Nat) (Q : AV → am_S → Prop) : am_K := c_zret Q
set_option maxRecDepth 100000 in
theorem B_Str_isLatin1_18 {d : Nat} {Q : AV → am_S → Prop} : am_To (d + 1) m_Str_isLatin1 18 Q (b_Str_isLatin1_18 d Q) := to_zret (pc := 18) (by decide +kernel) rfl
def b_Str_isLatin1_17 (d : Nat) (Q : AV → am_S → Prop) : am_K := c_const 0 <| (b_Str_isLatin1_18 d Q)
set_option maxRecDepth 100000 in
theorem B_Str_isLatin1_17 {d : Nat} {Q : AV → am_S → Prop} : am_To (d + 1) m_Str_isLatin1 17 Q (b_Str_isLatin1_17 d Q) := to_iconst (pc := 17) (by decide +kernel) ⟨by decide, by decide⟩ <| B_Str_isLatin1_18
def b_Str_isLatin1_0 (d : Nat) (Q : AV → am_S → Prop) : am_K := c_const 1 <| c_if_eq (b_Str_isLatin1_17 d Q) <| c_aload 0 <| c_scod <| c_if_ne (b_Str_isLatin1_17 d Q) <| c_const 1 <| (b_Str_isLatin1_18 d Q)
set_option maxRecDepth 100000 in
theorem B_Str_isLatin1_0 {d : Nat} {Q : AV → am_S → Prop} : am_To (d + 1) m_Str_isLatin1 0 Q (b_Str_isLatin1_0 d Q) := to_gcs (pc := 0) (index := 38) (by decide +kernel) (am_wl wd_3_56 rfl) <| to_if_eq (pc := 3) (off := 14) (tgt := 17) (by decide +kernel) (by decide) B_Str_isLatin1_17 <| to_aload_n (pc := 6) (j := 0) (by decide +kernel) rfl <| to_scod (pc := 7) (index := 15) (by decide +kernel) (am_wl wd_9_158 rfl) <| to_if_ne (pc := 10) (off := 7) (tgt := 17) (by decide +kernel) (by decide) B_Str_isLatin1_17 <| to_iconst (pc := 13) (by decide +kernel) ⟨by decide, by decide⟩ <| to_goto (pc := 14) (off := 4) (tgt := 18) (by decide +kernel) (by decide) B_Str_isLatin1_18
def b_Str_checkIndex_0 (d : Nat) (Q : AV → am_S → Prop) : am_K := c_iload 0 <| c_iload 1 <| c_ref (-1000000) <| c_callS3 d m_Prec_checkIndex <| c_pop <| c_vret Q
set_option maxRecDepth 100000 in
theorem B_Str_checkIndex_0 {d : Nat} {Q : AV → am_S → Prop} : am_To (d + 1) m_Str_checkIndex 0 Q (b_Str_checkIndex_0 d Q) := to_iload_n (pc := 0) (j := 0) (by decide +kernel) rfl <| to_iload_n (pc := 1) (j := 1) (by decide +kernel) rfl <| to_gfm (pc := 2) (index := 1053) (by decide +kernel) (am_wl wd_3_72 rfl) <| to_callS3 (pc := 5) (index := 1059) (by decide +kernel) ck_Prec_checkIndex (Or.inl (am_wl wd_3_74 rfl)) (am_wl wd_3_75 rfl) <| to_pop (pc := 8) (by decide +kernel) <| to_vret (pc := 9) (by decide +kernel) rfl
def b_Lat_charAt_0 (d : Nat) (Q : AV → am_S → Prop) : am_K := c_iload 1 <| c_aload 0 <| c_blen <| c_callS2 d m_Str_checkIndex <| c_aload 0 <| c_iload 1 <| c_bld <| c_const 255 <| c_iand <| c_i2c <| c_cret Q
set_option maxRecDepth 100000 in
theorem B_Lat_charAt_0 {d : Nat} {Q : AV → am_S → Prop} : am_To (d + 1) m_Lat_charAt 0 Q (b_Lat_charAt_0 d Q) := to_iload_n (pc := 0) (j := 1) (by decide +kernel) rfl <| to_aload_n (pc := 1) (j := 0) (by decide +kernel) rfl <| to_blen (pc := 2) (by decide +kernel) <| to_callS2 (pc := 3) (index := 9) (by decide +kernel) ck_Str_checkIndex (Or.inl (am_wl wd_3_69 rfl)) (am_wl wd_3_70 rfl) <| to_aload_n (pc := 6) (j := 0) (by decide +kernel) rfl <| to_iload_n (pc := 7) (j := 1) (by decide +kernel) rfl <| to_bld (pc := 8) (by decide +kernel) <| to_sipush (pc := 9) (n := 255) (by decide +kernel) (by decide +kernel) ⟨by decide, by decide⟩ <| to_iand (pc := 12) (by decide +kernel) <| to_i2c (pc := 13) (by decide +kernel) <| to_cret (pc := 14) (by decide +kernel) rfl
def b_Prec_checkIndex_16 (d : Nat) (Q : AV → am_S → Prop) : am_K := c_iload 0 <| c_iret Q
set_option maxRecDepth 100000 in
theorem B_Prec_checkIndex_16 {d : Nat} {Q : AV → am_S → Prop} : am_To (d + 1) m_Prec_checkIndex 16 Q (b_Prec_checkIndex_16 d Q) := to_iload_n (pc := 16) (j := 0) (by decide +kernel) rfl <| to_iret (pc := 17) (by decide +kernel) rfl
def b_Prec_checkIndex_9 (d : Nat) (Q : AV → am_S → Prop) : am_K := c_aload 2 <| c_iload 0 <| c_iload 1 <| c_no
set_option maxRecDepth 100000 in
theorem B_Prec_checkIndex_9 {d : Nat} {Q : AV → am_S → Prop} : am_To (d + 1) m_Prec_checkIndex 9 Q (b_Prec_checkIndex_9 d Q) := to_aload_n (pc := 9) (j := 2) (by decide +kernel) rfl <| to_iload_n (pc := 10) (j := 0) (by decide +kernel) rfl <| to_iload_n (pc := 11) (j := 1) (by decide +kernel) rfl <| to_no
def b_Prec_checkIndex_0 (d : Nat) (Q : AV → am_S → Prop) : am_K := c_iload 0 <| c_if_lt (b_Prec_checkIndex_9 d Q) <| c_iload 0 <| c_iload 1 <| c_icmp_lt (b_Prec_checkIndex_16 d Q) <| (b_Prec_checkIndex_9 d Q)
set_option maxRecDepth 100000 in
theorem B_Prec_checkIndex_0 {d : Nat} {Q : AV → am_S → Prop} : am_To (d + 1) m_Prec_checkIndex 0 Q (b_Prec_checkIndex_0 d Q) := to_iload_n (pc := 0) (j := 0) (by decide +kernel) rfl <| to_if_lt (pc := 1) (off := 8) (tgt := 9) (by decide +kernel) (by decide) B_Prec_checkIndex_9 <| to_iload_n (pc := 4) (j := 0) (by decide +kernel) rfl <| to_iload_n (pc := 5) (j := 1) (by decide +kernel) rfl <| to_icmp_lt (pc := 6) (off := 10) (tgt := 16) (by decide +kernel) (by decide) B_Prec_checkIndex_16 <| B_Prec_checkIndex_9
def b_Arr_fill_20 (d : Nat) (Q : AV → am_S → Prop) : am_K := c_vret Q
set_option maxRecDepth 100000 in
theorem B_Arr_fill_20 {d : Nat} {Q : AV → am_S → Prop} : am_To (d + 1) m_Arr_fill 20 Q (b_Arr_fill_20 d Q) := to_vret (pc := 20) (by decide +kernel) rfl
def b_Arr_fill_5 (d : Nat) (Q : AV → am_S → Prop) : am_K := c_iload 2 <| c_iload 3 <| c_icmp_ge (b_Arr_fill_20 d Q) <| c_aload 0 <| c_iload 2 <| c_iload 1 <| c_iast <| c_iinc 2 1 <| (c_at (d + 1) m_Arr_fill 5 Q)
set_option maxRecDepth 100000 in
theorem B_Arr_fill_5 {d : Nat} {Q : AV → am_S → Prop} : am_To (d + 1) m_Arr_fill 5 Q (b_Arr_fill_5 d Q) := to_iload_n (pc := 5) (j := 2) (by decide +kernel) rfl <| to_iload_n (pc := 6) (j := 3) (by decide +kernel) rfl <| to_icmp_ge (pc := 7) (off := 13) (tgt := 20) (by decide +kernel) (by decide) B_Arr_fill_20 <| to_aload_n (pc := 10) (j := 0) (by decide +kernel) rfl <| to_iload_n (pc := 11) (j := 2) (by decide +kernel) rfl <| to_iload_n (pc := 12) (j := 1) (by decide +kernel) rfl <| to_iast (pc := 13) (by decide +kernel) <| to_iinc (pc := 14) (by decide +kernel) <| to_goto (pc := 17) (off := (-12)) (tgt := 5) (by decide +kernel) (by decide) to_at
def b_Arr_fill_0 (d : Nat) (Q : AV → am_S → Prop) : am_K := c_const 0 <| c_istore 2 <| c_aload 0 <| c_alen <| c_istore 3 <| (c_at (d + 1) m_Arr_fill 5 Q)
set_option maxRecDepth 100000 in
theorem B_Arr_fill_0 {d : Nat} {Q : AV → am_S → Prop} : am_To (d + 1) m_Arr_fill 0 Q (b_Arr_fill_0 d Q) := to_iconst (pc := 0) (by decide +kernel) ⟨by decide, by decide⟩ <| to_istore_n (pc := 1) (j := 2) (by decide +kernel) rfl (by decide) <| to_aload_n (pc := 2) (j := 0) (by decide +kernel) rfl <| to_alen (pc := 3) (by decide +kernel) <| to_istore_n (pc := 4) (j := 3) (by decide +kernel) rfl (by decide) <| to_at
