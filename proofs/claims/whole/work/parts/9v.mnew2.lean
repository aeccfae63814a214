/-! the model's constructor, and the law's beginning -/
section
variable {M M0 : Int → Int → Int} {d : Nat} {Q : AV → am_S → Prop} {st : am_S} {l : List (Int × Int × Int)}
theorem z_Md_912 (c : CS 184 l M0 st) (h : ∀ st, CS 191 ((137, 83, 191) :: (137, 79, 190) :: (137, 78, 189) :: (137, 77, 188) :: (137, 76, 187) :: (137, 75, 186) :: (137, 74, 185) :: (137, 73, 184) :: l) M0 st → Q none st) : b_Md_init_912 (d + 5) Q 7 596 (am_ent [vR 137] m_Md_init.2.2.1) [vR 184, vR 137] st := by
  unfold b_Md_init_912
  refine q_putR c (by decide) (by decide) rfl (fun st c => ?_)
  refine q_aload (x := 137) rfl ?_
  refine q_const ?_
  refine q_newa_int (o := 185) (N := 8) (rc' := 6) (rs' := 588) c rfl (by decide) rfl rfl rfl rfl (by decide) (fun st c => ?_)
  refine q_putR c (by decide) (by decide) rfl (fun st c => ?_)
  refine q_aload (x := 137) rfl ?_
  refine q_const ?_
  refine q_newa_int (o := 186) (N := 8) (rc' := 5) (rs' := 580) c rfl (by decide) rfl rfl rfl rfl (by decide) (fun st c => ?_)
  refine q_putR c (by decide) (by decide) rfl (fun st c => ?_)
  refine q_aload (x := 137) rfl ?_
  refine q_const ?_
  refine q_newa_int (o := 187) (N := 8) (rc' := 4) (rs' := 572) c rfl (by decide) rfl rfl rfl rfl (by decide) (fun st c => ?_)
  refine q_putR c (by decide) (by decide) rfl (fun st c => ?_)
  refine q_aload (x := 137) rfl ?_
  refine q_const ?_
  refine q_newa_int (o := 188) (N := 8) (rc' := 3) (rs' := 564) c rfl (by decide) rfl rfl rfl rfl (by decide) (fun st c => ?_)
  refine q_putR c (by decide) (by decide) rfl (fun st c => ?_)
  refine q_aload (x := 137) rfl ?_
  refine q_const ?_
  refine q_newa_int (o := 189) (N := 8) (rc' := 2) (rs' := 556) c rfl (by decide) rfl rfl rfl rfl (by decide) (fun st c => ?_)
  refine q_putR c (by decide) (by decide) rfl (fun st c => ?_)
  refine q_aload (x := 137) rfl ?_
  refine q_const ?_
  refine q_newa_int (o := 190) (N := 256) (rc' := 1) (rs' := 300) c rfl (by decide) rfl rfl rfl rfl (by decide) (fun st c => ?_)
  refine q_putR c (by decide) (by decide) rfl (fun st c => ?_)
  refine q_aload (x := 137) rfl ?_
  refine q_const ?_
  refine q_newa_int (o := 191) (N := 300) (rc' := 0) (rs' := 0) c rfl (by decide) rfl rfl rfl rfl (by decide) (fun st c => ?_)
  refine q_putR c (by decide) (by decide) rfl (fun st c => ?_)
  exact h _ c
theorem z_Md_821 (c : CS 174 l M0 st) (h : ∀ st, CS 191 ((137, 83, 191) :: (137, 79, 190) :: (137, 78, 189) :: (137, 77, 188) :: (137, 76, 187) :: (137, 75, 186) :: (137, 74, 185) :: (137, 73, 184) :: (137, 72, 183) :: (137, 69, 182) :: (137, 68, (-1)) :: (137, 67, (-1)) :: (137, 66, 181) :: (137, 64, 180) :: (137, 51, 179) :: (137, 49, 178) :: (137, 48, 177) :: (137, 47, 176) :: (137, 46, 175) :: l) M0 st → Q none st) : b_Md_init_821 (d + 5) Q 17 58436 (am_ent [vR 137] m_Md_init.2.2.1) [] st := by
  unfold b_Md_init_821
  refine q_aload (x := 137) rfl ?_
  refine q_const ?_
  refine q_newa_long (o := 175) (N := 16) (rc' := 16) (rs' := 58420) c rfl (by decide) rfl rfl rfl rfl (by decide) (fun st c => ?_)
  refine q_putR c (by decide) (by decide) rfl (fun st c => ?_)
  refine q_aload (x := 137) rfl ?_
  refine q_const ?_
  refine q_newa_long (o := 176) (N := 8) (rc' := 15) (rs' := 58412) c rfl (by decide) rfl rfl rfl rfl (by decide) (fun st c => ?_)
  refine q_putR c (by decide) (by decide) rfl (fun st c => ?_)
  refine q_aload (x := 137) rfl ?_
  refine q_const ?_
  refine q_newa_long (o := 177) (N := 16) (rc' := 14) (rs' := 58396) c rfl (by decide) rfl rfl rfl rfl (by decide) (fun st c => ?_)
  refine q_putR c (by decide) (by decide) rfl (fun st c => ?_)
  refine q_aload (x := 137) rfl ?_
  refine q_const ?_
  refine q_newa_int (o := 178) (N := 2000) (rc' := 13) (rs' := 56396) c rfl (by decide) rfl rfl rfl rfl (by decide) (fun st c => ?_)
  refine q_putR c (by decide) (by decide) rfl (fun st c => ?_)
  refine q_aload (x := 137) rfl ?_
  refine q_const ?_
  refine q_newa_int (o := 179) (N := 1000) (rc' := 12) (rs' := 55396) c rfl (by decide) rfl rfl rfl rfl (by decide) (fun st c => ?_)
  refine q_putR c (by decide) (by decide) rfl (fun st c => ?_)
  refine q_aload (x := 137) rfl ?_
  refine q_const ?_
  refine q_newa_long (o := 180) (N := 1000) (rc' := 11) (rs' := 54396) c rfl (by decide) rfl rfl rfl rfl (by decide) (fun st c => ?_)
  refine q_putR c (by decide) (by decide) rfl (fun st c => ?_)
  refine q_aload (x := 137) rfl ?_
  refine q_const ?_
  refine q_newa_long (o := 181) (N := 53136) (rc' := 10) (rs' := 1260) c rfl (by decide) rfl rfl rfl rfl (by decide) (fun st c => ?_)
  refine q_putR c (by decide) (by decide) rfl (fun st c => ?_)
  refine q_aload (x := 137) rfl ?_
  refine q_const ?_
  refine q_putI c (by decide) (by decide) rfl (fun st c => ?_)
  refine q_aload (x := 137) rfl ?_
  refine q_const ?_
  refine q_putI c (by decide) (by decide) rfl (fun st c => ?_)
  refine q_aload (x := 137) rfl ?_
  refine q_const ?_
  refine q_newa_int (o := 182) (N := 648) (rc' := 9) (rs' := 612) c rfl (by decide) rfl rfl rfl rfl (by decide) (fun st c => ?_)
  refine q_putR c (by decide) (by decide) rfl (fun st c => ?_)
  refine q_aload (x := 137) rfl ?_
  refine q_const ?_
  refine q_newa_int (o := 183) (N := 8) (rc' := 8) (rs' := 604) c rfl (by decide) rfl rfl rfl rfl (by decide) (fun st c => ?_)
  refine q_putR c (by decide) (by decide) rfl (fun st c => ?_)
  refine q_aload (x := 137) rfl ?_
  refine q_const ?_
  refine q_newa_int (o := 184) (N := 8) (rc' := 7) (rs' := 596) c rfl (by decide) rfl rfl rfl rfl (by decide) (fun st c => ?_)
  exact z_Md_912 c h
theorem z_Md_736 (c : CS 164 l M0 st) (h : ∀ st, CS 191 ((137, 83, 191) :: (137, 79, 190) :: (137, 78, 189) :: (137, 77, 188) :: (137, 76, 187) :: (137, 75, 186) :: (137, 74, 185) :: (137, 73, 184) :: (137, 72, 183) :: (137, 69, 182) :: (137, 68, (-1)) :: (137, 67, (-1)) :: (137, 66, 181) :: (137, 64, 180) :: (137, 51, 179) :: (137, 49, 178) :: (137, 48, 177) :: (137, 47, 176) :: (137, 46, 175) :: (137, 45, 174) :: (137, 44, 173) :: (137, 43, 172) :: (137, 42, 171) :: (137, 41, 170) :: (137, 40, 169) :: (137, 39, 168) :: (137, 38, 167) :: (137, 37, 166) :: (137, 36, 165) :: (137, 34, 164) :: (164, 2, 120) :: l) M0 st → Q none st) : b_Md_init_736 (d + 5) Q 27 58610 (am_ent [vR 137] m_Md_init.2.2.1) [vR 164, vR 137] st := by
  unfold b_Md_init_736
  refine q_dup ?_
  refine q_const ?_
  refine q_const ?_
  refine q_cast c (by decide) (by decide) (by decide) (by decide) (by decide) (fun st c => ?_)
  refine q_putR c (by decide) (by decide) rfl (fun st c => ?_)
  refine q_aload (x := 137) rfl ?_
  refine q_const ?_
  refine q_newa_int (o := 165) (N := 2) (rc' := 26) (rs' := 58608) c rfl (by decide) rfl rfl rfl rfl (by decide) (fun st c => ?_)
  refine q_putR c (by decide) (by decide) rfl (fun st c => ?_)
  refine q_aload (x := 137) rfl ?_
  refine q_const ?_
  refine q_newa_int (o := 166) (N := 2) (rc' := 25) (rs' := 58606) c rfl (by decide) rfl rfl rfl rfl (by decide) (fun st c => ?_)
  refine q_putR c (by decide) (by decide) rfl (fun st c => ?_)
  refine q_aload (x := 137) rfl ?_
  refine q_const ?_
  refine q_newa_int (o := 167) (N := 2) (rc' := 24) (rs' := 58604) c rfl (by decide) rfl rfl rfl rfl (by decide) (fun st c => ?_)
  refine q_putR c (by decide) (by decide) rfl (fun st c => ?_)
  refine q_aload (x := 137) rfl ?_
  refine q_const ?_
  refine q_newa_int (o := 168) (N := 64) (rc' := 23) (rs' := 58540) c rfl (by decide) rfl rfl rfl rfl (by decide) (fun st c => ?_)
  refine q_putR c (by decide) (by decide) rfl (fun st c => ?_)
  refine q_aload (x := 137) rfl ?_
  refine q_const ?_
  refine q_newa_bool (o := 169) (N := 16) (rc' := 22) (rs' := 58524) c rfl (by decide) rfl rfl rfl rfl (by decide) (fun st c => ?_)
  refine q_putR c (by decide) (by decide) rfl (fun st c => ?_)
  refine q_aload (x := 137) rfl ?_
  refine q_const ?_
  refine q_newa_int (o := 170) (N := 8) (rc' := 21) (rs' := 58516) c rfl (by decide) rfl rfl rfl rfl (by decide) (fun st c => ?_)
  refine q_putR c (by decide) (by decide) rfl (fun st c => ?_)
  refine q_aload (x := 137) rfl ?_
  refine q_const ?_
  refine q_newa_int (o := 171) (N := 32) (rc' := 20) (rs' := 58484) c rfl (by decide) rfl rfl rfl rfl (by decide) (fun st c => ?_)
  refine q_putR c (by decide) (by decide) rfl (fun st c => ?_)
  refine q_aload (x := 137) rfl ?_
  refine q_const ?_
  refine q_newa_int (o := 172) (N := 16) (rc' := 19) (rs' := 58468) c rfl (by decide) rfl rfl rfl rfl (by decide) (fun st c => ?_)
  refine q_putR c (by decide) (by decide) rfl (fun st c => ?_)
  refine q_aload (x := 137) rfl ?_
  refine q_const ?_
  refine q_newa_int (o := 173) (N := 16) (rc' := 18) (rs' := 58452) c rfl (by decide) rfl rfl rfl rfl (by decide) (fun st c => ?_)
  refine q_putR c (by decide) (by decide) rfl (fun st c => ?_)
  refine q_aload (x := 137) rfl ?_
  refine q_const ?_
  refine q_newa_int (o := 174) (N := 16) (rc' := 17) (rs' := 58436) c rfl (by decide) rfl rfl rfl rfl (by decide) (fun st c => ?_)
  refine q_putR c (by decide) (by decide) rfl (fun st c => ?_)
  exact z_Md_821 c h
theorem z_Md_676 (c : CS 162 l M0 st) (h : ∀ st, CS 191 ((137, 83, 191) :: (137, 79, 190) :: (137, 78, 189) :: (137, 77, 188) :: (137, 76, 187) :: (137, 75, 186) :: (137, 74, 185) :: (137, 73, 184) :: (137, 72, 183) :: (137, 69, 182) :: (137, 68, (-1)) :: (137, 67, (-1)) :: (137, 66, 181) :: (137, 64, 180) :: (137, 51, 179) :: (137, 49, 178) :: (137, 48, 177) :: (137, 47, 176) :: (137, 46, 175) :: (137, 45, 174) :: (137, 44, 173) :: (137, 43, 172) :: (137, 42, 171) :: (137, 41, 170) :: (137, 40, 169) :: (137, 39, 168) :: (137, 38, 167) :: (137, 37, 166) :: (137, 36, 165) :: (137, 34, 164) :: (164, 2, 120) :: (164, 1, 97) :: (164, 0, 109) :: (137, 33, 163) :: (163, 2, 110) :: (163, 1, 105) :: (163, 0, 109) :: (137, 32, 162) :: (162, 4, 110) :: (162, 3, 105) :: (162, 2, 97) :: (162, 1, 103) :: (162, 0, 97) :: l) M0 st → Q none st) : b_Md_init_676 (d + 5) Q 29 58616 (am_ent [vR 137] m_Md_init.2.2.1) [vI 97, vI 0, vR 162, vR 162, vR 137] st := by
  unfold b_Md_init_676
  refine q_cast c (by decide) (by decide) (by decide) (by decide) (by decide) (fun st c => ?_)
  refine q_dup ?_
  refine q_const ?_
  refine q_const ?_
  refine q_cast c (by decide) (by decide) (by decide) (by decide) (by decide) (fun st c => ?_)
  refine q_dup ?_
  refine q_const ?_
  refine q_const ?_
  refine q_cast c (by decide) (by decide) (by decide) (by decide) (by decide) (fun st c => ?_)
  refine q_dup ?_
  refine q_const ?_
  refine q_const ?_
  refine q_cast c (by decide) (by decide) (by decide) (by decide) (by decide) (fun st c => ?_)
  refine q_dup ?_
  refine q_const ?_
  refine q_const ?_
  refine q_cast c (by decide) (by decide) (by decide) (by decide) (by decide) (fun st c => ?_)
  refine q_putR c (by decide) (by decide) rfl (fun st c => ?_)
  refine q_aload (x := 137) rfl ?_
  refine q_const ?_
  refine q_newa_char (o := 163) (N := 3) (rc' := 28) (rs' := 58613) c rfl (by decide) rfl rfl rfl rfl (by decide) (fun st c => ?_)
  refine q_dup ?_
  refine q_const ?_
  refine q_const ?_
  refine q_cast c (by decide) (by decide) (by decide) (by decide) (by decide) (fun st c => ?_)
  refine q_dup ?_
  refine q_const ?_
  refine q_const ?_
  refine q_cast c (by decide) (by decide) (by decide) (by decide) (by decide) (fun st c => ?_)
  refine q_dup ?_
  refine q_const ?_
  refine q_const ?_
  refine q_cast c (by decide) (by decide) (by decide) (by decide) (by decide) (fun st c => ?_)
  refine q_putR c (by decide) (by decide) rfl (fun st c => ?_)
  refine q_aload (x := 137) rfl ?_
  refine q_const ?_
  refine q_newa_char (o := 164) (N := 3) (rc' := 27) (rs' := 58610) c rfl (by decide) rfl rfl rfl rfl (by decide) (fun st c => ?_)
  refine q_dup ?_
  refine q_const ?_
  refine q_const ?_
  refine q_cast c (by decide) (by decide) (by decide) (by decide) (by decide) (fun st c => ?_)
  refine q_dup ?_
  refine q_const ?_
  refine q_const ?_
  refine q_cast c (by decide) (by decide) (by decide) (by decide) (by decide) (fun st c => ?_)
  exact z_Md_736 c h
theorem z_Md_615 (c : CS 160 l M0 st) (h : ∀ st, CS 191 ((137, 83, 191) :: (137, 79, 190) :: (137, 78, 189) :: (137, 77, 188) :: (137, 76, 187) :: (137, 75, 186) :: (137, 74, 185) :: (137, 73, 184) :: (137, 72, 183) :: (137, 69, 182) :: (137, 68, (-1)) :: (137, 67, (-1)) :: (137, 66, 181) :: (137, 64, 180) :: (137, 51, 179) :: (137, 49, 178) :: (137, 48, 177) :: (137, 47, 176) :: (137, 46, 175) :: (137, 45, 174) :: (137, 44, 173) :: (137, 43, 172) :: (137, 42, 171) :: (137, 41, 170) :: (137, 40, 169) :: (137, 39, 168) :: (137, 38, 167) :: (137, 37, 166) :: (137, 36, 165) :: (137, 34, 164) :: (164, 2, 120) :: (164, 1, 97) :: (164, 0, 109) :: (137, 33, 163) :: (163, 2, 110) :: (163, 1, 105) :: (163, 0, 109) :: (137, 32, 162) :: (162, 4, 110) :: (162, 3, 105) :: (162, 2, 97) :: (162, 1, 103) :: (162, 0, 97) :: (137, 31, 161) :: (161, 3, 101) :: (161, 2, 110) :: (161, 1, 111) :: (161, 0, 100) :: (137, 30, 160) :: (160, 5, 116) :: (160, 4, 104) :: (160, 3, 103) :: (160, 2, 117) :: (160, 1, 97) :: l) M0 st → Q none st) : b_Md_init_615 (d + 5) Q 31 58625 (am_ent [vR 137] m_Md_init.2.2.1) [vI 1, vR 160, vR 160, vR 137] st := by
  unfold b_Md_init_615
  refine q_const ?_
  refine q_cast c (by decide) (by decide) (by decide) (by decide) (by decide) (fun st c => ?_)
  refine q_dup ?_
  refine q_const ?_
  refine q_const ?_
  refine q_cast c (by decide) (by decide) (by decide) (by decide) (by decide) (fun st c => ?_)
  refine q_dup ?_
  refine q_const ?_
  refine q_const ?_
  refine q_cast c (by decide) (by decide) (by decide) (by decide) (by decide) (fun st c => ?_)
  refine q_dup ?_
  refine q_const ?_
  refine q_const ?_
  refine q_cast c (by decide) (by decide) (by decide) (by decide) (by decide) (fun st c => ?_)
  refine q_dup ?_
  refine q_const ?_
  refine q_const ?_
  refine q_cast c (by decide) (by decide) (by decide) (by decide) (by decide) (fun st c => ?_)
  refine q_putR c (by decide) (by decide) rfl (fun st c => ?_)
  refine q_aload (x := 137) rfl ?_
  refine q_const ?_
  refine q_newa_char (o := 161) (N := 4) (rc' := 30) (rs' := 58621) c rfl (by decide) rfl rfl rfl rfl (by decide) (fun st c => ?_)
  refine q_dup ?_
  refine q_const ?_
  refine q_const ?_
  refine q_cast c (by decide) (by decide) (by decide) (by decide) (by decide) (fun st c => ?_)
  refine q_dup ?_
  refine q_const ?_
  refine q_const ?_
  refine q_cast c (by decide) (by decide) (by decide) (by decide) (by decide) (fun st c => ?_)
  refine q_dup ?_
  refine q_const ?_
  refine q_const ?_
  refine q_cast c (by decide) (by decide) (by decide) (by decide) (by decide) (fun st c => ?_)
  refine q_dup ?_
  refine q_const ?_
  refine q_const ?_
  refine q_cast c (by decide) (by decide) (by decide) (by decide) (by decide) (fun st c => ?_)
  refine q_putR c (by decide) (by decide) rfl (fun st c => ?_)
  refine q_aload (x := 137) rfl ?_
  refine q_const ?_
  refine q_newa_char (o := 162) (N := 5) (rc' := 29) (rs' := 58616) c rfl (by decide) rfl rfl rfl rfl (by decide) (fun st c => ?_)
  refine q_dup ?_
  refine q_const ?_
  refine q_const ?_
  exact z_Md_676 c h
theorem z_Md_553 (c : CS 158 l M0 st) (h : ∀ st, CS 191 ((137, 83, 191) :: (137, 79, 190) :: (137, 78, 189) :: (137, 77, 188) :: (137, 76, 187) :: (137, 75, 186) :: (137, 74, 185) :: (137, 73, 184) :: (137, 72, 183) :: (137, 69, 182) :: (137, 68, (-1)) :: (137, 67, (-1)) :: (137, 66, 181) :: (137, 64, 180) :: (137, 51, 179) :: (137, 49, 178) :: (137, 48, 177) :: (137, 47, 176) :: (137, 46, 175) :: (137, 45, 174) :: (137, 44, 173) :: (137, 43, 172) :: (137, 42, 171) :: (137, 41, 170) :: (137, 40, 169) :: (137, 39, 168) :: (137, 38, 167) :: (137, 37, 166) :: (137, 36, 165) :: (137, 34, 164) :: (164, 2, 120) :: (164, 1, 97) :: (164, 0, 109) :: (137, 33, 163) :: (163, 2, 110) :: (163, 1, 105) :: (163, 0, 109) :: (137, 32, 162) :: (162, 4, 110) :: (162, 3, 105) :: (162, 2, 97) :: (162, 1, 103) :: (162, 0, 97) :: (137, 31, 161) :: (161, 3, 101) :: (161, 2, 110) :: (161, 1, 111) :: (161, 0, 100) :: (137, 30, 160) :: (160, 5, 116) :: (160, 4, 104) :: (160, 3, 103) :: (160, 2, 117) :: (160, 1, 97) :: (160, 0, 99) :: (137, 29, 159) :: (159, 5, 110) :: (159, 4, 119) :: (159, 3, 111) :: (159, 2, 114) :: (159, 1, 104) :: (159, 0, 116) :: (137, 28, 158) :: (158, 3, 107) :: (158, 2, 99) :: l) M0 st → Q none st) : b_Md_init_553 (d + 5) Q 33 58637 (am_ent [vR 137] m_Md_init.2.2.1) [vR 158, vR 158, vR 137] st := by
  unfold b_Md_init_553
  refine q_const ?_
  refine q_const ?_
  refine q_cast c (by decide) (by decide) (by decide) (by decide) (by decide) (fun st c => ?_)
  refine q_dup ?_
  refine q_const ?_
  refine q_const ?_
  refine q_cast c (by decide) (by decide) (by decide) (by decide) (by decide) (fun st c => ?_)
  refine q_putR c (by decide) (by decide) rfl (fun st c => ?_)
  refine q_aload (x := 137) rfl ?_
  refine q_const ?_
  refine q_newa_char (o := 159) (N := 6) (rc' := 32) (rs' := 58631) c rfl (by decide) rfl rfl rfl rfl (by decide) (fun st c => ?_)
  refine q_dup ?_
  refine q_const ?_
  refine q_const ?_
  refine q_cast c (by decide) (by decide) (by decide) (by decide) (by decide) (fun st c => ?_)
  refine q_dup ?_
  refine q_const ?_
  refine q_const ?_
  refine q_cast c (by decide) (by decide) (by decide) (by decide) (by decide) (fun st c => ?_)
  refine q_dup ?_
  refine q_const ?_
  refine q_const ?_
  refine q_cast c (by decide) (by decide) (by decide) (by decide) (by decide) (fun st c => ?_)
  refine q_dup ?_
  refine q_const ?_
  refine q_const ?_
  refine q_cast c (by decide) (by decide) (by decide) (by decide) (by decide) (fun st c => ?_)
  refine q_dup ?_
  refine q_const ?_
  refine q_const ?_
  refine q_cast c (by decide) (by decide) (by decide) (by decide) (by decide) (fun st c => ?_)
  refine q_dup ?_
  refine q_const ?_
  refine q_const ?_
  refine q_cast c (by decide) (by decide) (by decide) (by decide) (by decide) (fun st c => ?_)
  refine q_putR c (by decide) (by decide) rfl (fun st c => ?_)
  refine q_aload (x := 137) rfl ?_
  refine q_const ?_
  refine q_newa_char (o := 160) (N := 6) (rc' := 31) (rs' := 58625) c rfl (by decide) rfl rfl rfl rfl (by decide) (fun st c => ?_)
  refine q_dup ?_
  refine q_const ?_
  refine q_const ?_
  refine q_cast c (by decide) (by decide) (by decide) (by decide) (by decide) (fun st c => ?_)
  refine q_dup ?_
  refine q_const ?_
  exact z_Md_615 c h
theorem z_Md_493 (c : CS 156 l M0 st) (h : ∀ st, CS 191 ((137, 83, 191) :: (137, 79, 190) :: (137, 78, 189) :: (137, 77, 188) :: (137, 76, 187) :: (137, 75, 186) :: (137, 74, 185) :: (137, 73, 184) :: (137, 72, 183) :: (137, 69, 182) :: (137, 68, (-1)) :: (137, 67, (-1)) :: (137, 66, 181) :: (137, 64, 180) :: (137, 51, 179) :: (137, 49, 178) :: (137, 48, 177) :: (137, 47, 176) :: (137, 46, 175) :: (137, 45, 174) :: (137, 44, 173) :: (137, 43, 172) :: (137, 42, 171) :: (137, 41, 170) :: (137, 40, 169) :: (137, 39, 168) :: (137, 38, 167) :: (137, 37, 166) :: (137, 36, 165) :: (137, 34, 164) :: (164, 2, 120) :: (164, 1, 97) :: (164, 0, 109) :: (137, 33, 163) :: (163, 2, 110) :: (163, 1, 105) :: (163, 0, 109) :: (137, 32, 162) :: (162, 4, 110) :: (162, 3, 105) :: (162, 2, 97) :: (162, 1, 103) :: (162, 0, 97) :: (137, 31, 161) :: (161, 3, 101) :: (161, 2, 110) :: (161, 1, 111) :: (161, 0, 100) :: (137, 30, 160) :: (160, 5, 116) :: (160, 4, 104) :: (160, 3, 103) :: (160, 2, 117) :: (160, 1, 97) :: (160, 0, 99) :: (137, 29, 159) :: (159, 5, 110) :: (159, 4, 119) :: (159, 3, 111) :: (159, 2, 114) :: (159, 1, 104) :: (159, 0, 116) :: (137, 28, 158) :: (158, 3, 107) :: (158, 2, 99) :: (158, 1, 105) :: (158, 0, 116) :: (137, 27, 157) :: (157, 2, 112) :: (157, 1, 97) :: (157, 0, 103) :: (137, 26, 156) :: (156, 4, 103) :: (156, 3, 110) :: (156, 2, 105) :: (156, 1, 119) :: l) M0 st → Q none st) : b_Md_init_493 (d + 5) Q 35 58644 (am_ent [vR 137] m_Md_init.2.2.1) [vR 156, vR 137] st := by
  unfold b_Md_init_493
  refine q_dup ?_
  refine q_const ?_
  refine q_const ?_
  refine q_cast c (by decide) (by decide) (by decide) (by decide) (by decide) (fun st c => ?_)
  refine q_dup ?_
  refine q_const ?_
  refine q_const ?_
  refine q_cast c (by decide) (by decide) (by decide) (by decide) (by decide) (fun st c => ?_)
  refine q_dup ?_
  refine q_const ?_
  refine q_const ?_
  refine q_cast c (by decide) (by decide) (by decide) (by decide) (by decide) (fun st c => ?_)
  refine q_dup ?_
  refine q_const ?_
  refine q_const ?_
  refine q_cast c (by decide) (by decide) (by decide) (by decide) (by decide) (fun st c => ?_)
  refine q_putR c (by decide) (by decide) rfl (fun st c => ?_)
  refine q_aload (x := 137) rfl ?_
  refine q_const ?_
  refine q_newa_char (o := 157) (N := 3) (rc' := 34) (rs' := 58641) c rfl (by decide) rfl rfl rfl rfl (by decide) (fun st c => ?_)
  refine q_dup ?_
  refine q_const ?_
  refine q_const ?_
  refine q_cast c (by decide) (by decide) (by decide) (by decide) (by decide) (fun st c => ?_)
  refine q_dup ?_
  refine q_const ?_
  refine q_const ?_
  refine q_cast c (by decide) (by decide) (by decide) (by decide) (by decide) (fun st c => ?_)
  refine q_dup ?_
  refine q_const ?_
  refine q_const ?_
  refine q_cast c (by decide) (by decide) (by decide) (by decide) (by decide) (fun st c => ?_)
  refine q_putR c (by decide) (by decide) rfl (fun st c => ?_)
  refine q_aload (x := 137) rfl ?_
  refine q_const ?_
  refine q_newa_char (o := 158) (N := 4) (rc' := 33) (rs' := 58637) c rfl (by decide) rfl rfl rfl rfl (by decide) (fun st c => ?_)
  refine q_dup ?_
  refine q_const ?_
  refine q_const ?_
  refine q_cast c (by decide) (by decide) (by decide) (by decide) (by decide) (fun st c => ?_)
  refine q_dup ?_
  refine q_const ?_
  refine q_const ?_
  refine q_cast c (by decide) (by decide) (by decide) (by decide) (by decide) (fun st c => ?_)
  refine q_dup ?_
  exact z_Md_553 c h
theorem z_Md_431 (c : CS 153 l M0 st) (h : ∀ st, CS 191 ((137, 83, 191) :: (137, 79, 190) :: (137, 78, 189) :: (137, 77, 188) :: (137, 76, 187) :: (137, 75, 186) :: (137, 74, 185) :: (137, 73, 184) :: (137, 72, 183) :: (137, 69, 182) :: (137, 68, (-1)) :: (137, 67, (-1)) :: (137, 66, 181) :: (137, 64, 180) :: (137, 51, 179) :: (137, 49, 178) :: (137, 48, 177) :: (137, 47, 176) :: (137, 46, 175) :: (137, 45, 174) :: (137, 44, 173) :: (137, 43, 172) :: (137, 42, 171) :: (137, 41, 170) :: (137, 40, 169) :: (137, 39, 168) :: (137, 38, 167) :: (137, 37, 166) :: (137, 36, 165) :: (137, 34, 164) :: (164, 2, 120) :: (164, 1, 97) :: (164, 0, 109) :: (137, 33, 163) :: (163, 2, 110) :: (163, 1, 105) :: (163, 0, 109) :: (137, 32, 162) :: (162, 4, 110) :: (162, 3, 105) :: (162, 2, 97) :: (162, 1, 103) :: (162, 0, 97) :: (137, 31, 161) :: (161, 3, 101) :: (161, 2, 110) :: (161, 1, 111) :: (161, 0, 100) :: (137, 30, 160) :: (160, 5, 116) :: (160, 4, 104) :: (160, 3, 103) :: (160, 2, 117) :: (160, 1, 97) :: (160, 0, 99) :: (137, 29, 159) :: (159, 5, 110) :: (159, 4, 119) :: (159, 3, 111) :: (159, 2, 114) :: (159, 1, 104) :: (159, 0, 116) :: (137, 28, 158) :: (158, 3, 107) :: (158, 2, 99) :: (158, 1, 105) :: (158, 0, 116) :: (137, 27, 157) :: (157, 2, 112) :: (157, 1, 97) :: (157, 0, 103) :: (137, 26, 156) :: (156, 4, 103) :: (156, 3, 110) :: (156, 2, 105) :: (156, 1, 119) :: (156, 0, 115) :: (137, 25, 155) :: (155, 3, 115) :: (155, 2, 115) :: (155, 1, 105) :: (155, 0, 109) :: (137, 24, 154) :: (154, 2, 108) :: (154, 1, 108) :: (154, 0, 97) :: (137, 23, 153) :: (153, 2, 116) :: l) M0 st → Q none st) : b_Md_init_431 (d + 5) Q 38 58656 (am_ent [vR 137] m_Md_init.2.2.1) [vI 116, vI 2, vR 153, vR 153, vR 137] st := by
  unfold b_Md_init_431
  refine q_cast c (by decide) (by decide) (by decide) (by decide) (by decide) (fun st c => ?_)
  refine q_putR c (by decide) (by decide) rfl (fun st c => ?_)
  refine q_aload (x := 137) rfl ?_
  refine q_const ?_
  refine q_newa_char (o := 154) (N := 3) (rc' := 37) (rs' := 58653) c rfl (by decide) rfl rfl rfl rfl (by decide) (fun st c => ?_)
  refine q_dup ?_
  refine q_const ?_
  refine q_const ?_
  refine q_cast c (by decide) (by decide) (by decide) (by decide) (by decide) (fun st c => ?_)
  refine q_dup ?_
  refine q_const ?_
  refine q_const ?_
  refine q_cast c (by decide) (by decide) (by decide) (by decide) (by decide) (fun st c => ?_)
  refine q_dup ?_
  refine q_const ?_
  refine q_const ?_
  refine q_cast c (by decide) (by decide) (by decide) (by decide) (by decide) (fun st c => ?_)
  refine q_putR c (by decide) (by decide) rfl (fun st c => ?_)
  refine q_aload (x := 137) rfl ?_
  refine q_const ?_
  refine q_newa_char (o := 155) (N := 4) (rc' := 36) (rs' := 58649) c rfl (by decide) rfl rfl rfl rfl (by decide) (fun st c => ?_)
  refine q_dup ?_
  refine q_const ?_
  refine q_const ?_
  refine q_cast c (by decide) (by decide) (by decide) (by decide) (by decide) (fun st c => ?_)
  refine q_dup ?_
  refine q_const ?_
  refine q_const ?_
  refine q_cast c (by decide) (by decide) (by decide) (by decide) (by decide) (fun st c => ?_)
  refine q_dup ?_
  refine q_const ?_
  refine q_const ?_
  refine q_cast c (by decide) (by decide) (by decide) (by decide) (by decide) (fun st c => ?_)
  refine q_dup ?_
  refine q_const ?_
  refine q_const ?_
  refine q_cast c (by decide) (by decide) (by decide) (by decide) (by decide) (fun st c => ?_)
  refine q_putR c (by decide) (by decide) rfl (fun st c => ?_)
  refine q_aload (x := 137) rfl ?_
  refine q_const ?_
  refine q_newa_char (o := 156) (N := 5) (rc' := 35) (rs' := 58644) c rfl (by decide) rfl rfl rfl rfl (by decide) (fun st c => ?_)
  refine q_dup ?_
  refine q_const ?_
  refine q_const ?_
  refine q_cast c (by decide) (by decide) (by decide) (by decide) (by decide) (fun st c => ?_)
  exact z_Md_493 c h
theorem z_Md_368 (c : CS 150 l M0 st) (h : ∀ st, CS 191 ((137, 83, 191) :: (137, 79, 190) :: (137, 78, 189) :: (137, 77, 188) :: (137, 76, 187) :: (137, 75, 186) :: (137, 74, 185) :: (137, 73, 184) :: (137, 72, 183) :: (137, 69, 182) :: (137, 68, (-1)) :: (137, 67, (-1)) :: (137, 66, 181) :: (137, 64, 180) :: (137, 51, 179) :: (137, 49, 178) :: (137, 48, 177) :: (137, 47, 176) :: (137, 46, 175) :: (137, 45, 174) :: (137, 44, 173) :: (137, 43, 172) :: (137, 42, 171) :: (137, 41, 170) :: (137, 40, 169) :: (137, 39, 168) :: (137, 38, 167) :: (137, 37, 166) :: (137, 36, 165) :: (137, 34, 164) :: (164, 2, 120) :: (164, 1, 97) :: (164, 0, 109) :: (137, 33, 163) :: (163, 2, 110) :: (163, 1, 105) :: (163, 0, 109) :: (137, 32, 162) :: (162, 4, 110) :: (162, 3, 105) :: (162, 2, 97) :: (162, 1, 103) :: (162, 0, 97) :: (137, 31, 161) :: (161, 3, 101) :: (161, 2, 110) :: (161, 1, 111) :: (161, 0, 100) :: (137, 30, 160) :: (160, 5, 116) :: (160, 4, 104) :: (160, 3, 103) :: (160, 2, 117) :: (160, 1, 97) :: (160, 0, 99) :: (137, 29, 159) :: (159, 5, 110) :: (159, 4, 119) :: (159, 3, 111) :: (159, 2, 114) :: (159, 1, 104) :: (159, 0, 116) :: (137, 28, 158) :: (158, 3, 107) :: (158, 2, 99) :: (158, 1, 105) :: (158, 0, 116) :: (137, 27, 157) :: (157, 2, 112) :: (157, 1, 97) :: (157, 0, 103) :: (137, 26, 156) :: (156, 4, 103) :: (156, 3, 110) :: (156, 2, 105) :: (156, 1, 119) :: (156, 0, 115) :: (137, 25, 155) :: (155, 3, 115) :: (155, 2, 115) :: (155, 1, 105) :: (155, 0, 109) :: (137, 24, 154) :: (154, 2, 108) :: (154, 1, 108) :: (154, 0, 97) :: (137, 23, 153) :: (153, 2, 116) :: (153, 1, 111) :: (153, 0, 110) :: (137, 22, 152) :: (152, 2, 100) :: (152, 1, 110) :: (152, 0, 97) :: (137, 21, 151) :: (151, 1, 114) :: (151, 0, 111) :: (137, 20, 150) :: (150, 3, 110) :: l) M0 st → Q none st) : b_Md_init_368 (d + 5) Q 41 58664 (am_ent [vR 137] m_Md_init.2.2.1) [vI 3, vR 150, vR 150, vR 137] st := by
  unfold b_Md_init_368
  refine q_const ?_
  refine q_cast c (by decide) (by decide) (by decide) (by decide) (by decide) (fun st c => ?_)
  refine q_putR c (by decide) (by decide) rfl (fun st c => ?_)
  refine q_aload (x := 137) rfl ?_
  refine q_const ?_
  refine q_newa_char (o := 151) (N := 2) (rc' := 40) (rs' := 58662) c rfl (by decide) rfl rfl rfl rfl (by decide) (fun st c => ?_)
  refine q_dup ?_
  refine q_const ?_
  refine q_const ?_
  refine q_cast c (by decide) (by decide) (by decide) (by decide) (by decide) (fun st c => ?_)
  refine q_dup ?_
  refine q_const ?_
  refine q_const ?_
  refine q_cast c (by decide) (by decide) (by decide) (by decide) (by decide) (fun st c => ?_)
  refine q_putR c (by decide) (by decide) rfl (fun st c => ?_)
  refine q_aload (x := 137) rfl ?_
  refine q_const ?_
  refine q_newa_char (o := 152) (N := 3) (rc' := 39) (rs' := 58659) c rfl (by decide) rfl rfl rfl rfl (by decide) (fun st c => ?_)
  refine q_dup ?_
  refine q_const ?_
  refine q_const ?_
  refine q_cast c (by decide) (by decide) (by decide) (by decide) (by decide) (fun st c => ?_)
  refine q_dup ?_
  refine q_const ?_
  refine q_const ?_
  refine q_cast c (by decide) (by decide) (by decide) (by decide) (by decide) (fun st c => ?_)
  refine q_dup ?_
  refine q_const ?_
  refine q_const ?_
  refine q_cast c (by decide) (by decide) (by decide) (by decide) (by decide) (fun st c => ?_)
  refine q_putR c (by decide) (by decide) rfl (fun st c => ?_)
  refine q_aload (x := 137) rfl ?_
  refine q_const ?_
  refine q_newa_char (o := 153) (N := 3) (rc' := 38) (rs' := 58656) c rfl (by decide) rfl rfl rfl rfl (by decide) (fun st c => ?_)
  refine q_dup ?_
  refine q_const ?_
  refine q_const ?_
  refine q_cast c (by decide) (by decide) (by decide) (by decide) (by decide) (fun st c => ?_)
  refine q_dup ?_
  refine q_const ?_
  refine q_const ?_
  refine q_cast c (by decide) (by decide) (by decide) (by decide) (by decide) (fun st c => ?_)
  refine q_dup ?_
  refine q_const ?_
  refine q_const ?_
  exact z_Md_431 c h
theorem z_Md_308 (c : CS 148 l M0 st) (h : ∀ st, CS 191 ((137, 83, 191) :: (137, 79, 190) :: (137, 78, 189) :: (137, 77, 188) :: (137, 76, 187) :: (137, 75, 186) :: (137, 74, 185) :: (137, 73, 184) :: (137, 72, 183) :: (137, 69, 182) :: (137, 68, (-1)) :: (137, 67, (-1)) :: (137, 66, 181) :: (137, 64, 180) :: (137, 51, 179) :: (137, 49, 178) :: (137, 48, 177) :: (137, 47, 176) :: (137, 46, 175) :: (137, 45, 174) :: (137, 44, 173) :: (137, 43, 172) :: (137, 42, 171) :: (137, 41, 170) :: (137, 40, 169) :: (137, 39, 168) :: (137, 38, 167) :: (137, 37, 166) :: (137, 36, 165) :: (137, 34, 164) :: (164, 2, 120) :: (164, 1, 97) :: (164, 0, 109) :: (137, 33, 163) :: (163, 2, 110) :: (163, 1, 105) :: (163, 0, 109) :: (137, 32, 162) :: (162, 4, 110) :: (162, 3, 105) :: (162, 2, 97) :: (162, 1, 103) :: (162, 0, 97) :: (137, 31, 161) :: (161, 3, 101) :: (161, 2, 110) :: (161, 1, 111) :: (161, 0, 100) :: (137, 30, 160) :: (160, 5, 116) :: (160, 4, 104) :: (160, 3, 103) :: (160, 2, 117) :: (160, 1, 97) :: (160, 0, 99) :: (137, 29, 159) :: (159, 5, 110) :: (159, 4, 119) :: (159, 3, 111) :: (159, 2, 114) :: (159, 1, 104) :: (159, 0, 116) :: (137, 28, 158) :: (158, 3, 107) :: (158, 2, 99) :: (158, 1, 105) :: (158, 0, 116) :: (137, 27, 157) :: (157, 2, 112) :: (157, 1, 97) :: (157, 0, 103) :: (137, 26, 156) :: (156, 4, 103) :: (156, 3, 110) :: (156, 2, 105) :: (156, 1, 119) :: (156, 0, 115) :: (137, 25, 155) :: (155, 3, 115) :: (155, 2, 115) :: (155, 1, 105) :: (155, 0, 109) :: (137, 24, 154) :: (154, 2, 108) :: (154, 1, 108) :: (154, 0, 97) :: (137, 23, 153) :: (153, 2, 116) :: (153, 1, 111) :: (153, 0, 110) :: (137, 22, 152) :: (152, 2, 100) :: (152, 1, 110) :: (152, 0, 97) :: (137, 21, 151) :: (151, 1, 114) :: (151, 0, 111) :: (137, 20, 150) :: (150, 3, 110) :: (150, 2, 101) :: (150, 1, 104) :: (150, 0, 119) :: (137, 19, 149) :: (149, 4, 104) :: (149, 3, 116) :: (149, 2, 114) :: (149, 1, 111) :: (149, 0, 119) :: (137, 18, 148) :: (148, 3, 115) :: l) M0 st → Q none st) : b_Md_init_308 (d + 5) Q 43 58673 (am_ent [vR 137] m_Md_init.2.2.1) [vR 148, vR 148, vR 137] st := by
  unfold b_Md_init_308
  refine q_const ?_
  refine q_const ?_
  refine q_cast c (by decide) (by decide) (by decide) (by decide) (by decide) (fun st c => ?_)
  refine q_putR c (by decide) (by decide) rfl (fun st c => ?_)
  refine q_aload (x := 137) rfl ?_
  refine q_const ?_
  refine q_newa_char (o := 149) (N := 5) (rc' := 42) (rs' := 58668) c rfl (by decide) rfl rfl rfl rfl (by decide) (fun st c => ?_)
  refine q_dup ?_
  refine q_const ?_
  refine q_const ?_
  refine q_cast c (by decide) (by decide) (by decide) (by decide) (by decide) (fun st c => ?_)
  refine q_dup ?_
  refine q_const ?_
  refine q_const ?_
  refine q_cast c (by decide) (by decide) (by decide) (by decide) (by decide) (fun st c => ?_)
  refine q_dup ?_
  refine q_const ?_
  refine q_const ?_
  refine q_cast c (by decide) (by decide) (by decide) (by decide) (by decide) (fun st c => ?_)
  refine q_dup ?_
  refine q_const ?_
  refine q_const ?_
  refine q_cast c (by decide) (by decide) (by decide) (by decide) (by decide) (fun st c => ?_)
  refine q_dup ?_
  refine q_const ?_
  refine q_const ?_
  refine q_cast c (by decide) (by decide) (by decide) (by decide) (by decide) (fun st c => ?_)
  refine q_putR c (by decide) (by decide) rfl (fun st c => ?_)
  refine q_aload (x := 137) rfl ?_
  refine q_const ?_
  refine q_newa_char (o := 150) (N := 4) (rc' := 41) (rs' := 58664) c rfl (by decide) rfl rfl rfl rfl (by decide) (fun st c => ?_)
  refine q_dup ?_
  refine q_const ?_
  refine q_const ?_
  refine q_cast c (by decide) (by decide) (by decide) (by decide) (by decide) (fun st c => ?_)
  refine q_dup ?_
  refine q_const ?_
  refine q_const ?_
  refine q_cast c (by decide) (by decide) (by decide) (by decide) (by decide) (fun st c => ?_)
  refine q_dup ?_
  refine q_const ?_
  refine q_const ?_
  refine q_cast c (by decide) (by decide) (by decide) (by decide) (by decide) (fun st c => ?_)
  refine q_dup ?_
  refine q_const ?_
  exact z_Md_368 c h
theorem z_Md_248 (c : CS 146 l M0 st) (h : ∀ st, CS 191 ((137, 83, 191) :: (137, 79, 190) :: (137, 78, 189) :: (137, 77, 188) :: (137, 76, 187) :: (137, 75, 186) :: (137, 74, 185) :: (137, 73, 184) :: (137, 72, 183) :: (137, 69, 182) :: (137, 68, (-1)) :: (137, 67, (-1)) :: (137, 66, 181) :: (137, 64, 180) :: (137, 51, 179) :: (137, 49, 178) :: (137, 48, 177) :: (137, 47, 176) :: (137, 46, 175) :: (137, 45, 174) :: (137, 44, 173) :: (137, 43, 172) :: (137, 42, 171) :: (137, 41, 170) :: (137, 40, 169) :: (137, 39, 168) :: (137, 38, 167) :: (137, 37, 166) :: (137, 36, 165) :: (137, 34, 164) :: (164, 2, 120) :: (164, 1, 97) :: (164, 0, 109) :: (137, 33, 163) :: (163, 2, 110) :: (163, 1, 105) :: (163, 0, 109) :: (137, 32, 162) :: (162, 4, 110) :: (162, 3, 105) :: (162, 2, 97) :: (162, 1, 103) :: (162, 0, 97) :: (137, 31, 161) :: (161, 3, 101) :: (161, 2, 110) :: (161, 1, 111) :: (161, 0, 100) :: (137, 30, 160) :: (160, 5, 116) :: (160, 4, 104) :: (160, 3, 103) :: (160, 2, 117) :: (160, 1, 97) :: (160, 0, 99) :: (137, 29, 159) :: (159, 5, 110) :: (159, 4, 119) :: (159, 3, 111) :: (159, 2, 114) :: (159, 1, 104) :: (159, 0, 116) :: (137, 28, 158) :: (158, 3, 107) :: (158, 2, 99) :: (158, 1, 105) :: (158, 0, 116) :: (137, 27, 157) :: (157, 2, 112) :: (157, 1, 97) :: (157, 0, 103) :: (137, 26, 156) :: (156, 4, 103) :: (156, 3, 110) :: (156, 2, 105) :: (156, 1, 119) :: (156, 0, 115) :: (137, 25, 155) :: (155, 3, 115) :: (155, 2, 115) :: (155, 1, 105) :: (155, 0, 109) :: (137, 24, 154) :: (154, 2, 108) :: (154, 1, 108) :: (154, 0, 97) :: (137, 23, 153) :: (153, 2, 116) :: (153, 1, 111) :: (153, 0, 110) :: (137, 22, 152) :: (152, 2, 100) :: (152, 1, 110) :: (152, 0, 97) :: (137, 21, 151) :: (151, 1, 114) :: (151, 0, 111) :: (137, 20, 150) :: (150, 3, 110) :: (150, 2, 101) :: (150, 1, 104) :: (150, 0, 119) :: (137, 19, 149) :: (149, 4, 104) :: (149, 3, 116) :: (149, 2, 114) :: (149, 1, 111) :: (149, 0, 119) :: (137, 18, 148) :: (148, 3, 115) :: (148, 2, 109) :: (148, 1, 114) :: (148, 0, 97) :: (137, 17, 147) :: (147, 4, 115) :: (147, 3, 107) :: (147, 2, 99) :: (147, 1, 105) :: (147, 0, 116) :: (137, 16, 146) :: (146, 4, 107) :: l) M0 st → Q none st) : b_Md_init_248 (d + 5) Q 45 58682 (am_ent [vR 137] m_Md_init.2.2.1) [vR 146, vR 137] st := by
  unfold b_Md_init_248
  refine q_dup ?_
  refine q_const ?_
  refine q_const ?_
  refine q_cast c (by decide) (by decide) (by decide) (by decide) (by decide) (fun st c => ?_)
  refine q_putR c (by decide) (by decide) rfl (fun st c => ?_)
  refine q_aload (x := 137) rfl ?_
  refine q_const ?_
  refine q_newa_char (o := 147) (N := 5) (rc' := 44) (rs' := 58677) c rfl (by decide) rfl rfl rfl rfl (by decide) (fun st c => ?_)
  refine q_dup ?_
  refine q_const ?_
  refine q_const ?_
  refine q_cast c (by decide) (by decide) (by decide) (by decide) (by decide) (fun st c => ?_)
  refine q_dup ?_
  refine q_const ?_
  refine q_const ?_
  refine q_cast c (by decide) (by decide) (by decide) (by decide) (by decide) (fun st c => ?_)
  refine q_dup ?_
  refine q_const ?_
  refine q_const ?_
  refine q_cast c (by decide) (by decide) (by decide) (by decide) (by decide) (fun st c => ?_)
  refine q_dup ?_
  refine q_const ?_
  refine q_const ?_
  refine q_cast c (by decide) (by decide) (by decide) (by decide) (by decide) (fun st c => ?_)
  refine q_dup ?_
  refine q_const ?_
  refine q_const ?_
  refine q_cast c (by decide) (by decide) (by decide) (by decide) (by decide) (fun st c => ?_)
  refine q_putR c (by decide) (by decide) rfl (fun st c => ?_)
  refine q_aload (x := 137) rfl ?_
  refine q_const ?_
  refine q_newa_char (o := 148) (N := 4) (rc' := 43) (rs' := 58673) c rfl (by decide) rfl rfl rfl rfl (by decide) (fun st c => ?_)
  refine q_dup ?_
  refine q_const ?_
  refine q_const ?_
  refine q_cast c (by decide) (by decide) (by decide) (by decide) (by decide) (fun st c => ?_)
  refine q_dup ?_
  refine q_const ?_
  refine q_const ?_
  refine q_cast c (by decide) (by decide) (by decide) (by decide) (by decide) (fun st c => ?_)
  refine q_dup ?_
  refine q_const ?_
  refine q_const ?_
  refine q_cast c (by decide) (by decide) (by decide) (by decide) (by decide) (fun st c => ?_)
  refine q_dup ?_
  exact z_Md_308 c h
theorem z_Md_189 (c : CS 145 l M0 st) (h : ∀ st, CS 191 ((137, 83, 191) :: (137, 79, 190) :: (137, 78, 189) :: (137, 77, 188) :: (137, 76, 187) :: (137, 75, 186) :: (137, 74, 185) :: (137, 73, 184) :: (137, 72, 183) :: (137, 69, 182) :: (137, 68, (-1)) :: (137, 67, (-1)) :: (137, 66, 181) :: (137, 64, 180) :: (137, 51, 179) :: (137, 49, 178) :: (137, 48, 177) :: (137, 47, 176) :: (137, 46, 175) :: (137, 45, 174) :: (137, 44, 173) :: (137, 43, 172) :: (137, 42, 171) :: (137, 41, 170) :: (137, 40, 169) :: (137, 39, 168) :: (137, 38, 167) :: (137, 37, 166) :: (137, 36, 165) :: (137, 34, 164) :: (164, 2, 120) :: (164, 1, 97) :: (164, 0, 109) :: (137, 33, 163) :: (163, 2, 110) :: (163, 1, 105) :: (163, 0, 109) :: (137, 32, 162) :: (162, 4, 110) :: (162, 3, 105) :: (162, 2, 97) :: (162, 1, 103) :: (162, 0, 97) :: (137, 31, 161) :: (161, 3, 101) :: (161, 2, 110) :: (161, 1, 111) :: (161, 0, 100) :: (137, 30, 160) :: (160, 5, 116) :: (160, 4, 104) :: (160, 3, 103) :: (160, 2, 117) :: (160, 1, 97) :: (160, 0, 99) :: (137, 29, 159) :: (159, 5, 110) :: (159, 4, 119) :: (159, 3, 111) :: (159, 2, 114) :: (159, 1, 104) :: (159, 0, 116) :: (137, 28, 158) :: (158, 3, 107) :: (158, 2, 99) :: (158, 1, 105) :: (158, 0, 116) :: (137, 27, 157) :: (157, 2, 112) :: (157, 1, 97) :: (157, 0, 103) :: (137, 26, 156) :: (156, 4, 103) :: (156, 3, 110) :: (156, 2, 105) :: (156, 1, 119) :: (156, 0, 115) :: (137, 25, 155) :: (155, 3, 115) :: (155, 2, 115) :: (155, 1, 105) :: (155, 0, 109) :: (137, 24, 154) :: (154, 2, 108) :: (154, 1, 108) :: (154, 0, 97) :: (137, 23, 153) :: (153, 2, 116) :: (153, 1, 111) :: (153, 0, 110) :: (137, 22, 152) :: (152, 2, 100) :: (152, 1, 110) :: (152, 0, 97) :: (137, 21, 151) :: (151, 1, 114) :: (151, 0, 111) :: (137, 20, 150) :: (150, 3, 110) :: (150, 2, 101) :: (150, 1, 104) :: (150, 0, 119) :: (137, 19, 149) :: (149, 4, 104) :: (149, 3, 116) :: (149, 2, 114) :: (149, 1, 111) :: (149, 0, 119) :: (137, 18, 148) :: (148, 3, 115) :: (148, 2, 109) :: (148, 1, 114) :: (148, 0, 97) :: (137, 17, 147) :: (147, 4, 115) :: (147, 3, 107) :: (147, 2, 99) :: (147, 1, 105) :: (147, 0, 116) :: (137, 16, 146) :: (146, 4, 107) :: (146, 3, 99) :: (146, 2, 105) :: (146, 1, 114) :: (146, 0, 116) :: (137, 15, 145) :: (145, 6, 114) :: (145, 5, 101) :: (145, 4, 104) :: (145, 3, 99) :: (145, 2, 116) :: (145, 1, 97) :: (145, 0, 99) :: l) M0 st → Q none st) : b_Md_init_189 (d + 5) Q 46 58687 (am_ent [vR 137] m_Md_init.2.2.1) [vI 99, vI 0, vR 145, vR 145, vR 137] st := by
  unfold b_Md_init_189
  refine q_cast c (by decide) (by decide) (by decide) (by decide) (by decide) (fun st c => ?_)
  refine q_dup ?_
  refine q_const ?_
  refine q_const ?_
  refine q_cast c (by decide) (by decide) (by decide) (by decide) (by decide) (fun st c => ?_)
  refine q_dup ?_
  refine q_const ?_
  refine q_const ?_
  refine q_cast c (by decide) (by decide) (by decide) (by decide) (by decide) (fun st c => ?_)
  refine q_dup ?_
  refine q_const ?_
  refine q_const ?_
  refine q_cast c (by decide) (by decide) (by decide) (by decide) (by decide) (fun st c => ?_)
  refine q_dup ?_
  refine q_const ?_
  refine q_const ?_
  refine q_cast c (by decide) (by decide) (by decide) (by decide) (by decide) (fun st c => ?_)
  refine q_dup ?_
  refine q_const ?_
  refine q_const ?_
  refine q_cast c (by decide) (by decide) (by decide) (by decide) (by decide) (fun st c => ?_)
  refine q_dup ?_
  refine q_const ?_
  refine q_const ?_
  refine q_cast c (by decide) (by decide) (by decide) (by decide) (by decide) (fun st c => ?_)
  refine q_putR c (by decide) (by decide) rfl (fun st c => ?_)
  refine q_aload (x := 137) rfl ?_
  refine q_const ?_
  refine q_newa_char (o := 146) (N := 5) (rc' := 45) (rs' := 58682) c rfl (by decide) rfl rfl rfl rfl (by decide) (fun st c => ?_)
  refine q_dup ?_
  refine q_const ?_
  refine q_const ?_
  refine q_cast c (by decide) (by decide) (by decide) (by decide) (by decide) (fun st c => ?_)
  refine q_dup ?_
  refine q_const ?_
  refine q_const ?_
  refine q_cast c (by decide) (by decide) (by decide) (by decide) (by decide) (fun st c => ?_)
  refine q_dup ?_
  refine q_const ?_
  refine q_const ?_
  refine q_cast c (by decide) (by decide) (by decide) (by decide) (by decide) (fun st c => ?_)
  refine q_dup ?_
  refine q_const ?_
  refine q_const ?_
  refine q_cast c (by decide) (by decide) (by decide) (by decide) (by decide) (fun st c => ?_)
  exact z_Md_248 c h
theorem z_Md_127 (c : CS 143 l M0 st) (h : ∀ st, CS 191 ((137, 83, 191) :: (137, 79, 190) :: (137, 78, 189) :: (137, 77, 188) :: (137, 76, 187) :: (137, 75, 186) :: (137, 74, 185) :: (137, 73, 184) :: (137, 72, 183) :: (137, 69, 182) :: (137, 68, (-1)) :: (137, 67, (-1)) :: (137, 66, 181) :: (137, 64, 180) :: (137, 51, 179) :: (137, 49, 178) :: (137, 48, 177) :: (137, 47, 176) :: (137, 46, 175) :: (137, 45, 174) :: (137, 44, 173) :: (137, 43, 172) :: (137, 42, 171) :: (137, 41, 170) :: (137, 40, 169) :: (137, 39, 168) :: (137, 38, 167) :: (137, 37, 166) :: (137, 36, 165) :: (137, 34, 164) :: (164, 2, 120) :: (164, 1, 97) :: (164, 0, 109) :: (137, 33, 163) :: (163, 2, 110) :: (163, 1, 105) :: (163, 0, 109) :: (137, 32, 162) :: (162, 4, 110) :: (162, 3, 105) :: (162, 2, 97) :: (162, 1, 103) :: (162, 0, 97) :: (137, 31, 161) :: (161, 3, 101) :: (161, 2, 110) :: (161, 1, 111) :: (161, 0, 100) :: (137, 30, 160) :: (160, 5, 116) :: (160, 4, 104) :: (160, 3, 103) :: (160, 2, 117) :: (160, 1, 97) :: (160, 0, 99) :: (137, 29, 159) :: (159, 5, 110) :: (159, 4, 119) :: (159, 3, 111) :: (159, 2, 114) :: (159, 1, 104) :: (159, 0, 116) :: (137, 28, 158) :: (158, 3, 107) :: (158, 2, 99) :: (158, 1, 105) :: (158, 0, 116) :: (137, 27, 157) :: (157, 2, 112) :: (157, 1, 97) :: (157, 0, 103) :: (137, 26, 156) :: (156, 4, 103) :: (156, 3, 110) :: (156, 2, 105) :: (156, 1, 119) :: (156, 0, 115) :: (137, 25, 155) :: (155, 3, 115) :: (155, 2, 115) :: (155, 1, 105) :: (155, 0, 109) :: (137, 24, 154) :: (154, 2, 108) :: (154, 1, 108) :: (154, 0, 97) :: (137, 23, 153) :: (153, 2, 116) :: (153, 1, 111) :: (153, 0, 110) :: (137, 22, 152) :: (152, 2, 100) :: (152, 1, 110) :: (152, 0, 97) :: (137, 21, 151) :: (151, 1, 114) :: (151, 0, 111) :: (137, 20, 150) :: (150, 3, 110) :: (150, 2, 101) :: (150, 1, 104) :: (150, 0, 119) :: (137, 19, 149) :: (149, 4, 104) :: (149, 3, 116) :: (149, 2, 114) :: (149, 1, 111) :: (149, 0, 119) :: (137, 18, 148) :: (148, 3, 115) :: (148, 2, 109) :: (148, 1, 114) :: (148, 0, 97) :: (137, 17, 147) :: (147, 4, 115) :: (147, 3, 107) :: (147, 2, 99) :: (147, 1, 105) :: (147, 0, 116) :: (137, 16, 146) :: (146, 4, 107) :: (146, 3, 99) :: (146, 2, 105) :: (146, 1, 114) :: (146, 0, 116) :: (137, 15, 145) :: (145, 6, 114) :: (145, 5, 101) :: (145, 4, 104) :: (145, 3, 99) :: (145, 2, 116) :: (145, 1, 97) :: (145, 0, 99) :: (137, 14, 144) :: (144, 4, 100) :: (144, 3, 114) :: (144, 2, 97) :: (144, 1, 111) :: (144, 0, 98) :: (137, 13, 143) :: (143, 4, 104) :: (143, 3, 99) :: (143, 2, 97) :: (143, 1, 101) :: l) M0 st → Q none st) : b_Md_init_127 (d + 5) Q 48 58699 (am_ent [vR 137] m_Md_init.2.2.1) [vI 1, vR 143, vR 143, vR 137] st := by
  unfold b_Md_init_127
  refine q_const ?_
  refine q_cast c (by decide) (by decide) (by decide) (by decide) (by decide) (fun st c => ?_)
  refine q_dup ?_
  refine q_const ?_
  refine q_const ?_
  refine q_cast c (by decide) (by decide) (by decide) (by decide) (by decide) (fun st c => ?_)
  refine q_dup ?_
  refine q_const ?_
  refine q_const ?_
  refine q_cast c (by decide) (by decide) (by decide) (by decide) (by decide) (fun st c => ?_)
  refine q_dup ?_
  refine q_const ?_
  refine q_const ?_
  refine q_cast c (by decide) (by decide) (by decide) (by decide) (by decide) (fun st c => ?_)
  refine q_putR c (by decide) (by decide) rfl (fun st c => ?_)
  refine q_aload (x := 137) rfl ?_
  refine q_const ?_
  refine q_newa_char (o := 144) (N := 5) (rc' := 47) (rs' := 58694) c rfl (by decide) rfl rfl rfl rfl (by decide) (fun st c => ?_)
  refine q_dup ?_
  refine q_const ?_
  refine q_const ?_
  refine q_cast c (by decide) (by decide) (by decide) (by decide) (by decide) (fun st c => ?_)
  refine q_dup ?_
  refine q_const ?_
  refine q_const ?_
  refine q_cast c (by decide) (by decide) (by decide) (by decide) (by decide) (fun st c => ?_)
  refine q_dup ?_
  refine q_const ?_
  refine q_const ?_
  refine q_cast c (by decide) (by decide) (by decide) (by decide) (by decide) (fun st c => ?_)
  refine q_dup ?_
  refine q_const ?_
  refine q_const ?_
  refine q_cast c (by decide) (by decide) (by decide) (by decide) (by decide) (fun st c => ?_)
  refine q_dup ?_
  refine q_const ?_
  refine q_const ?_
  refine q_cast c (by decide) (by decide) (by decide) (by decide) (by decide) (fun st c => ?_)
  refine q_putR c (by decide) (by decide) rfl (fun st c => ?_)
  refine q_aload (x := 137) rfl ?_
  refine q_const ?_
  refine q_newa_char (o := 145) (N := 7) (rc' := 46) (rs' := 58687) c rfl (by decide) rfl rfl rfl rfl (by decide) (fun st c => ?_)
  refine q_dup ?_
  refine q_const ?_
  refine q_const ?_
  exact z_Md_189 c h
theorem z_Md_67 (c : CS 141 l M0 st) (h : ∀ st, CS 191 ((137, 83, 191) :: (137, 79, 190) :: (137, 78, 189) :: (137, 77, 188) :: (137, 76, 187) :: (137, 75, 186) :: (137, 74, 185) :: (137, 73, 184) :: (137, 72, 183) :: (137, 69, 182) :: (137, 68, (-1)) :: (137, 67, (-1)) :: (137, 66, 181) :: (137, 64, 180) :: (137, 51, 179) :: (137, 49, 178) :: (137, 48, 177) :: (137, 47, 176) :: (137, 46, 175) :: (137, 45, 174) :: (137, 44, 173) :: (137, 43, 172) :: (137, 42, 171) :: (137, 41, 170) :: (137, 40, 169) :: (137, 39, 168) :: (137, 38, 167) :: (137, 37, 166) :: (137, 36, 165) :: (137, 34, 164) :: (164, 2, 120) :: (164, 1, 97) :: (164, 0, 109) :: (137, 33, 163) :: (163, 2, 110) :: (163, 1, 105) :: (163, 0, 109) :: (137, 32, 162) :: (162, 4, 110) :: (162, 3, 105) :: (162, 2, 97) :: (162, 1, 103) :: (162, 0, 97) :: (137, 31, 161) :: (161, 3, 101) :: (161, 2, 110) :: (161, 1, 111) :: (161, 0, 100) :: (137, 30, 160) :: (160, 5, 116) :: (160, 4, 104) :: (160, 3, 103) :: (160, 2, 117) :: (160, 1, 97) :: (160, 0, 99) :: (137, 29, 159) :: (159, 5, 110) :: (159, 4, 119) :: (159, 3, 111) :: (159, 2, 114) :: (159, 1, 104) :: (159, 0, 116) :: (137, 28, 158) :: (158, 3, 107) :: (158, 2, 99) :: (158, 1, 105) :: (158, 0, 116) :: (137, 27, 157) :: (157, 2, 112) :: (157, 1, 97) :: (157, 0, 103) :: (137, 26, 156) :: (156, 4, 103) :: (156, 3, 110) :: (156, 2, 105) :: (156, 1, 119) :: (156, 0, 115) :: (137, 25, 155) :: (155, 3, 115) :: (155, 2, 115) :: (155, 1, 105) :: (155, 0, 109) :: (137, 24, 154) :: (154, 2, 108) :: (154, 1, 108) :: (154, 0, 97) :: (137, 23, 153) :: (153, 2, 116) :: (153, 1, 111) :: (153, 0, 110) :: (137, 22, 152) :: (152, 2, 100) :: (152, 1, 110) :: (152, 0, 97) :: (137, 21, 151) :: (151, 1, 114) :: (151, 0, 111) :: (137, 20, 150) :: (150, 3, 110) :: (150, 2, 101) :: (150, 1, 104) :: (150, 0, 119) :: (137, 19, 149) :: (149, 4, 104) :: (149, 3, 116) :: (149, 2, 114) :: (149, 1, 111) :: (149, 0, 119) :: (137, 18, 148) :: (148, 3, 115) :: (148, 2, 109) :: (148, 1, 114) :: (148, 0, 97) :: (137, 17, 147) :: (147, 4, 115) :: (147, 3, 107) :: (147, 2, 99) :: (147, 1, 105) :: (147, 0, 116) :: (137, 16, 146) :: (146, 4, 107) :: (146, 3, 99) :: (146, 2, 105) :: (146, 1, 114) :: (146, 0, 116) :: (137, 15, 145) :: (145, 6, 114) :: (145, 5, 101) :: (145, 4, 104) :: (145, 3, 99) :: (145, 2, 116) :: (145, 1, 97) :: (145, 0, 99) :: (137, 14, 144) :: (144, 4, 100) :: (144, 3, 114) :: (144, 2, 97) :: (144, 1, 111) :: (144, 0, 98) :: (137, 13, 143) :: (143, 4, 104) :: (143, 3, 99) :: (143, 2, 97) :: (143, 1, 101) :: (143, 0, 114) :: (137, 12, 142) :: (142, 3, 109) :: (142, 2, 111) :: (142, 1, 114) :: (142, 0, 102) :: (137, 11, 141) :: (141, 4, 121) :: (141, 3, 114) :: (141, 2, 101) :: (141, 1, 118) :: l) M0 st → Q none st) : b_Md_init_67 (d + 5) Q 50 58708 (am_ent [vR 137] m_Md_init.2.2.1) [vR 141, vR 141, vR 137] st := by
  unfold b_Md_init_67
  refine q_const ?_
  refine q_const ?_
  refine q_cast c (by decide) (by decide) (by decide) (by decide) (by decide) (fun st c => ?_)
  refine q_dup ?_
  refine q_const ?_
  refine q_const ?_
  refine q_cast c (by decide) (by decide) (by decide) (by decide) (by decide) (fun st c => ?_)
  refine q_dup ?_
  refine q_const ?_
  refine q_const ?_
  refine q_cast c (by decide) (by decide) (by decide) (by decide) (by decide) (fun st c => ?_)
  refine q_dup ?_
  refine q_const ?_
  refine q_const ?_
  refine q_cast c (by decide) (by decide) (by decide) (by decide) (by decide) (fun st c => ?_)
  refine q_putR c (by decide) (by decide) rfl (fun st c => ?_)
  refine q_aload (x := 137) rfl ?_
  refine q_const ?_
  refine q_newa_char (o := 142) (N := 4) (rc' := 49) (rs' := 58704) c rfl (by decide) rfl rfl rfl rfl (by decide) (fun st c => ?_)
  refine q_dup ?_
  refine q_const ?_
  refine q_const ?_
  refine q_cast c (by decide) (by decide) (by decide) (by decide) (by decide) (fun st c => ?_)
  refine q_dup ?_
  refine q_const ?_
  refine q_const ?_
  refine q_cast c (by decide) (by decide) (by decide) (by decide) (by decide) (fun st c => ?_)
  refine q_dup ?_
  refine q_const ?_
  refine q_const ?_
  refine q_cast c (by decide) (by decide) (by decide) (by decide) (by decide) (fun st c => ?_)
  refine q_dup ?_
  refine q_const ?_
  refine q_const ?_
  refine q_cast c (by decide) (by decide) (by decide) (by decide) (by decide) (fun st c => ?_)
  refine q_putR c (by decide) (by decide) rfl (fun st c => ?_)
  refine q_aload (x := 137) rfl ?_
  refine q_const ?_
  refine q_newa_char (o := 143) (N := 5) (rc' := 48) (rs' := 58699) c rfl (by decide) rfl rfl rfl rfl (by decide) (fun st c => ?_)
  refine q_dup ?_
  refine q_const ?_
  refine q_const ?_
  refine q_cast c (by decide) (by decide) (by decide) (by decide) (by decide) (fun st c => ?_)
  refine q_dup ?_
  refine q_const ?_
  exact z_Md_127 c h
theorem z_Md_0 (c : CS 137 l M0 st) (h : ∀ st, CS 191 ((137, 83, 191) :: (137, 79, 190) :: (137, 78, 189) :: (137, 77, 188) :: (137, 76, 187) :: (137, 75, 186) :: (137, 74, 185) :: (137, 73, 184) :: (137, 72, 183) :: (137, 69, 182) :: (137, 68, (-1)) :: (137, 67, (-1)) :: (137, 66, 181) :: (137, 64, 180) :: (137, 51, 179) :: (137, 49, 178) :: (137, 48, 177) :: (137, 47, 176) :: (137, 46, 175) :: (137, 45, 174) :: (137, 44, 173) :: (137, 43, 172) :: (137, 42, 171) :: (137, 41, 170) :: (137, 40, 169) :: (137, 39, 168) :: (137, 38, 167) :: (137, 37, 166) :: (137, 36, 165) :: (137, 34, 164) :: (164, 2, 120) :: (164, 1, 97) :: (164, 0, 109) :: (137, 33, 163) :: (163, 2, 110) :: (163, 1, 105) :: (163, 0, 109) :: (137, 32, 162) :: (162, 4, 110) :: (162, 3, 105) :: (162, 2, 97) :: (162, 1, 103) :: (162, 0, 97) :: (137, 31, 161) :: (161, 3, 101) :: (161, 2, 110) :: (161, 1, 111) :: (161, 0, 100) :: (137, 30, 160) :: (160, 5, 116) :: (160, 4, 104) :: (160, 3, 103) :: (160, 2, 117) :: (160, 1, 97) :: (160, 0, 99) :: (137, 29, 159) :: (159, 5, 110) :: (159, 4, 119) :: (159, 3, 111) :: (159, 2, 114) :: (159, 1, 104) :: (159, 0, 116) :: (137, 28, 158) :: (158, 3, 107) :: (158, 2, 99) :: (158, 1, 105) :: (158, 0, 116) :: (137, 27, 157) :: (157, 2, 112) :: (157, 1, 97) :: (157, 0, 103) :: (137, 26, 156) :: (156, 4, 103) :: (156, 3, 110) :: (156, 2, 105) :: (156, 1, 119) :: (156, 0, 115) :: (137, 25, 155) :: (155, 3, 115) :: (155, 2, 115) :: (155, 1, 105) :: (155, 0, 109) :: (137, 24, 154) :: (154, 2, 108) :: (154, 1, 108) :: (154, 0, 97) :: (137, 23, 153) :: (153, 2, 116) :: (153, 1, 111) :: (153, 0, 110) :: (137, 22, 152) :: (152, 2, 100) :: (152, 1, 110) :: (152, 0, 97) :: (137, 21, 151) :: (151, 1, 114) :: (151, 0, 111) :: (137, 20, 150) :: (150, 3, 110) :: (150, 2, 101) :: (150, 1, 104) :: (150, 0, 119) :: (137, 19, 149) :: (149, 4, 104) :: (149, 3, 116) :: (149, 2, 114) :: (149, 1, 111) :: (149, 0, 119) :: (137, 18, 148) :: (148, 3, 115) :: (148, 2, 109) :: (148, 1, 114) :: (148, 0, 97) :: (137, 17, 147) :: (147, 4, 115) :: (147, 3, 107) :: (147, 2, 99) :: (147, 1, 105) :: (147, 0, 116) :: (137, 16, 146) :: (146, 4, 107) :: (146, 3, 99) :: (146, 2, 105) :: (146, 1, 114) :: (146, 0, 116) :: (137, 15, 145) :: (145, 6, 114) :: (145, 5, 101) :: (145, 4, 104) :: (145, 3, 99) :: (145, 2, 116) :: (145, 1, 97) :: (145, 0, 99) :: (137, 14, 144) :: (144, 4, 100) :: (144, 3, 114) :: (144, 2, 97) :: (144, 1, 111) :: (144, 0, 98) :: (137, 13, 143) :: (143, 4, 104) :: (143, 3, 99) :: (143, 2, 97) :: (143, 1, 101) :: (143, 0, 114) :: (137, 12, 142) :: (142, 3, 109) :: (142, 2, 111) :: (142, 1, 114) :: (142, 0, 102) :: (137, 11, 141) :: (141, 4, 121) :: (141, 3, 114) :: (141, 2, 101) :: (141, 1, 118) :: (141, 0, 101) :: (137, 10, 140) :: (140, 1, 116) :: (140, 0, 97) :: (137, 9, 139) :: (139, 2, 114) :: (139, 1, 97) :: (139, 0, 98) :: (137, 8, (-1)) :: (137, 0, 138) :: l) M0 st → Q none st) : b_Md_init_0 (d + 5) Q 54 59618 (am_ent [vR 137] m_Md_init.2.2.1) [] st := by
  unfold b_Md_init_0
  refine q_aload (x := 137) rfl ?_
  refine q_oini c (by decide) (by decide) (by decide) ?_
  refine q_aload (x := 137) rfl ?_
  refine q_const ?_
  refine q_newa_int (o := 138) (N := 900) (rc' := 53) (rs' := 58718) c rfl (by decide) rfl rfl rfl rfl (by decide) (fun st c => ?_)
  refine q_putR c (by decide) (by decide) rfl (fun st c => ?_)
  refine q_aload (x := 137) rfl ?_
  refine q_const ?_
  refine q_putI c (by decide) (by decide) rfl (fun st c => ?_)
  refine q_aload (x := 137) rfl ?_
  refine q_const ?_
  refine q_newa_char (o := 139) (N := 3) (rc' := 52) (rs' := 58715) c rfl (by decide) rfl rfl rfl rfl (by decide) (fun st c => ?_)
  refine q_dup ?_
  refine q_const ?_
  refine q_const ?_
  refine q_cast c (by decide) (by decide) (by decide) (by decide) (by decide) (fun st c => ?_)
  refine q_dup ?_
  refine q_const ?_
  refine q_const ?_
  refine q_cast c (by decide) (by decide) (by decide) (by decide) (by decide) (fun st c => ?_)
  refine q_dup ?_
  refine q_const ?_
  refine q_const ?_
  refine q_cast c (by decide) (by decide) (by decide) (by decide) (by decide) (fun st c => ?_)
  refine q_putR c (by decide) (by decide) rfl (fun st c => ?_)
  refine q_aload (x := 137) rfl ?_
  refine q_const ?_
  refine q_newa_char (o := 140) (N := 2) (rc' := 51) (rs' := 58713) c rfl (by decide) rfl rfl rfl rfl (by decide) (fun st c => ?_)
  refine q_dup ?_
  refine q_const ?_
  refine q_const ?_
  refine q_cast c (by decide) (by decide) (by decide) (by decide) (by decide) (fun st c => ?_)
  refine q_dup ?_
  refine q_const ?_
  refine q_const ?_
  refine q_cast c (by decide) (by decide) (by decide) (by decide) (by decide) (fun st c => ?_)
  refine q_putR c (by decide) (by decide) rfl (fun st c => ?_)
  refine q_aload (x := 137) rfl ?_
  refine q_const ?_
  refine q_newa_char (o := 141) (N := 5) (rc' := 50) (rs' := 58708) c rfl (by decide) rfl rfl rfl rfl (by decide) (fun st c => ?_)
  refine q_dup ?_
  refine q_const ?_
  refine q_const ?_
  refine q_cast c (by decide) (by decide) (by decide) (by decide) (by decide) (fun st c => ?_)
  refine q_dup ?_
  exact z_Md_67 c h
/-- all writes -/
def wA : List (Int × Int × Int) := ((137, 83, 191) :: (137, 79, 190) :: (137, 78, 189) :: (137, 77, 188) :: (137, 76, 187) :: (137, 75, 186) :: (137, 74, 185) :: (137, 73, 184) :: (137, 72, 183) :: (137, 69, 182) :: (137, 68, (-1)) :: (137, 67, (-1)) :: (137, 66, 181) :: (137, 64, 180) :: (137, 51, 179) :: (137, 49, 178) :: (137, 48, 177) :: (137, 47, 176) :: (137, 46, 175) :: (137, 45, 174) :: (137, 44, 173) :: (137, 43, 172) :: (137, 42, 171) :: (137, 41, 170) :: (137, 40, 169) :: (137, 39, 168) :: (137, 38, 167) :: (137, 37, 166) :: (137, 36, 165) :: (137, 34, 164) :: (164, 2, 120) :: (164, 1, 97) :: (164, 0, 109) :: (137, 33, 163) :: (163, 2, 110) :: (163, 1, 105) :: (163, 0, 109) :: (137, 32, 162) :: (162, 4, 110) :: (162, 3, 105) :: (162, 2, 97) :: (162, 1, 103) :: (162, 0, 97) :: (137, 31, 161) :: (161, 3, 101) :: (161, 2, 110) :: (161, 1, 111) :: (161, 0, 100) :: (137, 30, 160) :: (160, 5, 116) :: (160, 4, 104) :: (160, 3, 103) :: (160, 2, 117) :: (160, 1, 97) :: (160, 0, 99) :: (137, 29, 159) :: (159, 5, 110) :: (159, 4, 119) :: (159, 3, 111) :: (159, 2, 114) :: (159, 1, 104) :: (159, 0, 116) :: (137, 28, 158) :: (158, 3, 107) :: (158, 2, 99) :: (158, 1, 105) :: (158, 0, 116) :: (137, 27, 157) :: (157, 2, 112) :: (157, 1, 97) :: (157, 0, 103) :: (137, 26, 156) :: (156, 4, 103) :: (156, 3, 110) :: (156, 2, 105) :: (156, 1, 119) :: (156, 0, 115) :: (137, 25, 155) :: (155, 3, 115) :: (155, 2, 115) :: (155, 1, 105) :: (155, 0, 109) :: (137, 24, 154) :: (154, 2, 108) :: (154, 1, 108) :: (154, 0, 97) :: (137, 23, 153) :: (153, 2, 116) :: (153, 1, 111) :: (153, 0, 110) :: (137, 22, 152) :: (152, 2, 100) :: (152, 1, 110) :: (152, 0, 97) :: (137, 21, 151) :: (151, 1, 114) :: (151, 0, 111) :: (137, 20, 150) :: (150, 3, 110) :: (150, 2, 101) :: (150, 1, 104) :: (150, 0, 119) :: (137, 19, 149) :: (149, 4, 104) :: (149, 3, 116) :: (149, 2, 114) :: (149, 1, 111) :: (149, 0, 119) :: (137, 18, 148) :: (148, 3, 115) :: (148, 2, 109) :: (148, 1, 114) :: (148, 0, 97) :: (137, 17, 147) :: (147, 4, 115) :: (147, 3, 107) :: (147, 2, 99) :: (147, 1, 105) :: (147, 0, 116) :: (137, 16, 146) :: (146, 4, 107) :: (146, 3, 99) :: (146, 2, 105) :: (146, 1, 114) :: (146, 0, 116) :: (137, 15, 145) :: (145, 6, 114) :: (145, 5, 101) :: (145, 4, 104) :: (145, 3, 99) :: (145, 2, 116) :: (145, 1, 97) :: (145, 0, 99) :: (137, 14, 144) :: (144, 4, 100) :: (144, 3, 114) :: (144, 2, 97) :: (144, 1, 111) :: (144, 0, 98) :: (137, 13, 143) :: (143, 4, 104) :: (143, 3, 99) :: (143, 2, 97) :: (143, 1, 101) :: (143, 0, 114) :: (137, 12, 142) :: (142, 3, 109) :: (142, 2, 111) :: (142, 1, 114) :: (142, 0, 102) :: (137, 11, 141) :: (141, 4, 121) :: (141, 3, 114) :: (141, 2, 101) :: (141, 1, 118) :: (141, 0, 101) :: (137, 10, 140) :: (140, 1, 116) :: (140, 0, 97) :: (137, 9, 139) :: (139, 2, 114) :: (139, 1, 97) :: (139, 0, 98) :: (137, 8, (-1)) :: (137, 0, 138) :: [(1, 8, 135), (135, 0, 136), (1, 7, 64), (64, 3, 134), (64, 2, 127), (127, 0, 128), (127, 1, 129), (127, 2, 130), (127, 3, 131), (127, 4, 132), (127, 5, 133), (64, 1, 96), (96, 5, 122), (122, 3, 126), (122, 2, 125), (122, 1, 124), (122, 0, 123), (96, 4, 117), (117, 3, 121), (117, 2, 120), (117, 1, 119), (117, 0, 118), (96, 3, 112), (112, 3, 116), (112, 2, 115), (112, 1, 114), (112, 0, 113), (96, 2, 107), (107, 3, 111), (107, 2, 110), (107, 1, 109), (107, 0, 108), (96, 1, 102), (102, 3, 106), (102, 2, 105), (102, 1, 104), (102, 0, 103), (96, 0, 97), (97, 3, 101), (97, 2, 100), (97, 1, 99), (97, 0, 98), (64, 0, 65), (65, 5, 91), (91, 3, 95), (91, 2, 94), (91, 1, 93), (91, 0, 92), (65, 4, 86), (86, 3, 90), (86, 2, 89), (86, 1, 88), (86, 0, 87), (65, 3, 81), (81, 3, 85), (81, 2, 84), (81, 1, 83), (81, 0, 82), (65, 2, 76), (76, 3, 80), (76, 2, 79), (76, 1, 78), (76, 0, 77), (65, 1, 71), (71, 3, 75), (71, 2, 74), (71, 1, 73), (71, 0, 72), (65, 0, 66), (66, 3, 70), (66, 2, 69), (66, 1, 68), (66, 0, 67), (1, 6, 59), (59, 3, 63), (59, 2, 62), (59, 1, 61), (59, 0, 60), (1, 5, 50), (50, 6, 4), (50, 5, 58), (50, 4, 57), (50, 3, 56), (50, 2, 55), (50, 1, 54), (50, 0, 51), (51, 1, 53), (51, 0, 52), (1, 4, 47), (47, 1, 49), (47, 0, 48), (1, 3, 46), (46, 1, 25), (46, 0, 2), (46, 6, (-1)), (1, 2, 25), (25, 2, 36), (36, 8, 45), (36, 7, 44), (36, 6, 43), (36, 5, 42), (36, 4, 41), (36, 3, 40), (36, 2, 39), (36, 1, 38), (36, 0, 37), (25, 1, 33), (33, 1, 35), (33, 0, 34), (25, 0, 26), (26, 5, 32), (26, 4, 31), (26, 3, 30), (26, 2, 29), (26, 1, 28), (26, 0, 27), (1, 1, 4), (4, 2, 15), (15, 8, 24), (15, 7, 23), (15, 6, 22), (15, 5, 21), (15, 4, 20), (15, 3, 19), (15, 2, 18), (15, 1, 17), (15, 0, 16), (4, 1, 12), (12, 1, 14), (12, 0, 13), (4, 0, 5), (5, 5, 11), (5, 4, 10), (5, 3, 9), (5, 2, 8), (5, 1, 7), (5, 0, 6), (1, 0, 2), (2, 0, 3)])
theorem z_law (h : ∀ st, CS 191 wA M0 st → am_Wp (d + 61) m_Law_law 0 0 18 [vR (-1), vR 1, vR 137, vI 0] [] st Q) : am_Wp (d + 61) m_Law_law 191 154411 0 (am_ent [vR (-1)] m_Law_law.2.2.1) [] ([], M0) Q := by
  refine B_Law_law_0 _ _ _ _ _ ?_
  have c : CS 0 [] M0 ([], M0) := ⟨rfl, fun a b x y => by omega, fun _ _ => rfl, fun _ _ _ => rfl, by decide⟩
  unfold b_Law_law_0
  refine q_new (o := 1) (rc' := 190) (rs' := 154402) c rfl (by decide) rfl rfl rfl (fun st c => ?_)
  refine q_dup ?_
  refine q_callI0 (rc' := 55) (rs' := 59703) c (by decide) (by decide) (by decide) rfl rfl (z_FB_1 c (fun st c => ?_))
  unfold am_nx am_push
  dsimp only
  refine q_astore ?_
  refine q_new (o := 137) (rc' := 54) (rs' := 59618) c rfl (by decide) rfl rfl rfl (fun st c => ?_)
  refine q_dup ?_
  refine q_callI0 (rc' := 0) (rs' := 0) c (by decide) (by decide) (by decide) rfl rfl (am_go B_Md_init_0 rfl (Nat.le_of_ble_eq_true rfl) (z_Md_0 c (fun st c => ?_)))
  unfold am_nx am_push
  dsimp only
  refine q_astore ?_
  refine q_const ?_
  refine q_istore ?_
  unfold c_at
  exact h st c
end
