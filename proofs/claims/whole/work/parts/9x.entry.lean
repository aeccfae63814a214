/-! what holds at the law's entry -/
section
/-- the texts, as the start tells them -/
def sT9 (i : Nat) : Term := Term.string RX6 (am_str.getD i (0, "")).1
def fv9 (i : Nat) : Term := .field (sT9 i) "java/lang/String" "value" "[B"
def cs9 (i : Nat) : List Cond := [Cond.exactly (sT9 i) "java/lang/String", Cond.eq (.field (sT9 i) "java/lang/String" "coder" "B") (.int 0), Cond.arrayOf (fv9 i) .byte, Cond.eq (.length (fv9 i)) (.int (Int32.ofNat (am_slen.getD i 0)))] ++ (List.range (am_slen.getD i 0)).map (fun j => Cond.eq (.elem (fv9 i) (.int (Int32.ofNat j))) (.int ((am_sbyt.getD i []).getD j 0)))
theorem flE9 : (flatC (Jvm.Cond.and given_1 narrow_1)).drop 9 = (List.range 27).flatMap cs9 := by decide +kernel
theorem cs9_in {args : Array Value} {s : State} (h : (Jvm.Cond.and given_1 narrow_1).before args s = true) {i : Nat} (hi : i < 27) : ∀ w ∈ cs9 i, w.before args s = true := fun w hw => flat_of_before _ h w (List.mem_of_mem_drop (by rw [flE9]; exact List.mem_flatMap.mpr ⟨i, List.mem_range.mpr hi, hw⟩))
/-- no two texts are the same -/
def df9 (i j : Nat) : Bool := (am_slen.getD i 0 != am_slen.getD j 0) || (List.range (am_slen.getD i 0)).any (fun k => (am_sbyt.getD i []).getD k 0 != (am_sbyt.getD j []).getD k 0)
theorem df9_all : (List.range 27).all (fun i => (List.range 27).all (fun j => i == j || df9 i j) && decide (am_slen.getD i 0 < 2147483648)) = true := by decide +kernel
theorem df9_ne {i j : Nat} (hi : i < 27) (hj : j < 27) (h : df9 i j = false) : i = j := by
  have a := List.all_eq_true.mp df9_all i (List.mem_range.mpr hi)
  have b := List.all_eq_true.mp (Bool.and_eq_true_iff.mp a).1 j (List.mem_range.mpr hj)
  rcases Bool.or_eq_true_iff.mp b with e | e
  · exact eq_of_beq e
  · rw [h] at e; cases e
theorem slE9 {i : Nat} (hi : i < 27) : am_slen.getD i 0 < 2 ^ 31 := by
  have a := List.all_eq_true.mp df9_all i (List.mem_range.mpr hi)
  exact of_decide_eq_true (Bool.and_eq_true_iff.mp a).2
theorem str9 {args : Array Value} {s : State} {A : Nat → Prop} (h : (Jvm.Cond.and given_1 narrow_1).before args s = true) (hA : ∀ a : Nat, a < s.heap.size → ¬ A a) : ∃ adK adV : Nat → Nat, vk_S 27 am_slen am_sbyt adK adV A s s.heap ∧ ∀ i : Nat, i < 27 → (sT9 i).eval args s none [] s = some (.ref (adK i)) := by
  have h0 : ∀ i : Nat, ∃ q : Nat × Nat, i < 27 → (sT9 i).eval args s none [] s = some (.ref q.1) ∧ va_O "java/lang/String" q.1 A s s.heap ∧ va_OF "java/lang/String" "coder" "B" (.int 0) q.1 A s s.heap ∧ va_OF "java/lang/String" "value" "[B" (.ref q.2) q.1 A s s.heap ∧ va_T .byte q.2 (am_slen.getD i 0) (fun j => .int ((am_sbyt.getD i []).getD j 0)) A s s.heap := by
    intro i
    by_cases hi : i < 27
    · have hw := cs9_in h hi
      obtain ⟨aK, aV, hS, hE⟩ := vk_Sof (args := args) (s := s) (N := 1) (tm := fun _ => sT9 i) (len := [am_slen.getD i 0]) (byt := [am_sbyt.getD i []]) (A := A)
        (fun k hk => by rw [show k = 0 by omega]; exact slE9 hi) (fun k hk => hw _ (by simp [cs9])) (fun k hk => hw _ (by simp [cs9])) (fun k hk => hw _ (by simp [cs9, fv9]))
        (fun k hk => by rw [show k = 0 by omega]; exact hw _ (by simp [cs9, fv9]))
        (fun k hk j hj => by
          rw [show k = 0 by omega] at hj ⊢
          exact hw _ (List.mem_append_right _ (List.mem_map.mpr ⟨j, List.mem_range.mpr hj, rfl⟩)))
        (fun a b ha hb ne => absurd (show a = b by omega) ne) hA
      have z := hS.1 0 (by decide)
      exact ⟨(aK 0, aV 0), fun _ => ⟨hE 0 (by decide), z.1, z.2.1, z.2.2.1, z.2.2.2⟩⟩
    · exact ⟨(0, 0), fun w => absurd w hi⟩
  obtain ⟨ad, had⟩ := Classical.axiomOfChoice h0
  refine ⟨fun i => (ad i).1, fun i => (ad i).2, ⟨fun i hi => (had i hi).2, fun i j hi hj e => ?_⟩, fun i hi => (had i hi).1⟩
  refine df9_ne hi hj ?_
  have e : (ad i).1 = (ad j).1 := e
  obtain ⟨c1, k1, n1, f1, l1, a1, a2, a3, a4, a5, a6⟩ := (had i hi).2.2.2.1
  obtain ⟨c2, k2, n2, f2, l2, b1, b2, b3, b4, b5, b6⟩ := (had j hj).2.2.2.1
  rw [a1] at b1
  cases b1
  rw [e, b3] at a3
  cases a3
  rw [b5] at a5
  have ev : (ad j).2 = (ad i).2 := by
    have := Option.some.inj a5
    injection this
  obtain ⟨l3, d1, d2, d3, d4, d5, d6, d7⟩ := (had i hi).2.2.2.2
  obtain ⟨l4, g1, g2, g3, g4, g5, g6, g7⟩ := (had j hj).2.2.2.2
  rw [ev, d1] at g1
  cases g1
  have en : am_slen.getD i 0 = am_slen.getD j 0 := by
    have x := d5.symm.trans g5
    have y := congrArg Int32.toInt x
    rw [Int32.toInt_ofNat_of_lt (slE9 hi), Int32.toInt_ofNat_of_lt (slE9 hj)] at y
    omega
  unfold df9
  rw [Bool.or_eq_false_iff]
  refine ⟨by rw [en]; simp, ?_⟩
  rw [List.any_eq_false]
  intro k hk
  have hk := List.mem_range.mp hk
  have x := (d6 k hk).symm.trans (g6 k (by rw [← en]; exact hk))
  have y := Option.some.inj x
  injection y with y
  simp only [y, bne_self_eq_false, Bool.false_eq_true, not_false_eq_true]
theorem arc9 {s : State} {args : Array Value} {ty : FieldType} (h : (Cond.arrayClass ty).before args s = true) : ∃ c : ClassId, ArrOfT s c ty ∧ s.vm.findClass ("[" ++ ty.toString) = some c := by
  obtain ⟨c, k, comp, h1, h2, h3⟩ := Cond.arrayClass_spec h
  exact ⟨c, fun n z => ⟨fun k h => (by cases h), k, h2, comp, h3⟩, h1⟩
theorem known9 {p : Program} {s : State} {m : MethodId} {meth : Method} {c : Code} {b L : Nat} {xs : Nat → Int32} (hL : L ≤ 4096) (hx : p.tables.exec = Jvm.exec) (hb : c.code = code) (hml : c.maxLocals = 4) (hown : s.vm.findClass "FlyingBarsLaw" = some m.cls) (hts : ∀ w ∈ lw_tbl, w.before #[Value.ref b] s = true) (hX : va_X b L xs s s.heap) (hbl : b < s.heap.size) (hgv : (Jvm.Cond.and given_1 narrow_1).before #[Value.ref b] s = true) :
    ∃ g : am_G, am_Fx m_Law_law g p s m #[Value.ref b] meth c ∧ g.2.2.1 = (b, L, xs) ∧ g.2.2.2.2.2.1 = s.heap.size := by
  have hw : ∀ w ∈ am_wall, w.before #[Value.ref b] s = true := fun w q => hts w (List.mem_filter.mp q).1
  have hA : ∀ a : Nat, a < s.heap.size → ¬ (fun q : Nat => s.heap.size ≤ q) a := fun a q => Nat.not_le.mpr q
  obtain ⟨adK, adV, hS, hE⟩ := str9 (A := fun q : Nat => s.heap.size ≤ q) hgv hA
  have hflat := flat_of_before _ hgv
  have hZ1 : va_Z "java/lang/String" "COMPACT_STRINGS" "Z" (.int 1) (fun q : Nat => s.heap.size ≤ q) s s.heap := va_Zof (hts _ (tb_3 (List.mem_of_getElem? (i := 57) rfl))) (hts _ (tb_1 (List.mem_of_getElem? (i := 15) rfl))) (va_eqt (hflat _ (by decide +kernel))) hA
  have hZ2 : va_Zq "jdk/internal/util/Preconditions" "SIOOBE_FORMATTER" "Ljava/util/function/BiFunction;" (fun q : Nat => s.heap.size ≤ q) s s.heap := va_Zqof (hts _ (tb_3 (List.mem_of_getElem? (i := 73) rfl))) (hts _ (tb_1 (List.mem_of_getElem? (i := 17) rfl))) (hflat _ (by decide +kernel)) hA
  obtain ⟨fo, hfo⟩ : ∃ fo : Option Nat, va_Z "jdk/internal/util/Preconditions" "SIOOBE_FORMATTER" "Ljava/util/function/BiFunction;" (va_rf fo) (fun q : Nat => s.heap.size ≤ q) s s.heap := by
    rcases hZ2 with z | ⟨t, z⟩
    · exact ⟨none, z⟩
    · exact ⟨some t, z⟩
  have hk : ∀ k : Nat, ∃ z : ClassId × (Nat → Nat), ∀ q : vw_C, vwCl[k]? = some q → u_Kn s q.1 q.2.1 q.2.2 z.1 z.2 := by
    intro k
    match k with
    | 0 =>
      obtain ⟨cc, ii, hh⟩ := u_known hw am_Cl_0.2.2.2.1 (hts _ (tb_2 (List.mem_of_getElem? (i := 96) rfl)))
      exact ⟨(cc, ii), fun q e => by cases e; exact hh⟩
    | 1 =>
      obtain ⟨cc, ii, hh⟩ := u_known hw am_Cl_1.2.2.2.1 (hts _ (tb_1 (List.mem_of_getElem? (i := 57) rfl)))
      exact ⟨(cc, ii), fun q e => by cases e; exact hh⟩
    | 2 =>
      obtain ⟨cc, ii, hh⟩ := u_known hw am_Cl_2.2.2.2.1 (hts _ (tb_2 (List.mem_of_getElem? (i := 166) rfl)))
      exact ⟨(cc, ii), fun q e => by cases e; exact hh⟩
    | 3 =>
      obtain ⟨cc, ii, hh⟩ := u_known hw am_Cl_3.2.2.2.1 (hts _ (tb_1 (List.mem_of_getElem? (i := 94) rfl)))
      exact ⟨(cc, ii), fun q e => by cases e; exact hh⟩
    | 4 =>
      obtain ⟨cc, ii, hh⟩ := u_known hw am_Cl_4.2.2.2.1 (hts _ (tb_1 (List.mem_of_getElem? (i := 230) rfl)))
      exact ⟨(cc, ii), fun q e => by cases e; exact hh⟩
    | 5 =>
      obtain ⟨cc, ii, hh⟩ := u_known hw am_Cl_5.2.2.2.1 (hts _ (tb_2 (List.mem_of_getElem? (i := 198) rfl)))
      exact ⟨(cc, ii), fun q e => by cases e; exact hh⟩
    | 6 =>
      obtain ⟨cc, ii, hh⟩ := u_known hw am_Cl_6.2.2.2.1 (hts _ (tb_1 (List.mem_of_getElem? (i := 200) rfl)))
      exact ⟨(cc, ii), fun q e => by cases e; exact hh⟩
    | 7 =>
      obtain ⟨cc, ii, hh⟩ := u_known hw am_Cl_7.2.2.2.1 (hts _ (tb_1 (List.mem_of_getElem? (i := 51) rfl)))
      exact ⟨(cc, ii), fun q e => by cases e; exact hh⟩
    | 8 =>
      obtain ⟨cc, ii, hh⟩ := u_known hw am_Cl_8.2.2.2.1 (hts _ (tb_2 (List.mem_of_getElem? (i := 34) rfl)))
      exact ⟨(cc, ii), fun q e => by cases e; exact hh⟩
    | 9 =>
      obtain ⟨cc, ii, hh⟩ := u_known hw am_Cl_9.2.2.2.1 (hts _ (tb_1 (List.mem_of_getElem? (i := 29) rfl)))
      exact ⟨(cc, ii), fun q e => by cases e; exact hh⟩
    | 10 =>
      obtain ⟨cc, ii, hh⟩ := u_known hw am_Cl_10.2.2.2.1 (hts _ (tb_1 (List.mem_of_getElem? (i := 115) rfl)))
      exact ⟨(cc, ii), fun q e => by cases e; exact hh⟩
    | 11 =>
      obtain ⟨cc, ii, hh⟩ := u_known hw am_Cl_11.2.2.2.1 (hts _ (tb_1 (List.mem_of_getElem? (i := 21) rfl)))
      exact ⟨(cc, ii), fun q e => by cases e; exact hh⟩
    | 12 =>
      obtain ⟨cc, ii, hh⟩ := u_known hw am_Cl_12.2.2.2.1 (hts _ (tb_6 (List.mem_of_getElem? (i := 114) rfl)))
      exact ⟨(cc, ii), fun q e => by cases e; exact hh⟩
    | k + 13 => exact ⟨(m.cls, fun _ => 0), fun q e => by simp [vwCl] at e⟩
  obtain ⟨kz, hkz⟩ := Classical.axiomOfChoice hk
  obtain ⟨cI, i1, i2⟩ := arc9 (hts _ (tb_1 (List.mem_of_getElem? (i := 49) rfl)))
  obtain ⟨cL, l1, l2⟩ := arc9 (hts _ (tb_7 (List.mem_of_getElem? (i := 137) rfl)))
  obtain ⟨cZ, z1, z2⟩ := arc9 (hts _ (tb_1 (List.mem_of_getElem? (i := 92) rfl)))
  obtain ⟨cC, c1, c2⟩ := arc9 (hts _ (tb_7 (List.mem_of_getElem? (i := 136) rfl)))
  have hO := hts _ (tb_2 (List.mem_of_getElem? (i := 175) rfl))
  have hV := hts _ (tb_2 (List.mem_of_getElem? (i := 178) rfl))
  obtain ⟨co, cO, kO, o1, o2, o3, o4, o5⟩ := Cond.arrayOver_spec hO
  obtain ⟨cv, cV, kV, v1, v2, v3, v4⟩ := Cond.arrayOver_specA hV
  refine ⟨((fun k => (kz k).1, fun k => (kz k).2), fun n => if n = 20 then cI else if n = 21 then cL else if n = 22 then cZ else if n = 23 then cC else if n = 24 then cO else cV, (b, L, xs), adK, adV, s.heap.size, fo), ⟨hx, hb, hml, hown, hw, ⟨⟨fun k q e => hkz k q e, fun k q e => ?_⟩, fun w hw hn => ?_, fun k q e => ?_, va_AO.of hO, hV⟩, ⟨hX, hbl, Nat.le_refl _, hS, hZ1, hfo⟩, fun w => absurd w (by decide)⟩, rfl, rfl⟩
  · unfold am_tys at e
    match k, e with
    | 0, e => cases e; exact ⟨i1, i2⟩
    | 1, e => cases e; exact ⟨l1, l2⟩
    | 2, e => cases e; exact ⟨z1, z2⟩
    | 3, e => cases e; exact ⟨c1, c2⟩
    | 4, e => cases e; exact ⟨fun n z => ⟨fun k h => (by cases h), kO, o3, co, o4⟩, kO, co, o3, o4, o1, o5⟩
    | 5, e => cases e; exact ⟨fun n z => ⟨fun k h => (by cases h), kV, v2, cv, v3⟩, v4⟩
    | k + 6, e => simp at e
  · unfold am_nest at hn
    split at hn
    · exact va_Nw.of rfl (hts _ hw)
    · exact va_Nw.of rfl (hts _ hw)
    · cases hn
  · match k, e with
    | 0, e => cases e; exact vk_R.of (hts _ (tb_3 (List.mem_of_getElem? (i := 43) rfl))) (hE 0 (by decide))
    | 1, e => cases e; exact vk_R.of (hts _ (tb_3 (List.mem_of_getElem? (i := 116) rfl))) (hE 1 (by decide))
    | 2, e => cases e; exact vk_R.of (hts _ (tb_3 (List.mem_of_getElem? (i := 137) rfl))) (hE 2 (by decide))
    | 3, e => cases e; exact vk_R.of (hts _ (tb_3 (List.mem_of_getElem? (i := 150) rfl))) (hE 3 (by decide))
    | 4, e => cases e; exact vk_R.of (hts _ (tb_3 (List.mem_of_getElem? (i := 151) rfl))) (hE 4 (by decide))
    | 5, e => cases e; exact vk_R.of (hts _ (tb_3 (List.mem_of_getElem? (i := 152) rfl))) (hE 5 (by decide))
    | 6, e => cases e; exact vk_R.of (hts _ (tb_3 (List.mem_of_getElem? (i := 165) rfl))) (hE 6 (by decide))
    | 7, e => cases e; exact vk_R.of (hts _ (tb_3 (List.mem_of_getElem? (i := 174) rfl))) (hE 7 (by decide))
    | 8, e => cases e; exact vk_R.of (hts _ (tb_3 (List.mem_of_getElem? (i := 181) rfl))) (hE 8 (by decide))
    | 9, e => cases e; exact vk_R.of (hts _ (tb_3 (List.mem_of_getElem? (i := 186) rfl))) (hE 9 (by decide))
    | 10, e => cases e; exact vk_R.of (hts _ (tb_3 (List.mem_of_getElem? (i := 187) rfl))) (hE 10 (by decide))
    | 11, e => cases e; exact vk_R.of (hts _ (tb_3 (List.mem_of_getElem? (i := 188) rfl))) (hE 11 (by decide))
    | 12, e => cases e; exact vk_R.of (hts _ (tb_3 (List.mem_of_getElem? (i := 209) rfl))) (hE 12 (by decide))
    | 13, e => cases e; exact vk_R.of (hts _ (tb_3 (List.mem_of_getElem? (i := 210) rfl))) (hE 13 (by decide))
    | 14, e => cases e; exact vk_R.of (hts _ (tb_3 (List.mem_of_getElem? (i := 211) rfl))) (hE 14 (by decide))
    | 15, e => cases e; exact vk_R.of (hts _ (tb_3 (List.mem_of_getElem? (i := 212) rfl))) (hE 15 (by decide))
    | 16, e => cases e; exact vk_R.of (hts _ (tb_3 (List.mem_of_getElem? (i := 213) rfl))) (hE 16 (by decide))
    | 17, e => cases e; exact vk_R.of (hts _ (tb_3 (List.mem_of_getElem? (i := 214) rfl))) (hE 17 (by decide))
    | 18, e => cases e; exact vk_R.of (hts _ (tb_3 (List.mem_of_getElem? (i := 215) rfl))) (hE 18 (by decide))
    | 19, e => cases e; exact vk_R.of (hts _ (tb_3 (List.mem_of_getElem? (i := 216) rfl))) (hE 19 (by decide))
    | 20, e => cases e; exact vk_R.of (hts _ (tb_3 (List.mem_of_getElem? (i := 233) rfl))) (hE 20 (by decide))
    | 21, e => cases e; exact vk_R.of (hts _ (tb_3 (List.mem_of_getElem? (i := 234) rfl))) (hE 21 (by decide))
    | 22, e => cases e; exact vk_R.of (hts _ (tb_4 (List.mem_of_getElem? (i := 3) rfl))) (hE 22 (by decide))
    | 23, e => cases e; exact vk_R.of (hts _ (tb_4 (List.mem_of_getElem? (i := 16) rfl))) (hE 23 (by decide))
    | 24, e => cases e; exact vk_R.of (hts _ (tb_4 (List.mem_of_getElem? (i := 17) rfl))) (hE 24 (by decide))
    | 25, e => cases e; exact vk_R.of (hts _ (tb_4 (List.mem_of_getElem? (i := 18) rfl))) (hE 25 (by decide))
    | 26, e => cases e; exact vk_R.of (hts _ (tb_4 (List.mem_of_getElem? (i := 19) rfl))) (hE 26 (by decide))
    | k + 27, e => simp [am_str] at e
end
