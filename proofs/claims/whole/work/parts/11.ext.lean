/-! the script, the texts, the two flags -/
theorem am_ro_s (g : am_G) (ads : Nat → Nat) : am_ro g ads (-1) = some g.2.2.1.1 := rfl
theorem am_ro_f (g : am_G) (ads : Nat → Nat) : am_ro g ads (-1000000) = g.2.2.2.2.2.2 := rfl
theorem am_ro_k (g : am_G) (ads : Nat → Nat) {q : Nat} (hq : q < 27) : am_ro g ads (-2 - 2 * (q : Int)) = some (g.2.2.2.1 q) := by
  unfold am_ro
  rw [if_neg (by omega), if_neg (by omega), if_neg (by omega), if_neg (by omega)]
  have e : (-2 - (-2 - 2 * (q : Int))).toNat = 2 * q := by omega
  rw [e, if_pos (by omega), show 2 * q / 2 = q by omega]
theorem am_ro_v (g : am_G) (ads : Nat → Nat) {q : Nat} (hq : q < 27) : am_ro g ads (-3 - 2 * (q : Int)) = some (g.2.2.2.2.1 q) := by
  unfold am_ro
  rw [if_neg (by omega), if_neg (by omega), if_neg (by omega), if_neg (by omega)]
  have e : (-2 - (-3 - 2 * (q : Int))).toNat = 2 * q + 1 := by omega
  rw [e, if_neg (by omega), show (2 * q + 1) / 2 = q by omega]
theorem am_notA {g : am_G} {U : State} {H : Heap} (h : am_Ex g U H) : ¬ am_A g g.2.2.1.1 := fun z => by have := h.2.1; unfold am_A at z; omega
theorem am_slen_ok : ∀ q : Nat, q < 27 → am_slen.getD q 0 ≤ 1000 := by decide
theorem sd_sld {d : Nat} {k : am_M} {rc rs pc : Nat} {ls stk : List AV} {st : am_S} {Q : AV → am_S → Prop} {i : Int} (hd : decode k.2.1 pc = .ok (.iaload, 1)) (h0 : 0 ≤ i) (h1 : i < st.2 (-1) (-1)) (h : am_Wp d k rc rs (pc + 1) (ls) (vI (st.2 (-1) i) :: stk) (st) Q) : am_Wp d k rc rs (pc) (ls) (vI i :: vR (-1) :: stk) (st) Q := by
  intro g l p e R s m args below meth c Z ads0 n0 cm sm F O hZ ads H locs cells slots lsA hH he hn hc hs hl hol hos
  obtain ⟨hx, hb, hml, hown, hts, hG, hE, hin⟩ := id F
  have hi : am_i32 i := am_hd hos
  obtain ⟨s1, s2, s3⟩ := hH.2.2.2.2
  have ei : ((i.toNat : Nat) : Int) = i := by omega
  obtain ⟨s4, s5⟩ := s3 i.toNat (by omega)
  rw [ei] at s4 s5
  have K : W p l e R s m args below meth c H locs cells slots Z (F0 m (pc + 1) lsA (.int (Int32.ofInt (st.2 (-1) i)) :: stk.map (am_cv g ads))) := h g l p e R s m args below meth c Z ads0 n0 cm sm F O hZ ads H locs cells slots lsA hH he hn hc hs hl hol (am_cns s5 (am_tlv (am_tlv hos)))
  refine va_sld (b := g.2.2.1.1) (L := g.2.2.1.2.1) (xs := g.2.2.1.2.2) hx hb hE.1 (Nat.lt_of_lt_of_le hE.2.1 hE.2.2.1) (am_notA hE) hH.2.2.1 (am_vin h0 (by omega) hi) hd ?_
  rw [am_cl_ix h0 hi, s4]
  exact K
theorem sd_slen {d : Nat} {k : am_M} {rc rs pc : Nat} {ls stk : List AV} {st : am_S} {Q : AV → am_S → Prop} (hd : decode k.2.1 pc = .ok (.arraylength, 1)) (h : am_Wp d k rc rs (pc + 1) (ls) (vI (st.2 (-1) (-1)) :: stk) (st) Q) : am_Wp d k rc rs (pc) (ls) (vR (-1) :: stk) (st) Q := by
  intro g l p e R s m args below meth c Z ads0 n0 cm sm F O hZ ads H locs cells slots lsA hH he hn hc hs hl hol hos
  obtain ⟨hx, hb, hml, hown, hts, hG, hE, hin⟩ := id F
  obtain ⟨s1, s2, s3⟩ := hH.2.2.2.2
  have K : W p l e R s m args below meth c H locs cells slots Z (F0 m (pc + 1) lsA (.int (Int32.ofInt (st.2 (-1) (-1))) :: stk.map (am_cv g ads))) := h g l p e R s m args below meth c Z ads0 n0 cm sm F O hZ ads H locs cells slots lsA hH he hn hc hs hl hol (am_cns (am_32c (by omega) (by omega)) (am_tlv hos))
  rw [← s1, ← am_lenI] at K
  exact va_slen (b := g.2.2.1.1) (L := g.2.2.1.2.1) (xs := g.2.2.1.2.2) hx hb hE.1 (Nat.lt_of_lt_of_le hE.2.1 hE.2.2.1) (am_notA hE) hH.2.2.1 hd K
theorem sd_ldcS {d : Nat} {k : am_M} {rc rs pc : Nat} {ls stk : List AV} {st : am_S} {Q : AV → am_S → Prop} {q index : Nat} {tx : String} (hd : decode k.2.1 pc = .ok (.ldc index, 2)) (hc9 : k.1.cls = RX6) (hq : am_str[q]? = some (index, tx)) (hq2 : q < 27) (h : am_Wp d k rc rs (pc + 2) (ls) (vR (-2 - 2 * (q : Int)) :: stk) (st) Q) : am_Wp d k rc rs (pc) (ls) (stk) (st) Q := by
  intro g l p e R s m args below meth c Z ads0 n0 cm sm F O hZ ads H locs cells slots lsA hH he hn hc hs hl hol hos
  obtain ⟨hx, hb, hml, hown, hts, hG, hE, hin⟩ := id F
  have K : W p l e R s m args below meth c H locs cells slots Z (F0 m (pc + 2) lsA (va_rf (am_ro g ads (-2 - 2 * (q : Int))) :: stk.map (am_cv g ads))) := h g l p e R s m args below meth c Z ads0 n0 cm sm F O hZ ads H locs cells slots lsA hH he hn hc hs hl hol (am_cns (by show (-2 - 2 * (q : Int)) ≤ _; omega) hos)
  rw [am_ro_k g ads hq2] at K
  rw [hc9] at hown
  exact va_ldcS hx hb hown (hG.2.2.1 q _ hq) hd K
theorem sd_sval {d : Nat} {k : am_M} {rc rs pc : Nat} {ls stk : List AV} {st : am_S} {Q : AV → am_S → Prop} {q index : Nat} (hd : decode k.2.1 pc = .ok (.getfield index, 3)) (hw : Cond.fieldLink k.1.cls index "java/lang/String" "value" "[B" ∈ am_wall) (hq : q < 27) (h : am_Wp d k rc rs (pc + 3) (ls) (vR (-3 - 2 * (q : Int)) :: stk) (st) Q) : am_Wp d k rc rs (pc) (ls) (vR (-2 - 2 * (q : Int)) :: stk) (st) Q := by
  intro g l p e R s m args below meth c Z ads0 n0 cm sm F O hZ ads H locs cells slots lsA hH he hn hc hs hl hol hos
  obtain ⟨hx, hb, hml, hown, hts, hG, hE, hin⟩ := id F
  have K : W p l e R s m args below meth c H locs cells slots Z (F0 m (pc + 3) lsA (va_rf (am_ro g ads (-3 - 2 * (q : Int))) :: stk.map (am_cv g ads))) := h g l p e R s m args below meth c Z ads0 n0 cm sm F O hZ ads H locs cells slots lsA hH he hn hc hs hl hol (am_cns (by show (-3 - 2 * (q : Int)) ≤ _; omega) (am_tlv hos))
  rw [am_ro_v g ads hq] at K
  show W p l e R s m args below meth c H locs cells slots Z (F0 m pc lsA (va_rf (am_ro g ads (-2 - 2 * (q : Int))) :: stk.map (am_cv g ads)))
  rw [am_ro_k g ads hq]
  exact vk_getf hx hb (hE.2.2.2.1.1 q hq).2.2.1 hH.2.2.1 hown (hts _ hw) (fun _ h9 => h9) hd K
theorem sd_scod {d : Nat} {k : am_M} {rc rs pc : Nat} {ls stk : List AV} {st : am_S} {Q : AV → am_S → Prop} {q index : Nat} (hd : decode k.2.1 pc = .ok (.getfield index, 3)) (hw : Cond.fieldLink k.1.cls index "java/lang/String" "coder" "B" ∈ am_wall) (hq : q < 27) (h : am_Wp d k rc rs (pc + 3) (ls) (vI 0 :: stk) (st) Q) : am_Wp d k rc rs (pc) (ls) (vR (-2 - 2 * (q : Int)) :: stk) (st) Q := by
  intro g l p e R s m args below meth c Z ads0 n0 cm sm F O hZ ads H locs cells slots lsA hH he hn hc hs hl hol hos
  obtain ⟨hx, hb, hml, hown, hts, hG, hE, hin⟩ := id F
  have K : W p l e R s m args below meth c H locs cells slots Z (F0 m (pc + 3) lsA (.int 0 :: stk.map (am_cv g ads))) := h g l p e R s m args below meth c Z ads0 n0 cm sm F O hZ ads H locs cells slots lsA hH he hn hc hs hl hol (am_cns (am_32c (by omega) (by omega)) (am_tlv hos))
  show W p l e R s m args below meth c H locs cells slots Z (F0 m pc lsA (va_rf (am_ro g ads (-2 - 2 * (q : Int))) :: stk.map (am_cv g ads)))
  rw [am_ro_k g ads hq]
  exact vk_getf hx hb (hE.2.2.2.1.1 q hq).2.1 hH.2.2.1 hown (hts _ hw) (fun _ h9 => h9) hd K
theorem sd_blen {d : Nat} {k : am_M} {rc rs pc : Nat} {ls stk : List AV} {st : am_S} {Q : AV → am_S → Prop} {q : Nat} (hd : decode k.2.1 pc = .ok (.arraylength, 1)) (hq : q < 27) (h : am_Wp d k rc rs (pc + 1) (ls) (vI ((am_slen.getD q 0 : Nat) : Int) :: stk) (st) Q) : am_Wp d k rc rs (pc) (ls) (vR (-3 - 2 * (q : Int)) :: stk) (st) Q := by
  intro g l p e R s m args below meth c Z ads0 n0 cm sm F O hZ ads H locs cells slots lsA hH he hn hc hs hl hol hos
  obtain ⟨hx, hb, hml, hown, hts, hG, hE, hin⟩ := id F
  have hle := am_slen_ok q hq
  have K : W p l e R s m args below meth c H locs cells slots Z (F0 m (pc + 1) lsA (.int (Int32.ofInt ((am_slen.getD q 0 : Nat) : Int)) :: stk.map (am_cv g ads))) := h g l p e R s m args below meth c Z ads0 n0 cm sm F O hZ ads H locs cells slots lsA hH he hn hc hs hl hol (am_cns (am_32c (by omega) (by omega)) (am_tlv hos))
  show W p l e R s m args below meth c H locs cells slots Z (F0 m pc lsA (va_rf (am_ro g ads (-3 - 2 * (q : Int))) :: stk.map (am_cv g ads)))
  rw [am_ro_v g ads hq]
  exact va_tlen hx hb (hE.2.2.2.1.1 q hq).2.2.2 hH.2.2.1 (am_lenI _) hd K
theorem sd_bld {d : Nat} {k : am_M} {rc rs pc : Nat} {ls stk : List AV} {st : am_S} {Q : AV → am_S → Prop} {q : Nat} {i : Int} (hd : decode k.2.1 pc = .ok (.baload, 1)) (hq : q < 27) (h0 : 0 ≤ i) (h1 : i < ((am_slen.getD q 0 : Nat) : Int)) (h : am_Wp d k rc rs (pc + 1) (ls) (vI ((am_sbyt.getD q []).getD i.toNat 0).toInt :: stk) (st) Q) : am_Wp d k rc rs (pc) (ls) (vI i :: vR (-3 - 2 * (q : Int)) :: stk) (st) Q := by
  intro g l p e R s m args below meth c Z ads0 n0 cm sm F O hZ ads H locs cells slots lsA hH he hn hc hs hl hol hos
  obtain ⟨hx, hb, hml, hown, hts, hG, hE, hin⟩ := id F
  have hi : am_i32 i := am_hd hos
  have K : W p l e R s m args below meth c H locs cells slots Z (F0 m (pc + 1) lsA (.int (Int32.ofInt ((am_sbyt.getD q []).getD i.toNat 0).toInt) :: stk.map (am_cv g ads))) := h g l p e R s m args below meth c Z ads0 n0 cm sm F O hZ ads H locs cells slots lsA hH he hn hc hs hl hol (am_cns (am_32of _) (am_tlv (am_tlv hos)))
  rw [Int32.ofInt_toInt] at K
  show W p l e R s m args below meth c H locs cells slots Z (F0 m pc lsA (.int (Int32.ofInt i) :: va_rf (am_ro g ads (-3 - 2 * (q : Int))) :: stk.map (am_cv g ads)))
  rw [am_ro_v g ads hq]
  exact va_tb hx hb (hE.2.2.2.1.1 q hq).2.2.2 hH.2.2.1 (am_vin h0 h1 hi) (by rw [am_cl_ix h0 hi]) hd K
theorem sd_gcs {d : Nat} {k : am_M} {rc rs pc : Nat} {ls stk : List AV} {st : am_S} {Q : AV → am_S → Prop} {index : Nat} (hd : decode k.2.1 pc = .ok (.getstatic index, 3)) (hw : Cond.fieldLink k.1.cls index "java/lang/String" "COMPACT_STRINGS" "Z" ∈ am_wall) (h : am_Wp d k rc rs (pc + 3) (ls) (vI 1 :: stk) (st) Q) : am_Wp d k rc rs (pc) (ls) (stk) (st) Q := by
  intro g l p e R s m args below meth c Z ads0 n0 cm sm F O hZ ads H locs cells slots lsA hH he hn hc hs hl hol hos
  obtain ⟨hx, hb, hml, hown, hts, hG, hE, hin⟩ := id F
  exact va_gets hx hb hE.2.2.2.2.1 hH.2.2.1 hown (hts _ hw) (fun _ h9 => h9) hd (h g l p e R s m args below meth c Z ads0 n0 cm sm F O hZ ads H locs cells slots lsA hH he hn hc hs hl hol (am_cns (am_32c (by omega) (by omega)) hos))
theorem sd_gfm {d : Nat} {k : am_M} {rc rs pc : Nat} {ls stk : List AV} {st : am_S} {Q : AV → am_S → Prop} {index : Nat} (hd : decode k.2.1 pc = .ok (.getstatic index, 3)) (hw : Cond.fieldLink k.1.cls index "jdk/internal/util/Preconditions" "SIOOBE_FORMATTER" "Ljava/util/function/BiFunction;" ∈ am_wall) (h : am_Wp d k rc rs (pc + 3) (ls) (vR (-1000000) :: stk) (st) Q) : am_Wp d k rc rs (pc) (ls) (stk) (st) Q := by
  intro g l p e R s m args below meth c Z ads0 n0 cm sm F O hZ ads H locs cells slots lsA hH he hn hc hs hl hol hos
  obtain ⟨hx, hb, hml, hown, hts, hG, hE, hin⟩ := id F
  exact va_gets hx hb hE.2.2.2.2.2 hH.2.2.1 hown (hts _ hw) (fun _ h9 => h9) hd (h g l p e R s m args below meth c Z ads0 n0 cm sm F O hZ ads H locs cells slots lsA hH he hn hc hs hl hol (am_cns (by show (-1000000 : Int) ≤ _; omega) hos))
theorem am_ldcwS {p : Program} {l : Launch} {e : Env} {R : Room} {s : State} {m : MethodId} {args : Array Value} {below : List Frame} {meth : Method} {c : Code} {H : Heap} {locs : List Loc} {cells slots : Nat} {Q : State → Prop} {cc : ByteArray} {pc : Nat} {ls : Array Slot} {rest : List Value} (hexec : p.tables.exec = Jvm.exec) (hb : c.code = cc) {own tx : String} {index q : Nat} (hown : s.vm.findClass own = some m.cls) (hZ : vk_R own index tx q s) (hdg : decode cc pc = .ok (.ldc_w index, 3))
    (k : W p l e R s m args below meth c H locs cells slots Q (F0 m (pc + 3) ls (.ref q :: rest))) : W p l e R s m args below meth c H locs cells slots Q (F0 m pc ls rest) := by
  intro T hT X
  obtain ⟨t, a1, b1⟩ := k T hT X
  exact ⟨t, X.ldcStringW hexec hown (text := tx) (a := q) hZ.1 hZ.2 (g := F0 m pc ls rest) rfl (by rw [hb]; exact hdg) t a1, b1⟩
theorem sd_ldcSw {d : Nat} {k : am_M} {rc rs pc : Nat} {ls stk : List AV} {st : am_S} {Q : AV → am_S → Prop} {q index : Nat} {tx : String} (hd : decode k.2.1 pc = .ok (.ldc_w index, 3)) (hc9 : k.1.cls = RX6) (hq : am_str[q]? = some (index, tx)) (hq2 : q < 27) (h : am_Wp d k rc rs (pc + 3) (ls) (vR (-2 - 2 * (q : Int)) :: stk) (st) Q) : am_Wp d k rc rs (pc) (ls) (stk) (st) Q := by
  intro g l p e R s m args below meth c Z ads0 n0 cm sm F O hZ ads H locs cells slots lsA hH he hn hc hs hl hol hos
  obtain ⟨hx, hb, hml, hown, hts, hG, hE, hin⟩ := id F
  have K : W p l e R s m args below meth c H locs cells slots Z (F0 m (pc + 3) lsA (va_rf (am_ro g ads (-2 - 2 * (q : Int))) :: stk.map (am_cv g ads))) := h g l p e R s m args below meth c Z ads0 n0 cm sm F O hZ ads H locs cells slots lsA hH he hn hc hs hl hol (am_cns (by show (-2 - 2 * (q : Int)) ≤ _; omega) hos)
  rw [am_ro_k g ads hq2] at K
  rw [hc9] at hown
  exact am_ldcwS hx hb hown (hG.2.2.1 q _ hq) hd K
