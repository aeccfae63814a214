/-! methods of classes of which some methods are run otherwise (java.lang.Math) -/
theorem am_ofWF {l : Launch} {y : MethodName} {ws ws' : List Cond} {rm : Room} {Pc : Array Value → State → Prop} {Qc : Array Value → State → Outcome → State → Prop} {mc ms : Nat} {free : Addr → Prop} {cc : ByteArray} {maxL : Nat} {ret : Option FieldType}
    (hy : plainFor y = true) (hw : ws = Cond.code y cc maxL ret :: ws')
    (body : ∀ p e s m args below meth c s₁, BodyLoose p l y (headSpec ws rm) cc maxL ret e s m args below meth c s₁ → c.maxLocals = maxL → Pc args s →
      W p l e (headSpec ws rm).room s m args below meth c s.heap [] 0 0 (MQ below Qc args s mc ms free) (entryFrame m args maxL)) : Met l y ws rm Pc Qc mc ms free := by
  refine MetFree.of_bodySF (code := cc) (maxLocals := maxL) (ret := ret) hy ?_ ?_
  · intro args s m h hn
    obtain ⟨meth, c, h1, h2, h3, h4, h5, h6, -, -⟩ := Cond.code_spec hn (atoms_spec (ws := ws) h _ (by rw [hw]; exact List.mem_cons_self))
    exact ⟨meth, c, h1, h2, h3, h4, h5, h6⟩
  · intro p e s m args below meth c s₁ B hml hP _
    have hh0 : s₁.heap = s.heap := by rw [B.state]; rfl
    obtain ⟨t, a1, o, b1, b2, b3⟩ := body p e s m args below meth c s₁ B hml hP s₁ hh0 (Stand.of_body B)
    exact ⟨t, o, a1, b1, b2, ⟨b3.1, b3.2⟩⟩
theorem am_Call_ofF {d : Nat} {k : am_M} {mc ms : Nat} {av : List AV} {st : am_S} {Q : AV → am_S → Prop} (hy : plainFor k.1 = true) (hn : am_w av ≤ k.2.2.1) (h : am_Wp d k mc ms 0 (am_ent av k.2.2.1) [] st Q) : am_Call d k mc ms av st Q := by
  intro g l ads hok
  refine am_ofWF (cc := k.2.1) (maxL := k.2.2.1) (ret := k.2.2.2) hy rfl ?_
  intro p e s m args below meth c s₁ B hml hP
  obtain ⟨rfl, hG, hE, hH⟩ := hP
  have hts := atoms_spec (ws := am_mw k) B.pre
  have hlocks := B.notSynchronized
  have hx := B.exec
  have hb := B.bytes
  have hr := B.returns
  have hl := lv_entry (av.map (am_cv g ads)) (n := k.2.2.1) (by rw [am_sl_len]; exact hn)
  rw [lg_entry_eq]
  generalize (lg_sl (av.map (am_cv g ads)) ++ List.replicate (k.2.2.1 - (lg_sl (av.map (am_cv g ads))).length) Slot.unset).toArray = lsA at hl ⊢
  refine h g l p e _ s m _ below meth c _ ads st.1.length mc ms ⟨hx, hb, hml, findClass_of_methodNamed B.named, fun w hw => hts w (List.mem_cons_of_mem _ hw), hG, hE, fun hi => (name_of_methodNamed B.named B.method).1.trans hi⟩ ⟨Nat.le_refl _, Nat.le_refl _, Nat.le_refl _, Nat.le_refl _⟩ ?_ ads s.heap [] 0 0 lsA hH (fun _ _ => rfl) (Nat.le_refl _) (by omega) (by omega) (am_ent_has hn hl) (am_ent_ok hok) (fun v hv => by cases hv)
  intro r st' ads' H' locs' cells' slots' ls' pc' q1 q2 q3 q4 q5 q6 q7 q8
  refine W.widen (k := mc) (n := ms) q6 q7 ?_
  have hq : ∀ v, v = (am_rs g ads' r).head? → ∀ t : State, t.heap = H' → s.WarmedH t.vm → am_Qc g ads st Q (av.map (am_cv g ads)).toArray s (.returned v) t := by
    intro v hv t ht _
    exact ⟨r, st', ads', q1, q2, q3, q4, by rw [hv], by rw [ht]; exact ⟨q5.1, q5.2.1, ⟨q5.2.2.1.1, q5.2.2.1.2.1, fun _ z => by cases z⟩, q5.2.2.2⟩⟩
  match r, q8, hq with
  | none, q8, hq => exact W.vret hx hb (hr.trans q8.2) (hq none rfl) q5.2.2.1.2.2 q8.1
  | some (.inl x), q8, hq =>
    obtain ⟨ty, e1, e2⟩ := am_zr q8.2
    exact W.zret hx hb (hr.trans e1) e2 (hq _ rfl) q5.2.2.1.2.2 q8.1
  | some (.inr (.inl x)), q8, hq => exact W.lret hx hb (hr.trans q8.2) (hq _ rfl) q5.2.2.1.2.2 q8.1
  | some (.inr (.inr x)), q8, hq =>
    rcases q8.2 with ⟨n9, e1⟩ | ⟨t9, e1⟩
    · exact W.aret hx hb (hr.trans e1) (Or.inl ⟨n9, rfl⟩) (va_rf_or _) (hq _ rfl) q5.2.2.1.2.2 q8.1
    · exact W.aret hx hb (hr.trans e1) (Or.inr ⟨t9, rfl⟩) (va_rf_or _) (hq _ rfl) q5.2.2.1.2.2 q8.1
theorem am_goF {d : Nat} {k : am_M} {mc ms : Nat} {av : List AV} {st : am_S} {Q : AV → am_S → Prop} {X : am_K} (hT : am_To d k 0 Q X) (hy : plainFor k.1 = true) (hn : am_w av ≤ k.2.2.1) (h : X mc ms (am_ent av k.2.2.1) [] st) : am_Call d k mc ms av st Q := am_Call_ofF hy hn (hT _ _ _ _ _ h)
theorem pf_abs : plainFor m_Math_abs.1 = true := by decide +kernel
theorem pf_maxI : plainFor m_Math_maxI.1 = true := by decide +kernel
theorem pf_minI : plainFor m_Math_minI.1 = true := by decide +kernel
theorem pf_maxL : plainFor m_Math_maxL.1 = true := by decide +kernel
theorem pf_minL : plainFor m_Math_minL.1 = true := by decide +kernel
theorem pf_floorDiv : plainFor m_Math_floorDiv.1 = true := by decide +kernel
theorem pf_floorMod : plainFor m_Math_floorMod.1 = true := by decide +kernel
