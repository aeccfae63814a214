/-! a call promises less, too -/
theorem am_Qc_mono {g : am_G} {ads : Nat → Nat} {st : am_S} {P Q : AV → am_S → Prop} (h : ∀ r st', P r st' → Q r st') {a : Array Value} {U t : State} {o : Outcome} (hq : am_Qc g ads st P a U o t) : am_Qc g ads st Q a U o t := by
  obtain ⟨r, st', ads', q1, q2⟩ := hq
  exact ⟨r, st', ads', h _ _ q1, q2⟩
theorem am_Call_mono {d : Nat} {k : am_M} {mc ms : Nat} {av : List AV} {st : am_S} {P Q : AV → am_S → Prop} (h : am_Call d k mc ms av st P) (hm : ∀ r st', P r st' → Q r st') : am_Call d k mc ms av st Q := by
  intro g l ads hok
  have hM := h g l ads hok
  unfold Met MetFree at hM ⊢
  intro p e a1 a2 a3 s m args below b1 b2 b3 b4
  obtain ⟨n, o, c1, c2, c3, c4, c5⟩ := hM p e a1 a2 a3 s m args below b1 b2 b3 b4
  exact ⟨n, o, c1, c2, c3, am_Qc_mono hm c4, c5⟩
