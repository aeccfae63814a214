/-! what a walk asks: one piece an instruction; the pieces are laid behind each other -/
abbrev am_K : Type := Nat → Nat → List AV → List AV → am_S → Prop
def am_To (d : Nat) (k : am_M) (pc : Nat) (Q : AV → am_S → Prop) (X : am_K) : Prop := ∀ (rc rs : Nat) (ls stk : List AV) (st : am_S), X rc rs ls stk st → am_Wp d k rc rs pc ls stk st Q
def am_kd (sh : List (Nat × Nat)) (o : Int) : Nat := match am_at sh o with
  | some q => q.1
  | none => 99
def am_ln (sh : List (Nat × Nat)) (o : Int) (kd : Nat) : Int := match am_at sh o with
  | some q => if q.1 = kd then (q.2 : Int) else -1
  | none => -1
def am_ll (sh : List (Nat × Nat)) (o : Int) : Int := match am_at sh o with
  | some q => if 20 ≤ q.1 ∧ q.1 ≤ 25 then (q.2 : Int) else -1
  | none => -1
theorem am_kd_at {sh : List (Nat × Nat)} {o : Int} {kd : Nat} (h : am_kd sh o = kd) (hk : kd < 13) : ∃ n, am_at sh o = some (kd, n) := by
  unfold am_kd at h
  split at h
  next q hq => subst h; exact ⟨q.2, hq⟩
  next => omega
theorem am_ln_at {sh : List (Nat × Nat)} {o i : Int} {kd : Nat} (h0 : 0 ≤ i) (h : i < am_ln sh o kd) : ∃ n : Nat, am_at sh o = some (kd, n) ∧ i < (n : Int) := by
  unfold am_ln at h
  split at h
  next q hq =>
    split at h
    next e => exact ⟨q.2, by rw [hq, ← e], h⟩
    next => omega
  next => omega
theorem am_ll_at {sh : List (Nat × Nat)} {o : Int} (h0 : 0 ≤ am_ll sh o) : ∃ kd n : Nat, am_at sh o = some (kd, n) ∧ 20 ≤ kd ∧ kd ≤ 25 ∧ am_ll sh o = (n : Int) := by
  unfold am_ll at h0 ⊢
  split at h0
  next q hq =>
    split at h0
    next e => exact ⟨q.1, q.2, hq, e.1, e.2, by simp [e]⟩
    next => omega
  next => omega
def c_const (v : Int) (nx : am_K) : am_K := fun rc rs ls stk st => nx rc rs ls (vI v :: stk) st
def c_lconst (v : Int) (nx : am_K) : am_K := fun rc rs ls stk st => nx rc rs ls (vL v :: stk) st
def c_ref (v : Int) (nx : am_K) : am_K := fun rc rs ls stk st => nx rc rs ls (vR v :: stk) st
theorem to_iconst {d : Nat} {k : am_M} {pc : Nat} {Q : AV → am_S → Prop} {nx : am_K} {n : Int} (hd : decode k.2.1 pc = .ok (.iconst n, 1)) (hn9 : am_i32 n) (h9 : am_To d k (pc + 1) Q nx) : am_To d k pc Q (c_const n nx) := by
  intro rc rs ls stk st h
  exact sd_iconst hd hn9 (h9 _ _ _ _ _ h)
theorem to_bipush {d : Nat} {k : am_M} {pc : Nat} {Q : AV → am_S → Prop} {nx : am_K} {n x : Int} (hd : decode k.2.1 pc = .ok (.bipush n, 2)) (hv : (Int8.ofInt n).toInt32 = Int32.ofInt x) (hn9 : am_i32 x) (h9 : am_To d k (pc + 2) Q nx) : am_To d k pc Q (c_const x nx) := by
  intro rc rs ls stk st h
  exact sd_bipush hd hv hn9 (h9 _ _ _ _ _ h)
theorem to_sipush {d : Nat} {k : am_M} {pc : Nat} {Q : AV → am_S → Prop} {nx : am_K} {n x : Int} (hd : decode k.2.1 pc = .ok (.sipush n, 3)) (hv : (Int16.ofInt n).toInt32 = Int32.ofInt x) (hn9 : am_i32 x) (h9 : am_To d k (pc + 3) Q nx) : am_To d k pc Q (c_const x nx) := by
  intro rc rs ls stk st h
  exact sd_sipush hd hv hn9 (h9 _ _ _ _ _ h)
theorem to_ldc {d : Nat} {k : am_M} {pc : Nat} {Q : AV → am_S → Prop} {nx : am_K} {index : Nat} {x : Int} (hd : decode k.2.1 pc = .ok (.ldc index, 2)) (hw : Cond.constant k.1.cls index (Int32.ofInt x) ∈ am_wall) (hn9 : am_i32 x) (h9 : am_To d k (pc + 2) Q nx) : am_To d k pc Q (c_const x nx) := by
  intro rc rs ls stk st h
  exact sd_ldc hd hw hn9 (h9 _ _ _ _ _ h)
theorem to_ldcw {d : Nat} {k : am_M} {pc : Nat} {Q : AV → am_S → Prop} {nx : am_K} {index : Nat} {x : Int} (hd : decode k.2.1 pc = .ok (.ldc_w index, 3)) (hw : Cond.constant k.1.cls index (Int32.ofInt x) ∈ am_wall) (hn9 : am_i32 x) (h9 : am_To d k (pc + 3) Q nx) : am_To d k pc Q (c_const x nx) := by
  intro rc rs ls stk st h
  exact sd_ldcw hd hw hn9 (h9 _ _ _ _ _ h)
theorem to_lconst {d : Nat} {k : am_M} {pc : Nat} {Q : AV → am_S → Prop} {nx : am_K} {n : Fin 2} {x : Int} (hd : decode k.2.1 pc = .ok (.lconst n, 1)) (hv : Int64.ofNat (n : Nat) = Int64.ofInt x) (hn9 : am_i64 x) (h9 : am_To d k (pc + 1) Q nx) : am_To d k pc Q (c_lconst x nx) := by
  intro rc rs ls stk st h
  exact sd_lconst hd hv hn9 (h9 _ _ _ _ _ h)
theorem to_ldc2 {d : Nat} {k : am_M} {pc : Nat} {Q : AV → am_S → Prop} {nx : am_K} {index : Nat} {x : Int} (hd : decode k.2.1 pc = .ok (.ldc2_w index, 3)) (hw : Cond.constantLong k.1.cls index (Int64.ofInt x) ∈ am_wall) (hn9 : am_i64 x) (h9 : am_To d k (pc + 3) Q nx) : am_To d k pc Q (c_lconst x nx) := by
  intro rc rs ls stk st h
  exact sd_ldc2 hd hw hn9 (h9 _ _ _ _ _ h)
theorem to_null {d : Nat} {k : am_M} {pc : Nat} {Q : AV → am_S → Prop} {nx : am_K} (hd : decode k.2.1 pc = .ok (.aconst_null, 1)) (h9 : am_To d k (pc + 1) Q nx) : am_To d k pc Q (c_ref 0 nx) := by
  intro rc rs ls stk st h
  exact sd_null hd (h9 _ _ _ _ _ h)
theorem to_ldcS {d : Nat} {k : am_M} {pc : Nat} {Q : AV → am_S → Prop} {nx : am_K} {q index : Nat} {tx : String} (hd : decode k.2.1 pc = .ok (.ldc index, 2)) (hc9 : k.1.cls = RX6) (hq : am_str[q]? = some (index, tx)) (hq2 : q < 27) (h9 : am_To d k (pc + 2) Q nx) : am_To d k pc Q (c_ref (-2 - 2 * (q : Int)) nx) := by
  intro rc rs ls stk st h
  exact sd_ldcS hd hc9 hq hq2 (h9 _ _ _ _ _ h)
theorem to_ldcSw {d : Nat} {k : am_M} {pc : Nat} {Q : AV → am_S → Prop} {nx : am_K} {q index : Nat} {tx : String} (hd : decode k.2.1 pc = .ok (.ldc_w index, 3)) (hc9 : k.1.cls = RX6) (hq : am_str[q]? = some (index, tx)) (hq2 : q < 27) (h9 : am_To d k (pc + 3) Q nx) : am_To d k pc Q (c_ref (-2 - 2 * (q : Int)) nx) := by
  intro rc rs ls stk st h
  exact sd_ldcSw hd hc9 hq hq2 (h9 _ _ _ _ _ h)
theorem to_gfm {d : Nat} {k : am_M} {pc : Nat} {Q : AV → am_S → Prop} {nx : am_K} {index : Nat} (hd : decode k.2.1 pc = .ok (.getstatic index, 3)) (hw : Cond.fieldLink k.1.cls index "jdk/internal/util/Preconditions" "SIOOBE_FORMATTER" "Ljava/util/function/BiFunction;" ∈ am_wall) (h9 : am_To d k (pc + 3) Q nx) : am_To d k pc Q (c_ref (-1000000) nx) := by
  intro rc rs ls stk st h
  exact sd_gfm hd hw (h9 _ _ _ _ _ h)
theorem to_gcs {d : Nat} {k : am_M} {pc : Nat} {Q : AV → am_S → Prop} {nx : am_K} {index : Nat} (hd : decode k.2.1 pc = .ok (.getstatic index, 3)) (hw : Cond.fieldLink k.1.cls index "java/lang/String" "COMPACT_STRINGS" "Z" ∈ am_wall) (h9 : am_To d k (pc + 3) Q nx) : am_To d k pc Q (c_const 1 nx) := by
  intro rc rs ls stk st h
  exact sd_gcs hd hw (h9 _ _ _ _ _ h)
def c_iload (i : Nat) (nx : am_K) : am_K := fun rc rs ls stk st => match ls[i]? with
  | some (some (.inl x)) => nx rc rs ls (vI x :: stk) st
  | _ => False
theorem to_iload_n {d : Nat} {k : am_M} {pc : Nat} {Q : AV → am_S → Prop} {nx : am_K} {j : Fin 4} {i : Nat} (hd : decode k.2.1 pc = .ok (.iload_n j, 1)) (hj : (j : Nat) = i) (h9 : am_To d k (pc + 1) Q nx) : am_To d k pc Q (c_iload i nx) := by
  intro rc rs ls stk st h
  unfold c_iload at h
  split at h
  next x hi => exact sd_iload_n hd hj hi (h9 _ _ _ _ _ h)
  next => exact h.elim
theorem to_iload {d : Nat} {k : am_M} {pc : Nat} {Q : AV → am_S → Prop} {nx : am_K} {i : Nat} (hd : decode k.2.1 pc = .ok (.iload i, 2)) (h9 : am_To d k (pc + 2) Q nx) : am_To d k pc Q (c_iload i nx) := by
  intro rc rs ls stk st h
  unfold c_iload at h
  split at h
  next x hi => exact sd_iload hd hi (h9 _ _ _ _ _ h)
  next => exact h.elim
def c_lload (i : Nat) (nx : am_K) : am_K := fun rc rs ls stk st => match ls[i]? with
  | some (some (.inr (.inl x))) => nx rc rs ls (vL x :: stk) st
  | _ => False
theorem to_lload_n {d : Nat} {k : am_M} {pc : Nat} {Q : AV → am_S → Prop} {nx : am_K} {j : Fin 4} {i : Nat} (hd : decode k.2.1 pc = .ok (.lload_n j, 1)) (hj : (j : Nat) = i) (h9 : am_To d k (pc + 1) Q nx) : am_To d k pc Q (c_lload i nx) := by
  intro rc rs ls stk st h
  unfold c_lload at h
  split at h
  next x hi => exact sd_lload_n hd hj hi (h9 _ _ _ _ _ h)
  next => exact h.elim
theorem to_lload {d : Nat} {k : am_M} {pc : Nat} {Q : AV → am_S → Prop} {nx : am_K} {i : Nat} (hd : decode k.2.1 pc = .ok (.lload i, 2)) (h9 : am_To d k (pc + 2) Q nx) : am_To d k pc Q (c_lload i nx) := by
  intro rc rs ls stk st h
  unfold c_lload at h
  split at h
  next x hi => exact sd_lload hd hi (h9 _ _ _ _ _ h)
  next => exact h.elim
def c_aload (i : Nat) (nx : am_K) : am_K := fun rc rs ls stk st => match ls[i]? with
  | some (some (.inr (.inr x))) => nx rc rs ls (vR x :: stk) st
  | _ => False
theorem to_aload_n {d : Nat} {k : am_M} {pc : Nat} {Q : AV → am_S → Prop} {nx : am_K} {j : Fin 4} {i : Nat} (hd : decode k.2.1 pc = .ok (.aload_n j, 1)) (hj : (j : Nat) = i) (h9 : am_To d k (pc + 1) Q nx) : am_To d k pc Q (c_aload i nx) := by
  intro rc rs ls stk st h
  unfold c_aload at h
  split at h
  next x hi => exact sd_aload_n hd hj hi (h9 _ _ _ _ _ h)
  next => exact h.elim
theorem to_aload {d : Nat} {k : am_M} {pc : Nat} {Q : AV → am_S → Prop} {nx : am_K} {i : Nat} (hd : decode k.2.1 pc = .ok (.aload i, 2)) (h9 : am_To d k (pc + 2) Q nx) : am_To d k pc Q (c_aload i nx) := by
  intro rc rs ls stk st h
  unfold c_aload at h
  split at h
  next x hi => exact sd_aload hd hi (h9 _ _ _ _ _ h)
  next => exact h.elim
def c_istore (i : Nat) (nx : am_K) : am_K := fun rc rs ls stk st => match stk with
  | some (.inl x) :: r => nx rc rs (am_set ls i (vI x)) r st
  | _ => False
theorem to_istore_n {d : Nat} {k : am_M} {pc : Nat} {Q : AV → am_S → Prop} {nx : am_K} {j : Fin 4} {i : Nat} (hd : decode k.2.1 pc = .ok (.istore_n j, 1)) (hj : (j : Nat) = i) (hi : i < k.2.2.1) (h9 : am_To d k (pc + 1) Q nx) : am_To d k pc Q (c_istore i nx) := by
  intro rc rs ls stk st h
  unfold c_istore at h
  split at h
  · exact sd_istore_n hd hj hi (h9 _ _ _ _ _ h)
  · exact h.elim
theorem to_istore {d : Nat} {k : am_M} {pc : Nat} {Q : AV → am_S → Prop} {nx : am_K} {i : Nat} (hd : decode k.2.1 pc = .ok (.istore i, 2)) (hi : i < k.2.2.1) (h9 : am_To d k (pc + 2) Q nx) : am_To d k pc Q (c_istore i nx) := by
  intro rc rs ls stk st h
  unfold c_istore at h
  split at h
  · exact sd_istore hd hi (h9 _ _ _ _ _ h)
  · exact h.elim
def c_lstore (i : Nat) (nx : am_K) : am_K := fun rc rs ls stk st => match stk with
  | some (.inr (.inl x)) :: r => nx rc rs (am_set2 ls i (vL x)) r st
  | _ => False
theorem to_lstore_n {d : Nat} {k : am_M} {pc : Nat} {Q : AV → am_S → Prop} {nx : am_K} {j : Fin 4} {i : Nat} (hd : decode k.2.1 pc = .ok (.lstore_n j, 1)) (hj : (j : Nat) = i) (hi : i + 1 < k.2.2.1) (h9 : am_To d k (pc + 1) Q nx) : am_To d k pc Q (c_lstore i nx) := by
  intro rc rs ls stk st h
  unfold c_lstore at h
  split at h
  · exact sd_lstore_n hd hj hi (h9 _ _ _ _ _ h)
  · exact h.elim
theorem to_lstore {d : Nat} {k : am_M} {pc : Nat} {Q : AV → am_S → Prop} {nx : am_K} {i : Nat} (hd : decode k.2.1 pc = .ok (.lstore i, 2)) (hi : i + 1 < k.2.2.1) (h9 : am_To d k (pc + 2) Q nx) : am_To d k pc Q (c_lstore i nx) := by
  intro rc rs ls stk st h
  unfold c_lstore at h
  split at h
  · exact sd_lstore hd hi (h9 _ _ _ _ _ h)
  · exact h.elim
def c_astore (i : Nat) (nx : am_K) : am_K := fun rc rs ls stk st => match stk with
  | some (.inr (.inr x)) :: r => nx rc rs (am_set ls i (vR x)) r st
  | _ => False
theorem to_astore_n {d : Nat} {k : am_M} {pc : Nat} {Q : AV → am_S → Prop} {nx : am_K} {j : Fin 4} {i : Nat} (hd : decode k.2.1 pc = .ok (.astore_n j, 1)) (hj : (j : Nat) = i) (hi : i < k.2.2.1) (h9 : am_To d k (pc + 1) Q nx) : am_To d k pc Q (c_astore i nx) := by
  intro rc rs ls stk st h
  unfold c_astore at h
  split at h
  · exact sd_astore_n hd hj hi (h9 _ _ _ _ _ h)
  · exact h.elim
theorem to_astore {d : Nat} {k : am_M} {pc : Nat} {Q : AV → am_S → Prop} {nx : am_K} {i : Nat} (hd : decode k.2.1 pc = .ok (.astore i, 2)) (hi : i < k.2.2.1) (h9 : am_To d k (pc + 2) Q nx) : am_To d k pc Q (c_astore i nx) := by
  intro rc rs ls stk st h
  unfold c_astore at h
  split at h
  · exact sd_astore hd hi (h9 _ _ _ _ _ h)
  · exact h.elim
def c_iinc (i : Nat) (n : Int) (nx : am_K) : am_K := fun rc rs ls stk st => match ls[i]? with
  | some (some (.inl x)) => am_i32 (x + n) ∧ nx rc rs (am_set ls i (vI (x + n))) stk st
  | _ => False
theorem to_iinc {d : Nat} {k : am_M} {pc : Nat} {Q : AV → am_S → Prop} {nx : am_K} {i : Nat} {n : Int} (hd : decode k.2.1 pc = .ok (.iinc i n, 3)) (h9 : am_To d k (pc + 3) Q nx) : am_To d k pc Q (c_iinc i n nx) := by
  intro rc rs ls stk st h
  unfold c_iinc at h
  split at h
  next x hi => exact sd_iinc hd hi h.1 (h9 _ _ _ _ _ h.2)
  next => exact h.elim
def c_iadd  (nx : am_K) : am_K := fun rc rs ls stk st => match stk with
  | some (.inl b) :: some (.inl a) :: r => am_i32 (a + b) ∧ nx rc rs ls (vI (a + b) :: r) st
  | _ => False
theorem to_iadd {d : Nat} {k : am_M} {pc : Nat} {Q : AV → am_S → Prop} {nx : am_K} (hd : decode k.2.1 pc = .ok (.iadd, 1)) (h9 : am_To d k (pc + 1) Q nx) : am_To d k pc Q (c_iadd nx) := by
  intro rc rs ls stk st h
  unfold c_iadd at h
  split at h
  · exact sd_iadd hd h.1 (h9 _ _ _ _ _ h.2)
  · exact h.elim
def c_isub  (nx : am_K) : am_K := fun rc rs ls stk st => match stk with
  | some (.inl b) :: some (.inl a) :: r => am_i32 (a - b) ∧ nx rc rs ls (vI (a - b) :: r) st
  | _ => False
theorem to_isub {d : Nat} {k : am_M} {pc : Nat} {Q : AV → am_S → Prop} {nx : am_K} (hd : decode k.2.1 pc = .ok (.isub, 1)) (h9 : am_To d k (pc + 1) Q nx) : am_To d k pc Q (c_isub nx) := by
  intro rc rs ls stk st h
  unfold c_isub at h
  split at h
  · exact sd_isub hd h.1 (h9 _ _ _ _ _ h.2)
  · exact h.elim
def c_imul  (nx : am_K) : am_K := fun rc rs ls stk st => match stk with
  | some (.inl b) :: some (.inl a) :: r => am_i32 (a * b) ∧ nx rc rs ls (vI (a * b) :: r) st
  | _ => False
theorem to_imul {d : Nat} {k : am_M} {pc : Nat} {Q : AV → am_S → Prop} {nx : am_K} (hd : decode k.2.1 pc = .ok (.imul, 1)) (h9 : am_To d k (pc + 1) Q nx) : am_To d k pc Q (c_imul nx) := by
  intro rc rs ls stk st h
  unfold c_imul at h
  split at h
  · exact sd_imul hd h.1 (h9 _ _ _ _ _ h.2)
  · exact h.elim
def c_ladd  (nx : am_K) : am_K := fun rc rs ls stk st => match stk with
  | some (.inr (.inl b)) :: some (.inr (.inl a)) :: r => am_i64 (a + b) ∧ nx rc rs ls (vL (a + b) :: r) st
  | _ => False
theorem to_ladd {d : Nat} {k : am_M} {pc : Nat} {Q : AV → am_S → Prop} {nx : am_K} (hd : decode k.2.1 pc = .ok (.ladd, 1)) (h9 : am_To d k (pc + 1) Q nx) : am_To d k pc Q (c_ladd nx) := by
  intro rc rs ls stk st h
  unfold c_ladd at h
  split at h
  · exact sd_ladd hd h.1 (h9 _ _ _ _ _ h.2)
  · exact h.elim
def c_lsub  (nx : am_K) : am_K := fun rc rs ls stk st => match stk with
  | some (.inr (.inl b)) :: some (.inr (.inl a)) :: r => am_i64 (a - b) ∧ nx rc rs ls (vL (a - b) :: r) st
  | _ => False
theorem to_lsub {d : Nat} {k : am_M} {pc : Nat} {Q : AV → am_S → Prop} {nx : am_K} (hd : decode k.2.1 pc = .ok (.lsub, 1)) (h9 : am_To d k (pc + 1) Q nx) : am_To d k pc Q (c_lsub nx) := by
  intro rc rs ls stk st h
  unfold c_lsub at h
  split at h
  · exact sd_lsub hd h.1 (h9 _ _ _ _ _ h.2)
  · exact h.elim
def c_lmul  (nx : am_K) : am_K := fun rc rs ls stk st => match stk with
  | some (.inr (.inl b)) :: some (.inr (.inl a)) :: r => am_i64 (a * b) ∧ nx rc rs ls (vL (a * b) :: r) st
  | _ => False
theorem to_lmul {d : Nat} {k : am_M} {pc : Nat} {Q : AV → am_S → Prop} {nx : am_K} (hd : decode k.2.1 pc = .ok (.lmul, 1)) (h9 : am_To d k (pc + 1) Q nx) : am_To d k pc Q (c_lmul nx) := by
  intro rc rs ls stk st h
  unfold c_lmul at h
  split at h
  · exact sd_lmul hd h.1 (h9 _ _ _ _ _ h.2)
  · exact h.elim
def c_idiv  (nx : am_K) : am_K := fun rc rs ls stk st => match stk with
  | some (.inl b) :: some (.inl a) :: r => b ≠ 0 ∧ am_i32 (a.tdiv b) ∧ nx rc rs ls (vI (a.tdiv b) :: r) st
  | _ => False
theorem to_idiv {d : Nat} {k : am_M} {pc : Nat} {Q : AV → am_S → Prop} {nx : am_K} (hd : decode k.2.1 pc = .ok (.idiv, 1)) (h9 : am_To d k (pc + 1) Q nx) : am_To d k pc Q (c_idiv nx) := by
  intro rc rs ls stk st h
  unfold c_idiv at h
  split at h
  · exact sd_idiv hd h.1 h.2.1 (h9 _ _ _ _ _ h.2.2)
  · exact h.elim
def c_irem  (nx : am_K) : am_K := fun rc rs ls stk st => match stk with
  | some (.inl b) :: some (.inl a) :: r => b ≠ 0 ∧ nx rc rs ls (vI (a.tmod b) :: r) st
  | _ => False
theorem to_irem {d : Nat} {k : am_M} {pc : Nat} {Q : AV → am_S → Prop} {nx : am_K} (hd : decode k.2.1 pc = .ok (.irem, 1)) (h9 : am_To d k (pc + 1) Q nx) : am_To d k pc Q (c_irem nx) := by
  intro rc rs ls stk st h
  unfold c_irem at h
  split at h
  · exact sd_irem hd h.1 (h9 _ _ _ _ _ h.2)
  · exact h.elim
def c_ldiv  (nx : am_K) : am_K := fun rc rs ls stk st => match stk with
  | some (.inr (.inl b)) :: some (.inr (.inl a)) :: r => b ≠ 0 ∧ am_i64 (a.tdiv b) ∧ nx rc rs ls (vL (a.tdiv b) :: r) st
  | _ => False
theorem to_ldiv {d : Nat} {k : am_M} {pc : Nat} {Q : AV → am_S → Prop} {nx : am_K} (hd : decode k.2.1 pc = .ok (.ldiv, 1)) (h9 : am_To d k (pc + 1) Q nx) : am_To d k pc Q (c_ldiv nx) := by
  intro rc rs ls stk st h
  unfold c_ldiv at h
  split at h
  · exact sd_ldiv hd h.1 h.2.1 (h9 _ _ _ _ _ h.2.2)
  · exact h.elim
def c_lrem  (nx : am_K) : am_K := fun rc rs ls stk st => match stk with
  | some (.inr (.inl b)) :: some (.inr (.inl a)) :: r => b ≠ 0 ∧ nx rc rs ls (vL (a.tmod b) :: r) st
  | _ => False
theorem to_lrem {d : Nat} {k : am_M} {pc : Nat} {Q : AV → am_S → Prop} {nx : am_K} (hd : decode k.2.1 pc = .ok (.lrem, 1)) (h9 : am_To d k (pc + 1) Q nx) : am_To d k pc Q (c_lrem nx) := by
  intro rc rs ls stk st h
  unfold c_lrem at h
  split at h
  · exact sd_lrem hd h.1 (h9 _ _ _ _ _ h.2)
  · exact h.elim
def c_iand  (nx : am_K) : am_K := fun rc rs ls stk st => match stk with
  | some (.inl b) :: some (.inl a) :: r => nx rc rs ls (vI (am_and a b) :: r) st
  | _ => False
theorem to_iand {d : Nat} {k : am_M} {pc : Nat} {Q : AV → am_S → Prop} {nx : am_K} (hd : decode k.2.1 pc = .ok (.iand, 1)) (h9 : am_To d k (pc + 1) Q nx) : am_To d k pc Q (c_iand nx) := by
  intro rc rs ls stk st h
  unfold c_iand at h
  split at h
  · exact sd_iand hd (h9 _ _ _ _ _ h)
  · exact h.elim
def c_ior  (nx : am_K) : am_K := fun rc rs ls stk st => match stk with
  | some (.inl b) :: some (.inl a) :: r => nx rc rs ls (vI (am_or a b) :: r) st
  | _ => False
theorem to_ior {d : Nat} {k : am_M} {pc : Nat} {Q : AV → am_S → Prop} {nx : am_K} (hd : decode k.2.1 pc = .ok (.ior, 1)) (h9 : am_To d k (pc + 1) Q nx) : am_To d k pc Q (c_ior nx) := by
  intro rc rs ls stk st h
  unfold c_ior at h
  split at h
  · exact sd_ior hd (h9 _ _ _ _ _ h)
  · exact h.elim
def c_ixor  (nx : am_K) : am_K := fun rc rs ls stk st => match stk with
  | some (.inl b) :: some (.inl a) :: r => nx rc rs ls (vI (am_xor a b) :: r) st
  | _ => False
theorem to_ixor {d : Nat} {k : am_M} {pc : Nat} {Q : AV → am_S → Prop} {nx : am_K} (hd : decode k.2.1 pc = .ok (.ixor, 1)) (h9 : am_To d k (pc + 1) Q nx) : am_To d k pc Q (c_ixor nx) := by
  intro rc rs ls stk st h
  unfold c_ixor at h
  split at h
  · exact sd_ixor hd (h9 _ _ _ _ _ h)
  · exact h.elim
def c_ishl  (nx : am_K) : am_K := fun rc rs ls stk st => match stk with
  | some (.inl b) :: some (.inl a) :: r => nx rc rs ls (vI (am_shl a b) :: r) st
  | _ => False
theorem to_ishl {d : Nat} {k : am_M} {pc : Nat} {Q : AV → am_S → Prop} {nx : am_K} (hd : decode k.2.1 pc = .ok (.ishl, 1)) (h9 : am_To d k (pc + 1) Q nx) : am_To d k pc Q (c_ishl nx) := by
  intro rc rs ls stk st h
  unfold c_ishl at h
  split at h
  · exact sd_ishl hd (h9 _ _ _ _ _ h)
  · exact h.elim
def c_ishr  (nx : am_K) : am_K := fun rc rs ls stk st => match stk with
  | some (.inl b) :: some (.inl a) :: r => nx rc rs ls (vI (am_shr a b) :: r) st
  | _ => False
theorem to_ishr {d : Nat} {k : am_M} {pc : Nat} {Q : AV → am_S → Prop} {nx : am_K} (hd : decode k.2.1 pc = .ok (.ishr, 1)) (h9 : am_To d k (pc + 1) Q nx) : am_To d k pc Q (c_ishr nx) := by
  intro rc rs ls stk st h
  unfold c_ishr at h
  split at h
  · exact sd_ishr hd (h9 _ _ _ _ _ h)
  · exact h.elim
def c_ineg  (nx : am_K) : am_K := fun rc rs ls stk st => match stk with
  | some (.inl a) :: r => am_i32 (-a) ∧ nx rc rs ls (vI (-a) :: r) st
  | _ => False
theorem to_ineg {d : Nat} {k : am_M} {pc : Nat} {Q : AV → am_S → Prop} {nx : am_K} (hd : decode k.2.1 pc = .ok (.ineg, 1)) (h9 : am_To d k (pc + 1) Q nx) : am_To d k pc Q (c_ineg nx) := by
  intro rc rs ls stk st h
  unfold c_ineg at h
  split at h
  · exact sd_ineg hd h.1 (h9 _ _ _ _ _ h.2)
  · exact h.elim
def c_i2l  (nx : am_K) : am_K := fun rc rs ls stk st => match stk with
  | some (.inl a) :: r => nx rc rs ls (vL a :: r) st
  | _ => False
theorem to_i2l {d : Nat} {k : am_M} {pc : Nat} {Q : AV → am_S → Prop} {nx : am_K} (hd : decode k.2.1 pc = .ok (.i2l, 1)) (h9 : am_To d k (pc + 1) Q nx) : am_To d k pc Q (c_i2l nx) := by
  intro rc rs ls stk st h
  unfold c_i2l at h
  split at h
  · exact sd_i2l hd (h9 _ _ _ _ _ h)
  · exact h.elim
def c_l2i  (nx : am_K) : am_K := fun rc rs ls stk st => match stk with
  | some (.inr (.inl a)) :: r => am_i32 a ∧ nx rc rs ls (vI a :: r) st
  | _ => False
theorem to_l2i {d : Nat} {k : am_M} {pc : Nat} {Q : AV → am_S → Prop} {nx : am_K} (hd : decode k.2.1 pc = .ok (.l2i, 1)) (h9 : am_To d k (pc + 1) Q nx) : am_To d k pc Q (c_l2i nx) := by
  intro rc rs ls stk st h
  unfold c_l2i at h
  split at h
  · exact sd_l2i hd h.1 (h9 _ _ _ _ _ h.2)
  · exact h.elim
def c_i2c  (nx : am_K) : am_K := fun rc rs ls stk st => match stk with
  | some (.inl a) :: r => nx rc rs ls (vI (am_i2c a) :: r) st
  | _ => False
theorem to_i2c {d : Nat} {k : am_M} {pc : Nat} {Q : AV → am_S → Prop} {nx : am_K} (hd : decode k.2.1 pc = .ok (.i2c, 1)) (h9 : am_To d k (pc + 1) Q nx) : am_To d k pc Q (c_i2c nx) := by
  intro rc rs ls stk st h
  unfold c_i2c at h
  split at h
  · exact sd_i2c hd (h9 _ _ _ _ _ h)
  · exact h.elim
def c_lcmp  (nx : am_K) : am_K := fun rc rs ls stk st => match stk with
  | some (.inr (.inl b)) :: some (.inr (.inl a)) :: r => nx rc rs ls (vI (am_cmp a b) :: r) st
  | _ => False
theorem to_lcmp {d : Nat} {k : am_M} {pc : Nat} {Q : AV → am_S → Prop} {nx : am_K} (hd : decode k.2.1 pc = .ok (.lcmp, 1)) (h9 : am_To d k (pc + 1) Q nx) : am_To d k pc Q (c_lcmp nx) := by
  intro rc rs ls stk st h
  unfold c_lcmp at h
  split at h
  · exact sd_lcmp hd (h9 _ _ _ _ _ h)
  · exact h.elim
def c_dup  (nx : am_K) : am_K := fun rc rs ls stk st => match stk with
  | some (.inl x) :: r => nx rc rs ls (vI x :: vI x :: r) st
  | some (.inr (.inr x)) :: r => nx rc rs ls (vR x :: vR x :: r) st
  | _ => False
theorem to_dup {d : Nat} {k : am_M} {pc : Nat} {Q : AV → am_S → Prop} {nx : am_K} (hd : decode k.2.1 pc = .ok (.dup, 1)) (h9 : am_To d k (pc + 1) Q nx) : am_To d k pc Q (c_dup nx) := by
  intro rc rs ls stk st h
  unfold c_dup at h
  split at h
  · exact sd_dup hd (fun _ z => by cases z) (h9 _ _ _ _ _ h)
  · exact sd_dup hd (fun _ z => by cases z) (h9 _ _ _ _ _ h)
  · exact h.elim
def c_pop  (nx : am_K) : am_K := fun rc rs ls stk st => match stk with
  | some (.inl _) :: r => nx rc rs ls r st
  | some (.inr (.inr _)) :: r => nx rc rs ls r st
  | _ => False
theorem to_pop {d : Nat} {k : am_M} {pc : Nat} {Q : AV → am_S → Prop} {nx : am_K} (hd : decode k.2.1 pc = .ok (.pop, 1)) (h9 : am_To d k (pc + 1) Q nx) : am_To d k pc Q (c_pop nx) := by
  intro rc rs ls stk st h
  unfold c_pop at h
  split at h
  · exact sd_pop hd (fun _ z => by cases z) (h9 _ _ _ _ _ h)
  · exact sd_pop hd (fun _ z => by cases z) (h9 _ _ _ _ _ h)
  · exact h.elim
def c_dup2  (nx : am_K) : am_K := fun rc rs ls stk st => match stk with
  | some (.inl x) :: some (.inr (.inr y)) :: r => nx rc rs ls (vI x :: vR y :: vI x :: vR y :: r) st
  | _ => False
theorem to_dup2 {d : Nat} {k : am_M} {pc : Nat} {Q : AV → am_S → Prop} {nx : am_K} (hd : decode k.2.1 pc = .ok (.dup2, 1)) (h9 : am_To d k (pc + 1) Q nx) : am_To d k pc Q (c_dup2 nx) := by
  intro rc rs ls stk st h
  unfold c_dup2 at h
  split at h
  · exact sd_dup2 hd (fun _ z => by cases z) (fun _ z => by cases z) (h9 _ _ _ _ _ h)
  · exact h.elim
theorem to_goto {d : Nat} {k : am_M} {pc : Nat} {Q : AV → am_S → Prop} {J : am_K} {off : Int} {tgt : Nat} (hd : decode k.2.1 pc = .ok (.goto off, 3)) (ht : (pc : Int) + off = (tgt : Int)) (h9 : am_To d k tgt Q J) : am_To d k pc Q J := fun _ _ _ _ _ h => sd_goto hd ht (h9 _ _ _ _ _ h)
/-- a place to which the walk comes back: its own row stands elsewhere -/
def c_at (d : Nat) (k : am_M) (pc : Nat) (Q : AV → am_S → Prop) : am_K := fun rc rs ls stk st => am_Wp d k rc rs pc ls stk st Q
theorem to_at {d : Nat} {k : am_M} {pc : Nat} {Q : AV → am_S → Prop} : am_To d k pc Q (c_at d k pc Q) := fun _ _ _ _ _ h => h
def c_icmp_eq (J nx : am_K) : am_K := fun rc rs ls stk st => match stk with
  | some (.inl b) :: some (.inl a) :: r => (a = b → J rc rs ls r st) ∧ (¬ a = b → nx rc rs ls r st)
  | _ => False
theorem to_icmp_eq {d : Nat} {k : am_M} {pc : Nat} {Q : AV → am_S → Prop} {J nx : am_K} {off : Int} {tgt : Nat} (hd : decode k.2.1 pc = .ok (.if_icmp .eq off, 3)) (ht : (pc : Int) + off = (tgt : Int)) (hJ : am_To d k tgt Q J) (h9 : am_To d k (pc + 3) Q nx) : am_To d k pc Q (c_icmp_eq J nx) := by
  intro rc rs ls stk st h
  unfold c_icmp_eq at h
  split at h
  · exact sd_icmp_eq hd ht (fun z => hJ _ _ _ _ _ (h.1 z)) (fun z => h9 _ _ _ _ _ (h.2 z))
  · exact h.elim
def c_if_eq (J nx : am_K) : am_K := fun rc rs ls stk st => match stk with
  | some (.inl a) :: r => (a = 0 → J rc rs ls r st) ∧ (¬ a = 0 → nx rc rs ls r st)
  | _ => False
theorem to_if_eq {d : Nat} {k : am_M} {pc : Nat} {Q : AV → am_S → Prop} {J nx : am_K} {off : Int} {tgt : Nat} (hd : decode k.2.1 pc = .ok (.ifCond .eq off, 3)) (ht : (pc : Int) + off = (tgt : Int)) (hJ : am_To d k tgt Q J) (h9 : am_To d k (pc + 3) Q nx) : am_To d k pc Q (c_if_eq J nx) := by
  intro rc rs ls stk st h
  unfold c_if_eq at h
  split at h
  · exact sd_if_eq hd ht (fun z => hJ _ _ _ _ _ (h.1 z)) (fun z => h9 _ _ _ _ _ (h.2 z))
  · exact h.elim
def c_icmp_ne (J nx : am_K) : am_K := fun rc rs ls stk st => match stk with
  | some (.inl b) :: some (.inl a) :: r => (¬ a = b → J rc rs ls r st) ∧ (a = b → nx rc rs ls r st)
  | _ => False
theorem to_icmp_ne {d : Nat} {k : am_M} {pc : Nat} {Q : AV → am_S → Prop} {J nx : am_K} {off : Int} {tgt : Nat} (hd : decode k.2.1 pc = .ok (.if_icmp .ne off, 3)) (ht : (pc : Int) + off = (tgt : Int)) (hJ : am_To d k tgt Q J) (h9 : am_To d k (pc + 3) Q nx) : am_To d k pc Q (c_icmp_ne J nx) := by
  intro rc rs ls stk st h
  unfold c_icmp_ne at h
  split at h
  · exact sd_icmp_ne hd ht (fun z => hJ _ _ _ _ _ (h.1 z)) (fun z => h9 _ _ _ _ _ (h.2 z))
  · exact h.elim
def c_if_ne (J nx : am_K) : am_K := fun rc rs ls stk st => match stk with
  | some (.inl a) :: r => (¬ a = 0 → J rc rs ls r st) ∧ (a = 0 → nx rc rs ls r st)
  | _ => False
theorem to_if_ne {d : Nat} {k : am_M} {pc : Nat} {Q : AV → am_S → Prop} {J nx : am_K} {off : Int} {tgt : Nat} (hd : decode k.2.1 pc = .ok (.ifCond .ne off, 3)) (ht : (pc : Int) + off = (tgt : Int)) (hJ : am_To d k tgt Q J) (h9 : am_To d k (pc + 3) Q nx) : am_To d k pc Q (c_if_ne J nx) := by
  intro rc rs ls stk st h
  unfold c_if_ne at h
  split at h
  · exact sd_if_ne hd ht (fun z => hJ _ _ _ _ _ (h.1 z)) (fun z => h9 _ _ _ _ _ (h.2 z))
  · exact h.elim
def c_icmp_lt (J nx : am_K) : am_K := fun rc rs ls stk st => match stk with
  | some (.inl b) :: some (.inl a) :: r => (a < b → J rc rs ls r st) ∧ (¬ a < b → nx rc rs ls r st)
  | _ => False
theorem to_icmp_lt {d : Nat} {k : am_M} {pc : Nat} {Q : AV → am_S → Prop} {J nx : am_K} {off : Int} {tgt : Nat} (hd : decode k.2.1 pc = .ok (.if_icmp .lt off, 3)) (ht : (pc : Int) + off = (tgt : Int)) (hJ : am_To d k tgt Q J) (h9 : am_To d k (pc + 3) Q nx) : am_To d k pc Q (c_icmp_lt J nx) := by
  intro rc rs ls stk st h
  unfold c_icmp_lt at h
  split at h
  · exact sd_icmp_lt hd ht (fun z => hJ _ _ _ _ _ (h.1 z)) (fun z => h9 _ _ _ _ _ (h.2 z))
  · exact h.elim
def c_if_lt (J nx : am_K) : am_K := fun rc rs ls stk st => match stk with
  | some (.inl a) :: r => (a < 0 → J rc rs ls r st) ∧ (¬ a < 0 → nx rc rs ls r st)
  | _ => False
theorem to_if_lt {d : Nat} {k : am_M} {pc : Nat} {Q : AV → am_S → Prop} {J nx : am_K} {off : Int} {tgt : Nat} (hd : decode k.2.1 pc = .ok (.ifCond .lt off, 3)) (ht : (pc : Int) + off = (tgt : Int)) (hJ : am_To d k tgt Q J) (h9 : am_To d k (pc + 3) Q nx) : am_To d k pc Q (c_if_lt J nx) := by
  intro rc rs ls stk st h
  unfold c_if_lt at h
  split at h
  · exact sd_if_lt hd ht (fun z => hJ _ _ _ _ _ (h.1 z)) (fun z => h9 _ _ _ _ _ (h.2 z))
  · exact h.elim
def c_icmp_ge (J nx : am_K) : am_K := fun rc rs ls stk st => match stk with
  | some (.inl b) :: some (.inl a) :: r => (b ≤ a → J rc rs ls r st) ∧ (¬ b ≤ a → nx rc rs ls r st)
  | _ => False
theorem to_icmp_ge {d : Nat} {k : am_M} {pc : Nat} {Q : AV → am_S → Prop} {J nx : am_K} {off : Int} {tgt : Nat} (hd : decode k.2.1 pc = .ok (.if_icmp .ge off, 3)) (ht : (pc : Int) + off = (tgt : Int)) (hJ : am_To d k tgt Q J) (h9 : am_To d k (pc + 3) Q nx) : am_To d k pc Q (c_icmp_ge J nx) := by
  intro rc rs ls stk st h
  unfold c_icmp_ge at h
  split at h
  · exact sd_icmp_ge hd ht (fun z => hJ _ _ _ _ _ (h.1 z)) (fun z => h9 _ _ _ _ _ (h.2 z))
  · exact h.elim
def c_if_ge (J nx : am_K) : am_K := fun rc rs ls stk st => match stk with
  | some (.inl a) :: r => (0 ≤ a → J rc rs ls r st) ∧ (¬ 0 ≤ a → nx rc rs ls r st)
  | _ => False
theorem to_if_ge {d : Nat} {k : am_M} {pc : Nat} {Q : AV → am_S → Prop} {J nx : am_K} {off : Int} {tgt : Nat} (hd : decode k.2.1 pc = .ok (.ifCond .ge off, 3)) (ht : (pc : Int) + off = (tgt : Int)) (hJ : am_To d k tgt Q J) (h9 : am_To d k (pc + 3) Q nx) : am_To d k pc Q (c_if_ge J nx) := by
  intro rc rs ls stk st h
  unfold c_if_ge at h
  split at h
  · exact sd_if_ge hd ht (fun z => hJ _ _ _ _ _ (h.1 z)) (fun z => h9 _ _ _ _ _ (h.2 z))
  · exact h.elim
def c_icmp_gt (J nx : am_K) : am_K := fun rc rs ls stk st => match stk with
  | some (.inl b) :: some (.inl a) :: r => (b < a → J rc rs ls r st) ∧ (¬ b < a → nx rc rs ls r st)
  | _ => False
theorem to_icmp_gt {d : Nat} {k : am_M} {pc : Nat} {Q : AV → am_S → Prop} {J nx : am_K} {off : Int} {tgt : Nat} (hd : decode k.2.1 pc = .ok (.if_icmp .gt off, 3)) (ht : (pc : Int) + off = (tgt : Int)) (hJ : am_To d k tgt Q J) (h9 : am_To d k (pc + 3) Q nx) : am_To d k pc Q (c_icmp_gt J nx) := by
  intro rc rs ls stk st h
  unfold c_icmp_gt at h
  split at h
  · exact sd_icmp_gt hd ht (fun z => hJ _ _ _ _ _ (h.1 z)) (fun z => h9 _ _ _ _ _ (h.2 z))
  · exact h.elim
def c_if_gt (J nx : am_K) : am_K := fun rc rs ls stk st => match stk with
  | some (.inl a) :: r => (0 < a → J rc rs ls r st) ∧ (¬ 0 < a → nx rc rs ls r st)
  | _ => False
theorem to_if_gt {d : Nat} {k : am_M} {pc : Nat} {Q : AV → am_S → Prop} {J nx : am_K} {off : Int} {tgt : Nat} (hd : decode k.2.1 pc = .ok (.ifCond .gt off, 3)) (ht : (pc : Int) + off = (tgt : Int)) (hJ : am_To d k tgt Q J) (h9 : am_To d k (pc + 3) Q nx) : am_To d k pc Q (c_if_gt J nx) := by
  intro rc rs ls stk st h
  unfold c_if_gt at h
  split at h
  · exact sd_if_gt hd ht (fun z => hJ _ _ _ _ _ (h.1 z)) (fun z => h9 _ _ _ _ _ (h.2 z))
  · exact h.elim
def c_icmp_le (J nx : am_K) : am_K := fun rc rs ls stk st => match stk with
  | some (.inl b) :: some (.inl a) :: r => (a ≤ b → J rc rs ls r st) ∧ (¬ a ≤ b → nx rc rs ls r st)
  | _ => False
theorem to_icmp_le {d : Nat} {k : am_M} {pc : Nat} {Q : AV → am_S → Prop} {J nx : am_K} {off : Int} {tgt : Nat} (hd : decode k.2.1 pc = .ok (.if_icmp .le off, 3)) (ht : (pc : Int) + off = (tgt : Int)) (hJ : am_To d k tgt Q J) (h9 : am_To d k (pc + 3) Q nx) : am_To d k pc Q (c_icmp_le J nx) := by
  intro rc rs ls stk st h
  unfold c_icmp_le at h
  split at h
  · exact sd_icmp_le hd ht (fun z => hJ _ _ _ _ _ (h.1 z)) (fun z => h9 _ _ _ _ _ (h.2 z))
  · exact h.elim
def c_if_le (J nx : am_K) : am_K := fun rc rs ls stk st => match stk with
  | some (.inl a) :: r => (a ≤ 0 → J rc rs ls r st) ∧ (¬ a ≤ 0 → nx rc rs ls r st)
  | _ => False
theorem to_if_le {d : Nat} {k : am_M} {pc : Nat} {Q : AV → am_S → Prop} {J nx : am_K} {off : Int} {tgt : Nat} (hd : decode k.2.1 pc = .ok (.ifCond .le off, 3)) (ht : (pc : Int) + off = (tgt : Int)) (hJ : am_To d k tgt Q J) (h9 : am_To d k (pc + 3) Q nx) : am_To d k pc Q (c_if_le J nx) := by
  intro rc rs ls stk st h
  unfold c_if_le at h
  split at h
  · exact sd_if_le hd ht (fun z => hJ _ _ _ _ _ (h.1 z)) (fun z => h9 _ _ _ _ _ (h.2 z))
  · exact h.elim
def c_ifnull (J nx : am_K) : am_K := fun rc rs ls stk st => match stk with
  | some (.inr (.inr x)) :: r => -1000000 < x ∧ (x = 0 → J rc rs ls r st) ∧ (¬ x = 0 → nx rc rs ls r st)
  | _ => False
theorem to_ifnull {d : Nat} {k : am_M} {pc : Nat} {Q : AV → am_S → Prop} {J nx : am_K} {off : Int} {tgt : Nat} (hd : decode k.2.1 pc = .ok (.ifnull off, 3)) (ht : (pc : Int) + off = (tgt : Int)) (hJ : am_To d k tgt Q J) (h9 : am_To d k (pc + 3) Q nx) : am_To d k pc Q (c_ifnull J nx) := by
  intro rc rs ls stk st h
  unfold c_ifnull at h
  split at h
  · exact sd_ifnull hd ht h.1 (fun z => hJ _ _ _ _ _ (h.2.1 z)) (fun z => h9 _ _ _ _ _ (h.2.2 z))
  · exact h.elim
def c_ifnonnull (J nx : am_K) : am_K := fun rc rs ls stk st => match stk with
  | some (.inr (.inr x)) :: r => -1000000 < x ∧ (¬ x = 0 → J rc rs ls r st) ∧ (x = 0 → nx rc rs ls r st)
  | _ => False
theorem to_ifnonnull {d : Nat} {k : am_M} {pc : Nat} {Q : AV → am_S → Prop} {J nx : am_K} {off : Int} {tgt : Nat} (hd : decode k.2.1 pc = .ok (.ifnonnull off, 3)) (ht : (pc : Int) + off = (tgt : Int)) (hJ : am_To d k tgt Q J) (h9 : am_To d k (pc + 3) Q nx) : am_To d k pc Q (c_ifnonnull J nx) := by
  intro rc rs ls stk st h
  unfold c_ifnonnull at h
  split at h
  · exact sd_ifnonnull hd ht h.1 (fun z => hJ _ _ _ _ _ (h.2.1 z)) (fun z => h9 _ _ _ _ _ (h.2.2 z))
  · exact h.elim
def am_nx (nx : am_K) (rc rs : Nat) (ls r : List AV) : AV → am_S → Prop := fun q9 st' => nx rc rs ls (am_push q9 r) st'
theorem am_nx_eq (nx : am_K) (rc rs : Nat) (ls r : List AV) (q9 : AV) (st' : am_S) : am_nx nx rc rs ls r q9 st' = nx rc rs ls (am_push q9 r) st' := rfl
def am_swK (a : Int) : Int → List am_K → am_K
  | _, [] => fun _ _ _ _ _ => True
  | lo, J :: Js => fun rc rs ls r st => (a = lo → J rc rs ls r st) ∧ am_swK a (lo + 1) Js rc rs ls r st
def c_sw (lo hi : Int) (Js : List am_K) (D : am_K) : am_K := fun rc rs ls stk st => match stk with
  | some (.inl a) :: r => (a < lo ∨ hi < a → D rc rs ls r st) ∧ am_swK a lo Js rc rs ls r st
  | _ => False
def am_ToL (d : Nat) (k : am_M) (Q : AV → am_S → Prop) : List Nat → List am_K → Prop
  | [], [] => True
  | t :: ts, J :: Js => am_To d k t Q J ∧ am_ToL d k Q ts Js
  | _, _ => False
theorem am_swK_sw {d : Nat} {k : am_M} {Q : AV → am_S → Prop} {a : Int} {rc rs : Nat} {ls r : List AV} {st : am_S} : ∀ {lo : Int} {ts : List Nat} {Js : List am_K}, am_ToL d k Q ts Js → am_swK a lo Js rc rs ls r st → am_sw (fun t => am_Wp d k rc rs t ls r st Q) a lo ts
  | _, [], [], _, _ => trivial
  | _, _ :: _, _ :: _, h, hs => ⟨fun e => h.1 _ _ _ _ _ (hs.1 e), am_swK_sw h.2 hs.2⟩
  | _, [], _ :: _, h, _ => h.elim
  | _, _ :: _, [], h, _ => h.elim
theorem to_sw {d : Nat} {k : am_M} {pc : Nat} {Q : AV → am_S → Prop} {D : am_K} {Js : List am_K} {lo hi dflt : Int} {offs : Array Int} {len tD : Nat} {ts : List Nat} (hd : decode k.2.1 pc = .ok (.tableswitch dflt lo hi offs, len)) (hD : (pc : Int) + dflt = (tD : Int)) (hT : offs.toList.map (fun o => (pc : Int) + o) = ts.map (fun t : Nat => (t : Int))) (hN : lo + (ts.length : Int) = hi + 1) (hJ : am_ToL d k Q ts Js) (h9 : am_To d k tD Q D) : am_To d k pc Q (c_sw lo hi Js D) := by
  intro rc rs ls stk st h
  unfold c_sw at h
  split at h
  · exact sd_table hd hD hT hN (fun z => h9 _ _ _ _ _ (h.1 z)) (am_swK_sw hJ h.2)
  · exact h.elim
def c_iret (Q : AV → am_S → Prop) : am_K := fun _ _ _ stk st => match stk with
  | [some (.inl x)] => Q (vI x) st
  | _ => False
theorem to_iret {d : Nat} {k : am_M} {pc : Nat} {Q : AV → am_S → Prop} (hd : decode k.2.1 pc = .ok (.ireturn, 1)) (hr9 : k.2.2.2 = some .int) : am_To d k pc Q (c_iret Q) := by
  intro rc rs ls stk st h
  unfold c_iret at h
  split at h
  · exact sd_ireturn hd rfl (show am_rf k.2.2.2 _ by rw [hr9]; trivial) h
  · exact h.elim
def c_zret (Q : AV → am_S → Prop) : am_K := fun _ _ _ stk st => match stk with
  | [some (.inl x)] => (x = 0 ∨ x = 1) ∧ Q (vI x) st
  | _ => False
theorem to_zret {d : Nat} {k : am_M} {pc : Nat} {Q : AV → am_S → Prop} (hd : decode k.2.1 pc = .ok (.ireturn, 1)) (hr9 : k.2.2.2 = some .boolean) : am_To d k pc Q (c_zret Q) := by
  intro rc rs ls stk st h
  unfold c_zret at h
  split at h
  · exact sd_ireturn hd rfl (show am_rf k.2.2.2 _ by rw [hr9]; exact h.1) h.2
  · exact h.elim
def c_cret (Q : AV → am_S → Prop) : am_K := fun _ _ _ stk st => match stk with
  | [some (.inl x)] => (0 ≤ x ∧ x < 65536) ∧ Q (vI x) st
  | _ => False
theorem to_cret {d : Nat} {k : am_M} {pc : Nat} {Q : AV → am_S → Prop} (hd : decode k.2.1 pc = .ok (.ireturn, 1)) (hr9 : k.2.2.2 = some .char) : am_To d k pc Q (c_cret Q) := by
  intro rc rs ls stk st h
  unfold c_cret at h
  split at h
  · exact sd_ireturn hd rfl (show am_rf k.2.2.2 _ by rw [hr9]; exact h.1) h.2
  · exact h.elim
def c_bret (Q : AV → am_S → Prop) : am_K := fun _ _ _ stk st => match stk with
  | [some (.inl x)] => (-128 ≤ x ∧ x < 128) ∧ Q (vI x) st
  | _ => False
theorem to_bret {d : Nat} {k : am_M} {pc : Nat} {Q : AV → am_S → Prop} (hd : decode k.2.1 pc = .ok (.ireturn, 1)) (hr9 : k.2.2.2 = some .byte) : am_To d k pc Q (c_bret Q) := by
  intro rc rs ls stk st h
  unfold c_bret at h
  split at h
  · exact sd_ireturn hd rfl (show am_rf k.2.2.2 _ by rw [hr9]; exact h.1) h.2
  · exact h.elim
def c_lret (Q : AV → am_S → Prop) : am_K := fun _ _ _ stk st => match stk with
  | [some (.inr (.inl x))] => Q (vL x) st
  | _ => False
theorem to_lret {d : Nat} {k : am_M} {pc : Nat} {Q : AV → am_S → Prop} (hd : decode k.2.1 pc = .ok (.lreturn, 1)) (hr9 : k.2.2.2 = some .long) : am_To d k pc Q (c_lret Q) := by
  intro rc rs ls stk st h
  unfold c_lret at h
  split at h
  · exact sd_lreturn hd rfl hr9 h
  · exact h.elim
def c_aret (Q : AV → am_S → Prop) : am_K := fun _ _ _ stk st => match stk with
  | [some (.inr (.inr x))] => Q (vR x) st
  | _ => False
theorem to_aret {d : Nat} {k : am_M} {pc : Nat} {Q : AV → am_S → Prop} (hd : decode k.2.1 pc = .ok (.areturn, 1)) (hr9 : (∃ n, k.2.2.2 = some (.object n)) ∨ ∃ t, k.2.2.2 = some (.array t)) : am_To d k pc Q (c_aret Q) := by
  intro rc rs ls stk st h
  unfold c_aret at h
  split at h
  · exact sd_areturn hd rfl hr9 h
  · exact h.elim
def c_vret (Q : AV → am_S → Prop) : am_K := fun _ _ _ stk st => match stk with
  | [] => Q none st
  | _ => False
theorem to_vret {d : Nat} {k : am_M} {pc : Nat} {Q : AV → am_S → Prop} (hd : decode k.2.1 pc = .ok (.return_, 1)) (hr9 : k.2.2.2 = none) : am_To d k pc Q (c_vret Q) := by
  intro rc rs ls stk st h
  unfold c_vret at h
  split at h
  · exact sd_return hd rfl hr9 h
  · exact h.elim
def c_getI (kc : Nat) (i : Int) (nx : am_K) : am_K := fun rc rs ls stk st => match stk with
  | some (.inr (.inr o)) :: r => am_kd st.1 o = kc ∧ nx rc rs ls (vI (st.2 o i) :: r) st
  | _ => False
theorem to_getI {d : Nat} {k : am_M} {pc : Nat} {Q : AV → am_S → Prop} {nx : am_K} {kc N j index : Nat} {C : String} {T : u_T} (hd : decode k.2.1 pc = .ok (.getfield index, 3)) (hC : am_Cl kc C T N) {i : Int} (hj : j < N) (hw : am_FL k.1.cls index T j) (hr : am_isR (am_ty kc j) = false) (hi9 : (j : Int) = i) (h9 : am_To d k (pc + 3) Q nx) : am_To d k pc Q (c_getI kc i nx) := by
  intro rc rs ls stk st h
  subst hi9
  unfold c_getI at h
  split at h
  · obtain ⟨n, ho⟩ := am_kd_at h.1 hC.2.1
    exact sd_getI hd hC hj hw hr ho (h9 _ _ _ _ _ h.2)
  · exact h.elim
def c_getR (kc : Nat) (i : Int) (nx : am_K) : am_K := fun rc rs ls stk st => match stk with
  | some (.inr (.inr o)) :: r => am_kd st.1 o = kc ∧ nx rc rs ls (vR (st.2 o i) :: r) st
  | _ => False
theorem to_getR {d : Nat} {k : am_M} {pc : Nat} {Q : AV → am_S → Prop} {nx : am_K} {kc N j index : Nat} {C : String} {T : u_T} (hd : decode k.2.1 pc = .ok (.getfield index, 3)) (hC : am_Cl kc C T N) {i : Int} (hj : j < N) (hw : am_FL k.1.cls index T j) (hr : am_isR (am_ty kc j) = true) (hi9 : (j : Int) = i) (h9 : am_To d k (pc + 3) Q nx) : am_To d k pc Q (c_getR kc i nx) := by
  intro rc rs ls stk st h
  subst hi9
  unfold c_getR at h
  split at h
  · obtain ⟨n, ho⟩ := am_kd_at h.1 hC.2.1
    exact sd_getR hd hC hj hw hr ho (h9 _ _ _ _ _ h.2)
  · exact h.elim
def c_putI (kc : Nat) (i : Int) (nx : am_K) : am_K := fun rc rs ls stk st => match stk with
  | some (.inl v) :: some (.inr (.inr o)) :: r => am_kd st.1 o = kc ∧ nx rc rs ls r (st.1, am_up st.2 o i v)
  | _ => False
theorem to_putI {d : Nat} {k : am_M} {pc : Nat} {Q : AV → am_S → Prop} {nx : am_K} {kc N j index : Nat} {C : String} {T : u_T} (hd : decode k.2.1 pc = .ok (.putfield index, 3)) (hC : am_Cl kc C T N) {i : Int} (hj : j < N) (hw : (am_FL k.1.cls index T j ∧ (T j).2.2.2 = false) ∨ (Cond.fieldLink k.1.cls index (T j).1 (T j).2.1 (T j).2.2.1 ∈ am_wall ∧ (T j).2.2.2 = true ∧ k.1.name = "<init>" ∧ (T j).1 = k.1.cls)) (hr : am_isR (am_ty kc j) = false) (hf : am_ty kc j = .int) (hi9 : (j : Int) = i) (h9 : am_To d k (pc + 3) Q nx) : am_To d k pc Q (c_putI kc i nx) := by
  intro rc rs ls stk st h
  subst hi9
  unfold c_putI at h
  split at h
  · obtain ⟨n, ho⟩ := am_kd_at h.1 hC.2.1
    exact sd_putI hd hC hj hw hr (by rw [hf]; trivial) ho (h9 _ _ _ _ _ h.2)
  · exact h.elim
def c_putZ (kc : Nat) (i : Int) (nx : am_K) : am_K := fun rc rs ls stk st => match stk with
  | some (.inl v) :: some (.inr (.inr o)) :: r => am_kd st.1 o = kc ∧ (v = 0 ∨ v = 1) ∧ nx rc rs ls r (st.1, am_up st.2 o i v)
  | _ => False
theorem to_putZ {d : Nat} {k : am_M} {pc : Nat} {Q : AV → am_S → Prop} {nx : am_K} {kc N j index : Nat} {C : String} {T : u_T} (hd : decode k.2.1 pc = .ok (.putfield index, 3)) (hC : am_Cl kc C T N) {i : Int} (hj : j < N) (hw : (am_FL k.1.cls index T j ∧ (T j).2.2.2 = false) ∨ (Cond.fieldLink k.1.cls index (T j).1 (T j).2.1 (T j).2.2.1 ∈ am_wall ∧ (T j).2.2.2 = true ∧ k.1.name = "<init>" ∧ (T j).1 = k.1.cls)) (hr : am_isR (am_ty kc j) = false) (hf : am_ty kc j = .boolean) (hi9 : (j : Int) = i) (h9 : am_To d k (pc + 3) Q nx) : am_To d k pc Q (c_putZ kc i nx) := by
  intro rc rs ls stk st h
  subst hi9
  unfold c_putZ at h
  split at h
  · obtain ⟨n, ho⟩ := am_kd_at h.1 hC.2.1
    exact sd_putI hd hC hj hw hr (by rw [hf]; exact h.2.1) ho (h9 _ _ _ _ _ h.2.2)
  · exact h.elim
def c_putR (kc : Nat) (i : Int) (nx : am_K) : am_K := fun rc rs ls stk st => match stk with
  | some (.inr (.inr v)) :: some (.inr (.inr o)) :: r => am_kd st.1 o = kc ∧ nx rc rs ls r (st.1, am_up st.2 o i v)
  | _ => False
theorem to_putR {d : Nat} {k : am_M} {pc : Nat} {Q : AV → am_S → Prop} {nx : am_K} {kc N j index : Nat} {C : String} {T : u_T} (hd : decode k.2.1 pc = .ok (.putfield index, 3)) (hC : am_Cl kc C T N) {i : Int} (hj : j < N) (hw : (am_FL k.1.cls index T j ∧ (T j).2.2.2 = false) ∨ (Cond.fieldLink k.1.cls index (T j).1 (T j).2.1 (T j).2.2.1 ∈ am_wall ∧ (T j).2.2.2 = true ∧ k.1.name = "<init>" ∧ (T j).1 = k.1.cls)) (hr : am_isR (am_ty kc j) = true) (hf : (am_ty kc j).isReference = true) (hi9 : (j : Int) = i) (h9 : am_To d k (pc + 3) Q nx) : am_To d k pc Q (c_putR kc i nx) := by
  intro rc rs ls stk st h
  subst hi9
  unfold c_putR at h
  split at h
  · obtain ⟨n, ho⟩ := am_kd_at h.1 hC.2.1
    exact sd_putR hd hC hj hw hr hf ho (h9 _ _ _ _ _ h.2)
  · exact h.elim
def c_iald  (nx : am_K) : am_K := fun rc rs ls stk st => match stk with
  | some (.inl i) :: some (.inr (.inr o)) :: r => 0 ≤ i ∧ i < am_ln st.1 o 20 ∧ nx rc rs ls (vI (st.2 o i) :: r) st
  | _ => False
theorem to_iald {d : Nat} {k : am_M} {pc : Nat} {Q : AV → am_S → Prop} {nx : am_K} (hd : decode k.2.1 pc = .ok (.iaload, 1)) (h9 : am_To d k (pc + 1) Q nx) : am_To d k pc Q (c_iald nx) := by
  intro rc rs ls stk st h
  unfold c_iald at h
  split at h
  · obtain ⟨n, ho, hi⟩ := am_ln_at h.1 h.2.1
    exact sd_iald hd ho h.1 hi (h9 _ _ _ _ _ h.2.2)
  · exact h.elim
def c_zald  (nx : am_K) : am_K := fun rc rs ls stk st => match stk with
  | some (.inl i) :: some (.inr (.inr o)) :: r => 0 ≤ i ∧ i < am_ln st.1 o 22 ∧ nx rc rs ls (vI (st.2 o i) :: r) st
  | _ => False
theorem to_zald {d : Nat} {k : am_M} {pc : Nat} {Q : AV → am_S → Prop} {nx : am_K} (hd : decode k.2.1 pc = .ok (.baload, 1)) (h9 : am_To d k (pc + 1) Q nx) : am_To d k pc Q (c_zald nx) := by
  intro rc rs ls stk st h
  unfold c_zald at h
  split at h
  · obtain ⟨n, ho, hi⟩ := am_ln_at h.1 h.2.1
    exact sd_zald hd ho h.1 hi (h9 _ _ _ _ _ h.2.2)
  · exact h.elim
def c_cald  (nx : am_K) : am_K := fun rc rs ls stk st => match stk with
  | some (.inl i) :: some (.inr (.inr o)) :: r => 0 ≤ i ∧ i < am_ln st.1 o 23 ∧ nx rc rs ls (vI (st.2 o i) :: r) st
  | _ => False
theorem to_cald {d : Nat} {k : am_M} {pc : Nat} {Q : AV → am_S → Prop} {nx : am_K} (hd : decode k.2.1 pc = .ok (.caload, 1)) (h9 : am_To d k (pc + 1) Q nx) : am_To d k pc Q (c_cald nx) := by
  intro rc rs ls stk st h
  unfold c_cald at h
  split at h
  · obtain ⟨n, ho, hi⟩ := am_ln_at h.1 h.2.1
    exact sd_cald hd ho h.1 hi (h9 _ _ _ _ _ h.2.2)
  · exact h.elim
def c_lald  (nx : am_K) : am_K := fun rc rs ls stk st => match stk with
  | some (.inl i) :: some (.inr (.inr o)) :: r => 0 ≤ i ∧ i < am_ln st.1 o 21 ∧ nx rc rs ls (vL (st.2 o i) :: r) st
  | _ => False
theorem to_lald {d : Nat} {k : am_M} {pc : Nat} {Q : AV → am_S → Prop} {nx : am_K} (hd : decode k.2.1 pc = .ok (.laload, 1)) (h9 : am_To d k (pc + 1) Q nx) : am_To d k pc Q (c_lald nx) := by
  intro rc rs ls stk st h
  unfold c_lald at h
  split at h
  · obtain ⟨n, ho, hi⟩ := am_ln_at h.1 h.2.1
    exact sd_lald hd ho h.1 hi (h9 _ _ _ _ _ h.2.2)
  · exact h.elim
def c_oald  (nx : am_K) : am_K := fun rc rs ls stk st => match stk with
  | some (.inl i) :: some (.inr (.inr o)) :: r => 0 ≤ i ∧ i < am_ln st.1 o 24 ∧ nx rc rs ls (vR (st.2 o i) :: r) st
  | _ => False
theorem to_oald {d : Nat} {k : am_M} {pc : Nat} {Q : AV → am_S → Prop} {nx : am_K} (hd : decode k.2.1 pc = .ok (.aaload, 1)) (h9 : am_To d k (pc + 1) Q nx) : am_To d k pc Q (c_oald nx) := by
  intro rc rs ls stk st h
  unfold c_oald at h
  split at h
  · obtain ⟨n, ho, hi⟩ := am_ln_at h.1 h.2.1
    exact sd_oald hd ho h.1 hi (h9 _ _ _ _ _ h.2.2)
  · exact h.elim
def c_gald  (nx : am_K) : am_K := fun rc rs ls stk st => match stk with
  | some (.inl i) :: some (.inr (.inr o)) :: r => 0 ≤ i ∧ i < am_ln st.1 o 25 ∧ nx rc rs ls (vR (st.2 o i) :: r) st
  | _ => False
theorem to_gald {d : Nat} {k : am_M} {pc : Nat} {Q : AV → am_S → Prop} {nx : am_K} (hd : decode k.2.1 pc = .ok (.aaload, 1)) (h9 : am_To d k (pc + 1) Q nx) : am_To d k pc Q (c_gald nx) := by
  intro rc rs ls stk st h
  unfold c_gald at h
  split at h
  · obtain ⟨n, ho, hi⟩ := am_ln_at h.1 h.2.1
    exact sd_gald hd ho h.1 hi (h9 _ _ _ _ _ h.2.2)
  · exact h.elim
def c_iast  (nx : am_K) : am_K := fun rc rs ls stk st => match stk with
  | some (.inl v) :: some (.inl i) :: some (.inr (.inr o)) :: r => 0 ≤ i ∧ i < am_ln st.1 o 20 ∧ nx rc rs ls r (st.1, am_up st.2 o i v)
  | _ => False
theorem to_iast {d : Nat} {k : am_M} {pc : Nat} {Q : AV → am_S → Prop} {nx : am_K} (hd : decode k.2.1 pc = .ok (.iastore, 1)) (h9 : am_To d k (pc + 1) Q nx) : am_To d k pc Q (c_iast nx) := by
  intro rc rs ls stk st h
  unfold c_iast at h
  split at h
  · obtain ⟨n, ho, hi⟩ := am_ln_at h.1 h.2.1
    exact sd_iast hd ho h.1 hi (h9 _ _ _ _ _ h.2.2)
  · exact h.elim
def c_zast  (nx : am_K) : am_K := fun rc rs ls stk st => match stk with
  | some (.inl v) :: some (.inl i) :: some (.inr (.inr o)) :: r => 0 ≤ i ∧ i < am_ln st.1 o 22 ∧ (v = 0 ∨ v = 1) ∧ nx rc rs ls r (st.1, am_up st.2 o i v)
  | _ => False
theorem to_zast {d : Nat} {k : am_M} {pc : Nat} {Q : AV → am_S → Prop} {nx : am_K} (hd : decode k.2.1 pc = .ok (.bastore, 1)) (h9 : am_To d k (pc + 1) Q nx) : am_To d k pc Q (c_zast nx) := by
  intro rc rs ls stk st h
  unfold c_zast at h
  split at h
  · obtain ⟨n, ho, hi⟩ := am_ln_at h.1 h.2.1
    exact sd_zast hd ho h.1 hi h.2.2.1 (h9 _ _ _ _ _ h.2.2.2)
  · exact h.elim
def c_cast  (nx : am_K) : am_K := fun rc rs ls stk st => match stk with
  | some (.inl v) :: some (.inl i) :: some (.inr (.inr o)) :: r => 0 ≤ i ∧ i < am_ln st.1 o 23 ∧ (0 ≤ v ∧ v < 65536) ∧ nx rc rs ls r (st.1, am_up st.2 o i v)
  | _ => False
theorem to_cast {d : Nat} {k : am_M} {pc : Nat} {Q : AV → am_S → Prop} {nx : am_K} (hd : decode k.2.1 pc = .ok (.castore, 1)) (h9 : am_To d k (pc + 1) Q nx) : am_To d k pc Q (c_cast nx) := by
  intro rc rs ls stk st h
  unfold c_cast at h
  split at h
  · obtain ⟨n, ho, hi⟩ := am_ln_at h.1 h.2.1
    exact sd_cast hd ho h.1 hi h.2.2.1.1 h.2.2.1.2 (h9 _ _ _ _ _ h.2.2.2)
  · exact h.elim
def c_last  (nx : am_K) : am_K := fun rc rs ls stk st => match stk with
  | some (.inr (.inl v)) :: some (.inl i) :: some (.inr (.inr o)) :: r => 0 ≤ i ∧ i < am_ln st.1 o 21 ∧ nx rc rs ls r (st.1, am_up st.2 o i v)
  | _ => False
theorem to_last {d : Nat} {k : am_M} {pc : Nat} {Q : AV → am_S → Prop} {nx : am_K} (hd : decode k.2.1 pc = .ok (.lastore, 1)) (h9 : am_To d k (pc + 1) Q nx) : am_To d k pc Q (c_last nx) := by
  intro rc rs ls stk st h
  unfold c_last at h
  split at h
  · obtain ⟨n, ho, hi⟩ := am_ln_at h.1 h.2.1
    exact sd_last hd ho h.1 hi (h9 _ _ _ _ _ h.2.2)
  · exact h.elim
def c_oast  (nx : am_K) : am_K := fun rc rs ls stk st => match stk with
  | some (.inr (.inr v)) :: some (.inl i) :: some (.inr (.inr o)) :: r => 0 ≤ i ∧ i < am_ln st.1 o 24 ∧ am_kd st.1 v = 0 ∧ nx rc rs ls r (st.1, am_up st.2 o i v)
  | _ => False
theorem to_oast {d : Nat} {k : am_M} {pc : Nat} {Q : AV → am_S → Prop} {nx : am_K} (hd : decode k.2.1 pc = .ok (.aastore, 1)) (h9 : am_To d k (pc + 1) Q nx) : am_To d k pc Q (c_oast nx) := by
  intro rc rs ls stk st h
  unfold c_oast at h
  split at h
  · obtain ⟨n, ho, hi⟩ := am_ln_at h.1 h.2.1
    obtain ⟨n2, hv⟩ := am_kd_at h.2.2.1 (by decide)
    exact sd_oast hd ho h.1 hi hv (h9 _ _ _ _ _ h.2.2.2)
  · exact h.elim
def c_alen  (nx : am_K) : am_K := fun rc rs ls stk st => match stk with
  | some (.inr (.inr o)) :: r => 0 ≤ am_ll st.1 o ∧ am_ll st.1 o ≤ 2147483647 ∧ nx rc rs ls (vI (am_ll st.1 o) :: r) st
  | _ => False
theorem to_alen {d : Nat} {k : am_M} {pc : Nat} {Q : AV → am_S → Prop} {nx : am_K} (hd : decode k.2.1 pc = .ok (.arraylength, 1)) (h9 : am_To d k (pc + 1) Q nx) : am_To d k pc Q (c_alen nx) := by
  intro rc rs ls stk st h
  unfold c_alen at h
  split at h
  · obtain ⟨kd, n, ho, h1, h2, h3⟩ := am_ll_at h.1
    have h4 := h.2
    rw [h3] at h4
    exact sd_alen hd ho h1 h2 h4.1 (h9 _ _ _ _ _ h4.2)
  · exact h.elim
def c_sld  (nx : am_K) : am_K := fun rc rs ls stk st => match stk with
  | some (.inl i) :: some (.inr (.inr (-1))) :: r => 0 ≤ i ∧ i < st.2 (-1) (-1) ∧ nx rc rs ls (vI (st.2 (-1) i) :: r) st
  | _ => False
theorem to_sld {d : Nat} {k : am_M} {pc : Nat} {Q : AV → am_S → Prop} {nx : am_K} (hd : decode k.2.1 pc = .ok (.iaload, 1)) (h9 : am_To d k (pc + 1) Q nx) : am_To d k pc Q (c_sld nx) := by
  intro rc rs ls stk st h
  unfold c_sld at h
  split at h
  · exact sd_sld hd h.1 h.2.1 (h9 _ _ _ _ _ h.2.2)
  · exact h.elim
def c_slen  (nx : am_K) : am_K := fun rc rs ls stk st => match stk with
  | some (.inr (.inr (-1))) :: r => nx rc rs ls (vI (st.2 (-1) (-1)) :: r) st
  | _ => False
theorem to_slen {d : Nat} {k : am_M} {pc : Nat} {Q : AV → am_S → Prop} {nx : am_K} (hd : decode k.2.1 pc = .ok (.arraylength, 1)) (h9 : am_To d k (pc + 1) Q nx) : am_To d k pc Q (c_slen nx) := by
  intro rc rs ls stk st h
  unfold c_slen at h
  split at h
  · exact sd_slen hd (h9 _ _ _ _ _ h)
  · exact h.elim
def c_sval  (nx : am_K) : am_K := fun rc rs ls stk st => match stk with
  | some (.inr (.inr o)) :: r => (∃ q : Nat, q < 27 ∧ o = -2 - 2 * (q : Int)) ∧ nx rc rs ls (vR (o - 1) :: r) st
  | _ => False
theorem to_sval {d : Nat} {k : am_M} {pc : Nat} {Q : AV → am_S → Prop} {nx : am_K} {index : Nat} (hd : decode k.2.1 pc = .ok (.getfield index, 3)) (hw : Cond.fieldLink k.1.cls index "java/lang/String" "value" "[B" ∈ am_wall) (h9 : am_To d k (pc + 3) Q nx) : am_To d k pc Q (c_sval nx) := by
  intro rc rs ls stk st h
  unfold c_sval at h
  split at h
  · obtain ⟨⟨q, hq, rfl⟩, h⟩ := h
    rw [show (-2 - 2 * (q : Int) - 1) = -3 - 2 * (q : Int) by omega] at h
    exact sd_sval hd hw hq (h9 _ _ _ _ _ h)
  · exact h.elim
def c_scod  (nx : am_K) : am_K := fun rc rs ls stk st => match stk with
  | some (.inr (.inr o)) :: r => (∃ q : Nat, q < 27 ∧ o = -2 - 2 * (q : Int)) ∧ nx rc rs ls (vI 0 :: r) st
  | _ => False
theorem to_scod {d : Nat} {k : am_M} {pc : Nat} {Q : AV → am_S → Prop} {nx : am_K} {index : Nat} (hd : decode k.2.1 pc = .ok (.getfield index, 3)) (hw : Cond.fieldLink k.1.cls index "java/lang/String" "coder" "B" ∈ am_wall) (h9 : am_To d k (pc + 3) Q nx) : am_To d k pc Q (c_scod nx) := by
  intro rc rs ls stk st h
  unfold c_scod at h
  split at h
  · obtain ⟨⟨q, hq, rfl⟩, h⟩ := h
    exact sd_scod hd hw hq (h9 _ _ _ _ _ h)
  · exact h.elim
def am_tq (o : Int) : Nat := (-3 - o).toNat / 2
def c_blen  (nx : am_K) : am_K := fun rc rs ls stk st => match stk with
  | some (.inr (.inr o)) :: r => (∃ q : Nat, q < 27 ∧ o = -3 - 2 * (q : Int)) ∧ nx rc rs ls (vI ((am_slen.getD (am_tq o) 0 : Nat) : Int) :: r) st
  | _ => False
theorem to_blen {d : Nat} {k : am_M} {pc : Nat} {Q : AV → am_S → Prop} {nx : am_K} (hd : decode k.2.1 pc = .ok (.arraylength, 1)) (h9 : am_To d k (pc + 1) Q nx) : am_To d k pc Q (c_blen nx) := by
  intro rc rs ls stk st h
  unfold c_blen at h
  split at h
  · obtain ⟨⟨q, hq, rfl⟩, h⟩ := h
    rw [show am_tq (-3 - 2 * (q : Int)) = q by unfold am_tq; omega] at h
    exact sd_blen hd hq (h9 _ _ _ _ _ h)
  · exact h.elim
def c_bld  (nx : am_K) : am_K := fun rc rs ls stk st => match stk with
  | some (.inl i) :: some (.inr (.inr o)) :: r => (∃ q : Nat, q < 27 ∧ o = -3 - 2 * (q : Int)) ∧ 0 ≤ i ∧ i < ((am_slen.getD (am_tq o) 0 : Nat) : Int) ∧ nx rc rs ls (vI ((am_sbyt.getD (am_tq o) []).getD i.toNat 0).toInt :: r) st
  | _ => False
theorem to_bld {d : Nat} {k : am_M} {pc : Nat} {Q : AV → am_S → Prop} {nx : am_K} (hd : decode k.2.1 pc = .ok (.baload, 1)) (h9 : am_To d k (pc + 1) Q nx) : am_To d k pc Q (c_bld nx) := by
  intro rc rs ls stk st h
  unfold c_bld at h
  split at h
  · obtain ⟨⟨q, hq, rfl⟩, h⟩ := h
    rw [show am_tq (-3 - 2 * (q : Int)) = q by unfold am_tq; omega] at h
    exact sd_bld hd hq h.1 h.2.1 (h9 _ _ _ _ _ h.2.2)
  · exact h.elim
def c_new (kc N : Nat) (nx : am_K) : am_K := fun rc rs ls stk st => 1 ≤ rc ∧ N ≤ rs ∧ nx (rc - 1) (rs - N) ls (vR ((st.1.length : Int) + 1) :: stk) (am_new st kc N)
theorem to_new {d : Nat} {k : am_M} {pc : Nat} {Q : AV → am_S → Prop} {nx : am_K} {kc N index : Nat} {C : String} {T : u_T} (hd : decode k.2.1 pc = .ok (.new index, 3)) (hC : am_Cl kc C T N) (hR9 : ∀ j, j < N → am_isR (am_ty kc j) = true → (am_ty kc j).isReference = true) (w1 : Cond.classLink k.1.cls index C ∈ am_wall) (w2 : Cond.instantiable C N ∈ am_wall) (w3 : Cond.initialized C ∈ am_wall) (h9 : am_To d k (pc + 3) Q nx) : am_To d k pc Q (c_new kc N nx) := by
  intro rc rs ls stk st h
  obtain ⟨h1, h2, h⟩ := h
  have := sd_new (rc := rc - 1) (rs := rs - N) hd hC hR9 w1 w2 w3 (h9 _ _ _ _ _ h)
  rwa [show rc - 1 + 1 = rc by omega, show rs - N + N = rs by omega] at this
def c_newa_int  (nx : am_K) : am_K := fun rc rs ls stk st => match stk with
  | some (.inl n) :: r => 0 ≤ n ∧ n ≤ 100000 ∧ 1 ≤ rc ∧ n.toNat ≤ rs ∧ nx (rc - 1) (rs - n.toNat) ls (vR ((st.1.length : Int) + 1) :: r) (am_new st 20 n.toNat)
  | _ => False
theorem to_newa_int {d : Nat} {k : am_M} {pc : Nat} {Q : AV → am_S → Prop} {nx : am_K} (hd : decode k.2.1 pc = .ok (.newarray .int, 2)) (w1 : Cond.arrayClass .int ∈ am_wall) (h9 : am_To d k (pc + 2) Q nx) : am_To d k pc Q (c_newa_int nx) := by
  intro rc rs ls stk st h
  unfold c_newa_int at h
  split at h
  next n r =>
    obtain ⟨h1, h2, h3, h4, h⟩ := h
    have := sd_newa_int (n := n.toNat) (rc := rc - 1) (rs := rs - n.toNat) hd w1 (by omega) (h9 _ _ _ _ _ h)
    rwa [show rc - 1 + 1 = rc by omega, show rs - n.toNat + n.toNat = rs by omega, show ((n.toNat : Nat) : Int) = n by omega] at this
  next => exact h.elim
def c_newa_long  (nx : am_K) : am_K := fun rc rs ls stk st => match stk with
  | some (.inl n) :: r => 0 ≤ n ∧ n ≤ 100000 ∧ 1 ≤ rc ∧ n.toNat ≤ rs ∧ nx (rc - 1) (rs - n.toNat) ls (vR ((st.1.length : Int) + 1) :: r) (am_new st 21 n.toNat)
  | _ => False
theorem to_newa_long {d : Nat} {k : am_M} {pc : Nat} {Q : AV → am_S → Prop} {nx : am_K} (hd : decode k.2.1 pc = .ok (.newarray .long, 2)) (w1 : Cond.arrayClass .long ∈ am_wall) (h9 : am_To d k (pc + 2) Q nx) : am_To d k pc Q (c_newa_long nx) := by
  intro rc rs ls stk st h
  unfold c_newa_long at h
  split at h
  next n r =>
    obtain ⟨h1, h2, h3, h4, h⟩ := h
    have := sd_newa_long (n := n.toNat) (rc := rc - 1) (rs := rs - n.toNat) hd w1 (by omega) (h9 _ _ _ _ _ h)
    rwa [show rc - 1 + 1 = rc by omega, show rs - n.toNat + n.toNat = rs by omega, show ((n.toNat : Nat) : Int) = n by omega] at this
  next => exact h.elim
def c_newa_bool  (nx : am_K) : am_K := fun rc rs ls stk st => match stk with
  | some (.inl n) :: r => 0 ≤ n ∧ n ≤ 100000 ∧ 1 ≤ rc ∧ n.toNat ≤ rs ∧ nx (rc - 1) (rs - n.toNat) ls (vR ((st.1.length : Int) + 1) :: r) (am_new st 22 n.toNat)
  | _ => False
theorem to_newa_bool {d : Nat} {k : am_M} {pc : Nat} {Q : AV → am_S → Prop} {nx : am_K} (hd : decode k.2.1 pc = .ok (.newarray .boolean, 2)) (w1 : Cond.arrayClass .boolean ∈ am_wall) (h9 : am_To d k (pc + 2) Q nx) : am_To d k pc Q (c_newa_bool nx) := by
  intro rc rs ls stk st h
  unfold c_newa_bool at h
  split at h
  next n r =>
    obtain ⟨h1, h2, h3, h4, h⟩ := h
    have := sd_newa_bool (n := n.toNat) (rc := rc - 1) (rs := rs - n.toNat) hd w1 (by omega) (h9 _ _ _ _ _ h)
    rwa [show rc - 1 + 1 = rc by omega, show rs - n.toNat + n.toNat = rs by omega, show ((n.toNat : Nat) : Int) = n by omega] at this
  next => exact h.elim
def c_newa_char  (nx : am_K) : am_K := fun rc rs ls stk st => match stk with
  | some (.inl n) :: r => 0 ≤ n ∧ n ≤ 100000 ∧ 1 ≤ rc ∧ n.toNat ≤ rs ∧ nx (rc - 1) (rs - n.toNat) ls (vR ((st.1.length : Int) + 1) :: r) (am_new st 23 n.toNat)
  | _ => False
theorem to_newa_char {d : Nat} {k : am_M} {pc : Nat} {Q : AV → am_S → Prop} {nx : am_K} (hd : decode k.2.1 pc = .ok (.newarray .char, 2)) (w1 : Cond.arrayClass .char ∈ am_wall) (h9 : am_To d k (pc + 2) Q nx) : am_To d k pc Q (c_newa_char nx) := by
  intro rc rs ls stk st h
  unfold c_newa_char at h
  split at h
  next n r =>
    obtain ⟨h1, h2, h3, h4, h⟩ := h
    have := sd_newa_char (n := n.toNat) (rc := rc - 1) (rs := rs - n.toNat) hd w1 (by omega) (h9 _ _ _ _ _ h)
    rwa [show rc - 1 + 1 = rc by omega, show rs - n.toNat + n.toNat = rs by omega, show ((n.toNat : Nat) : Int) = n by omega] at this
  next => exact h.elim
def c_newq  (nx : am_K) : am_K := fun rc rs ls stk st => match stk with
  | some (.inl n) :: r => 0 ≤ n ∧ n ≤ 100000 ∧ 1 ≤ rc ∧ n.toNat ≤ rs ∧ nx (rc - 1) (rs - n.toNat) ls (vR ((st.1.length : Int) + 1) :: r) (am_new st 24 n.toNat)
  | _ => False
theorem to_newq {d : Nat} {k : am_M} {pc : Nat} {Q : AV → am_S → Prop} {nx : am_K} {index : Nat} (hd : decode k.2.1 pc = .ok (.anewarray index, 3)) (w1 : Cond.classLink k.1.cls index RX0 ∈ am_wall) (h9 : am_To d k (pc + 3) Q nx) : am_To d k pc Q (c_newq nx) := by
  intro rc rs ls stk st h
  unfold c_newq at h
  split at h
  next n r =>
    obtain ⟨h1, h2, h3, h4, h⟩ := h
    have := sd_newq (n := n.toNat) (rc := rc - 1) (rs := rs - n.toNat) hd w1 (by omega) (h9 _ _ _ _ _ h)
    rwa [show rc - 1 + 1 = rc by omega, show rs - n.toNat + n.toNat = rs by omega, show ((n.toNat : Nat) : Int) = n by omega] at this
  next => exact h.elim
def c_mna  (nx : am_K) : am_K := fun rc rs ls stk st => match stk with
  | some (.inl m) :: some (.inl n) :: r => (0 ≤ n ∧ n ≤ 10000 ∧ 0 ≤ m ∧ m ≤ 10000) ∧ 1 + n.toNat ≤ rc ∧ n.toNat + n.toNat * m.toNat ≤ rs ∧ nx (rc - (1 + n.toNat)) (rs - (n.toNat + n.toNat * m.toNat)) ls (vR ((st.1.length : Int) + 1) :: r) (am_newM st n.toNat m.toNat)
  | _ => False
theorem to_mna {d : Nat} {k : am_M} {pc : Nat} {Q : AV → am_S → Prop} {nx : am_K} {index : Nat} (hd : decode k.2.1 pc = .ok (.multianewarray index 2, 4)) (w1 : Cond.classLink k.1.cls index "[[I" ∈ am_wall) (w2 : Cond.arrayClass .int ∈ am_wall) (h9 : am_To d k (pc + 4) Q nx) : am_To d k pc Q (c_mna nx) := by
  intro rc rs ls stk st h
  unfold c_mna at h
  split at h
  next m n r =>
    obtain ⟨⟨h1, h2, h3, h4⟩, h5, h6, h⟩ := h
    have := sd_mna (N := n.toNat) (K := m.toNat) (rc := rc - (1 + n.toNat)) (rs := rs - (n.toNat + n.toNat * m.toNat)) hd w1 w2 (by omega) (by omega) (h9 _ _ _ _ _ h)
    rwa [Nat.sub_add_cancel h5, Nat.sub_add_cancel h6, show ((n.toNat : Nat) : Int) = n by omega, show ((m.toNat : Nat) : Int) = m by omega] at this
  next => exact h.elim
def c_oini  (nx : am_K) : am_K := fun rc rs ls stk st => match stk with
  | some (.inr (.inr o)) :: r => am_kd st.1 o < 13 ∧ am_w r ≤ 8 ∧ nx rc rs ls r st
  | _ => False
theorem to_oini {d : Nat} {k : am_M} {pc : Nat} {Q : AV → am_S → Prop} {nx : am_K} {index : Nat} (hd : decode k.2.1 pc = .ok (.invokespecial index, 3)) (w1 : Cond.methodLink k.1.cls index Lib.objectInit ∈ am_wall) (w2 : Cond.instanceMethod Lib.objectInit ∈ am_wall) (w3 : Cond.code Lib.objectInit ⟨#[0xb1]⟩ 1 none ∈ am_wall) (h9 : am_To (d + 1) k (pc + 3) Q nx) : am_To (d + 1) k pc Q (c_oini nx) := by
  intro rc rs ls stk st h
  unfold c_oini at h
  split at h
  · obtain ⟨h1, h2, h⟩ := h
    obtain ⟨n, ho⟩ := am_kd_at (kd := am_kd st.1 _) rfl h1
    exact sd_oini hd w1 w2 w3 (by omega) h2 ho (h9 _ _ _ _ _ h)
  · exact h.elim
def c_callS0 (d : Nat) (y : am_M) (nx : am_K) : am_K := fun rc rs ls stk st => match stk with
  | r => am_w r ≤ 8 ∧ am_Call d y 0 0 [] st (am_nx nx rc rs ls r)
theorem to_callS0 {d : Nat} {k : am_M} {pc : Nat} {Q : AV → am_S → Prop} {nx : am_K} {y : am_M} {index : Nat} (hd : decode k.2.1 pc = .ok (.invokestatic index, 3)) (hy : am_CK y 0) (w1 : am_ML k.1.cls index y.1) (w2 : Cond.static y.1 ∈ am_wall) (h9 : am_To (d + 1) k (pc + 3) Q nx) : am_To (d + 1) k pc Q (c_callS0 d y nx) := by
  intro rc rs ls stk st h
  unfold c_callS0 at h
  obtain ⟨h1, h⟩ := h
  exact sd_callS (mc := 0) (ms := 0) (av := []) hd hy w1 w2 h1 (am_Call_mono h (fun _ _ z => h9 _ _ _ _ _ z))
def c_callV0 (d : Nat) (y : am_M) (kc : Nat) (nx : am_K) : am_K := fun rc rs ls stk st => match stk with
  | some (.inr (.inr o)) :: r => am_kd st.1 o = kc ∧ am_w r ≤ 8 ∧ am_Call d y 0 0 (vR o :: []) st (am_nx nx rc rs ls r)
  | _ => False
theorem to_callV0 {d : Nat} {k : am_M} {pc : Nat} {Q : AV → am_S → Prop} {nx : am_K} {y : am_M} {index : Nat} {kc N9 : Nat} {T9 : u_T} (hC : am_Cl kc y.1.cls T9 N9) (hd : decode k.2.1 pc = .ok (.invokevirtual index, 3)) (hy : am_CK y 0) (w1 : am_ML k.1.cls index y.1) (w2 : Cond.instanceMethod y.1 ∈ am_wall) (w3 : Cond.selects y.1.cls y.1 y.1 ∈ am_wall) (h9 : am_To (d + 1) k (pc + 3) Q nx) : am_To (d + 1) k pc Q (c_callV0 d y kc nx) := by
  intro rc rs ls stk st h
  unfold c_callV0 at h
  split at h
  next  o r =>
    obtain ⟨h0, h1, h⟩ := h
    exact sd_callV (mc := 0) (ms := 0) (av := []) hd hy w1 w2 w3 (by obtain ⟨n9, ho⟩ := am_kd_at h0 hC.2.1; exact Or.inl ⟨_, n9, _, _, hC.2.1, hC.1, ho⟩) h1 (am_Call_mono h (fun _ _ z => h9 _ _ _ _ _ z))
  next => exact h.elim
def c_callT0 (d : Nat) (y : am_M) (nx : am_K) : am_K := fun rc rs ls stk st => match stk with
  | some (.inr (.inr o)) :: r => (∃ q : Nat, q < 27 ∧ o = -2 - 2 * (q : Int)) ∧ am_w r ≤ 8 ∧ am_Call d y 0 0 (vR o :: []) st (am_nx nx rc rs ls r)
  | _ => False
theorem to_callT0 {d : Nat} {k : am_M} {pc : Nat} {Q : AV → am_S → Prop} {nx : am_K} {y : am_M} {index : Nat} (hC : y.1.cls = "java/lang/String") (hd : decode k.2.1 pc = .ok (.invokevirtual index, 3)) (hy : am_CK y 0) (w1 : am_ML k.1.cls index y.1) (w2 : Cond.instanceMethod y.1 ∈ am_wall) (w3 : Cond.selects y.1.cls y.1 y.1 ∈ am_wall) (h9 : am_To (d + 1) k (pc + 3) Q nx) : am_To (d + 1) k pc Q (c_callT0 d y nx) := by
  intro rc rs ls stk st h
  unfold c_callT0 at h
  split at h
  next  o r =>
    obtain ⟨h0, h1, h⟩ := h
    exact sd_callV (mc := 0) (ms := 0) (av := []) hd hy w1 w2 w3 (Or.inr ⟨hC, h0⟩) h1 (am_Call_mono h (fun _ _ z => h9 _ _ _ _ _ z))
  next => exact h.elim
def c_callS1 (d : Nat) (y : am_M) (nx : am_K) : am_K := fun rc rs ls stk st => match stk with
  | a0 :: r => am_w r ≤ 8 ∧ am_Call d y 0 0 [a0] st (am_nx nx rc rs ls r)
  | _ => False
theorem to_callS1 {d : Nat} {k : am_M} {pc : Nat} {Q : AV → am_S → Prop} {nx : am_K} {y : am_M} {index : Nat} (hd : decode k.2.1 pc = .ok (.invokestatic index, 3)) (hy : am_CK y 1) (w1 : am_ML k.1.cls index y.1) (w2 : Cond.static y.1 ∈ am_wall) (h9 : am_To (d + 1) k (pc + 3) Q nx) : am_To (d + 1) k pc Q (c_callS1 d y nx) := by
  intro rc rs ls stk st h
  unfold c_callS1 at h
  split at h
  next a0 r => 
    obtain ⟨h1, h⟩ := h
    exact sd_callS (mc := 0) (ms := 0) (av := [a0]) hd hy w1 w2 h1 (am_Call_mono h (fun _ _ z => h9 _ _ _ _ _ z))
  next => exact h.elim
def c_callV1 (d : Nat) (y : am_M) (kc : Nat) (nx : am_K) : am_K := fun rc rs ls stk st => match stk with
  | a0 :: some (.inr (.inr o)) :: r => am_kd st.1 o = kc ∧ am_w r ≤ 8 ∧ am_Call d y 0 0 (vR o :: [a0]) st (am_nx nx rc rs ls r)
  | _ => False
theorem to_callV1 {d : Nat} {k : am_M} {pc : Nat} {Q : AV → am_S → Prop} {nx : am_K} {y : am_M} {index : Nat} {kc N9 : Nat} {T9 : u_T} (hC : am_Cl kc y.1.cls T9 N9) (hd : decode k.2.1 pc = .ok (.invokevirtual index, 3)) (hy : am_CK y 1) (w1 : am_ML k.1.cls index y.1) (w2 : Cond.instanceMethod y.1 ∈ am_wall) (w3 : Cond.selects y.1.cls y.1 y.1 ∈ am_wall) (h9 : am_To (d + 1) k (pc + 3) Q nx) : am_To (d + 1) k pc Q (c_callV1 d y kc nx) := by
  intro rc rs ls stk st h
  unfold c_callV1 at h
  split at h
  next a0 o r =>
    obtain ⟨h0, h1, h⟩ := h
    exact sd_callV (mc := 0) (ms := 0) (av := [a0]) hd hy w1 w2 w3 (by obtain ⟨n9, ho⟩ := am_kd_at h0 hC.2.1; exact Or.inl ⟨_, n9, _, _, hC.2.1, hC.1, ho⟩) h1 (am_Call_mono h (fun _ _ z => h9 _ _ _ _ _ z))
  next => exact h.elim
def c_callT1 (d : Nat) (y : am_M) (nx : am_K) : am_K := fun rc rs ls stk st => match stk with
  | a0 :: some (.inr (.inr o)) :: r => (∃ q : Nat, q < 27 ∧ o = -2 - 2 * (q : Int)) ∧ am_w r ≤ 8 ∧ am_Call d y 0 0 (vR o :: [a0]) st (am_nx nx rc rs ls r)
  | _ => False
theorem to_callT1 {d : Nat} {k : am_M} {pc : Nat} {Q : AV → am_S → Prop} {nx : am_K} {y : am_M} {index : Nat} (hC : y.1.cls = "java/lang/String") (hd : decode k.2.1 pc = .ok (.invokevirtual index, 3)) (hy : am_CK y 1) (w1 : am_ML k.1.cls index y.1) (w2 : Cond.instanceMethod y.1 ∈ am_wall) (w3 : Cond.selects y.1.cls y.1 y.1 ∈ am_wall) (h9 : am_To (d + 1) k (pc + 3) Q nx) : am_To (d + 1) k pc Q (c_callT1 d y nx) := by
  intro rc rs ls stk st h
  unfold c_callT1 at h
  split at h
  next a0 o r =>
    obtain ⟨h0, h1, h⟩ := h
    exact sd_callV (mc := 0) (ms := 0) (av := [a0]) hd hy w1 w2 w3 (Or.inr ⟨hC, h0⟩) h1 (am_Call_mono h (fun _ _ z => h9 _ _ _ _ _ z))
  next => exact h.elim
def c_callS2 (d : Nat) (y : am_M) (nx : am_K) : am_K := fun rc rs ls stk st => match stk with
  | a1 :: a0 :: r => am_w r ≤ 8 ∧ am_Call d y 0 0 [a0, a1] st (am_nx nx rc rs ls r)
  | _ => False
theorem to_callS2 {d : Nat} {k : am_M} {pc : Nat} {Q : AV → am_S → Prop} {nx : am_K} {y : am_M} {index : Nat} (hd : decode k.2.1 pc = .ok (.invokestatic index, 3)) (hy : am_CK y 2) (w1 : am_ML k.1.cls index y.1) (w2 : Cond.static y.1 ∈ am_wall) (h9 : am_To (d + 1) k (pc + 3) Q nx) : am_To (d + 1) k pc Q (c_callS2 d y nx) := by
  intro rc rs ls stk st h
  unfold c_callS2 at h
  split at h
  next a1 a0 r => 
    obtain ⟨h1, h⟩ := h
    exact sd_callS (mc := 0) (ms := 0) (av := [a0, a1]) hd hy w1 w2 h1 (am_Call_mono h (fun _ _ z => h9 _ _ _ _ _ z))
  next => exact h.elim
def c_callV2 (d : Nat) (y : am_M) (kc : Nat) (nx : am_K) : am_K := fun rc rs ls stk st => match stk with
  | a1 :: a0 :: some (.inr (.inr o)) :: r => am_kd st.1 o = kc ∧ am_w r ≤ 8 ∧ am_Call d y 0 0 (vR o :: [a0, a1]) st (am_nx nx rc rs ls r)
  | _ => False
theorem to_callV2 {d : Nat} {k : am_M} {pc : Nat} {Q : AV → am_S → Prop} {nx : am_K} {y : am_M} {index : Nat} {kc N9 : Nat} {T9 : u_T} (hC : am_Cl kc y.1.cls T9 N9) (hd : decode k.2.1 pc = .ok (.invokevirtual index, 3)) (hy : am_CK y 2) (w1 : am_ML k.1.cls index y.1) (w2 : Cond.instanceMethod y.1 ∈ am_wall) (w3 : Cond.selects y.1.cls y.1 y.1 ∈ am_wall) (h9 : am_To (d + 1) k (pc + 3) Q nx) : am_To (d + 1) k pc Q (c_callV2 d y kc nx) := by
  intro rc rs ls stk st h
  unfold c_callV2 at h
  split at h
  next a1 a0 o r =>
    obtain ⟨h0, h1, h⟩ := h
    exact sd_callV (mc := 0) (ms := 0) (av := [a0, a1]) hd hy w1 w2 w3 (by obtain ⟨n9, ho⟩ := am_kd_at h0 hC.2.1; exact Or.inl ⟨_, n9, _, _, hC.2.1, hC.1, ho⟩) h1 (am_Call_mono h (fun _ _ z => h9 _ _ _ _ _ z))
  next => exact h.elim
def c_callT2 (d : Nat) (y : am_M) (nx : am_K) : am_K := fun rc rs ls stk st => match stk with
  | a1 :: a0 :: some (.inr (.inr o)) :: r => (∃ q : Nat, q < 27 ∧ o = -2 - 2 * (q : Int)) ∧ am_w r ≤ 8 ∧ am_Call d y 0 0 (vR o :: [a0, a1]) st (am_nx nx rc rs ls r)
  | _ => False
theorem to_callT2 {d : Nat} {k : am_M} {pc : Nat} {Q : AV → am_S → Prop} {nx : am_K} {y : am_M} {index : Nat} (hC : y.1.cls = "java/lang/String") (hd : decode k.2.1 pc = .ok (.invokevirtual index, 3)) (hy : am_CK y 2) (w1 : am_ML k.1.cls index y.1) (w2 : Cond.instanceMethod y.1 ∈ am_wall) (w3 : Cond.selects y.1.cls y.1 y.1 ∈ am_wall) (h9 : am_To (d + 1) k (pc + 3) Q nx) : am_To (d + 1) k pc Q (c_callT2 d y nx) := by
  intro rc rs ls stk st h
  unfold c_callT2 at h
  split at h
  next a1 a0 o r =>
    obtain ⟨h0, h1, h⟩ := h
    exact sd_callV (mc := 0) (ms := 0) (av := [a0, a1]) hd hy w1 w2 w3 (Or.inr ⟨hC, h0⟩) h1 (am_Call_mono h (fun _ _ z => h9 _ _ _ _ _ z))
  next => exact h.elim
def c_callS3 (d : Nat) (y : am_M) (nx : am_K) : am_K := fun rc rs ls stk st => match stk with
  | a2 :: a1 :: a0 :: r => am_w r ≤ 8 ∧ am_Call d y 0 0 [a0, a1, a2] st (am_nx nx rc rs ls r)
  | _ => False
theorem to_callS3 {d : Nat} {k : am_M} {pc : Nat} {Q : AV → am_S → Prop} {nx : am_K} {y : am_M} {index : Nat} (hd : decode k.2.1 pc = .ok (.invokestatic index, 3)) (hy : am_CK y 3) (w1 : am_ML k.1.cls index y.1) (w2 : Cond.static y.1 ∈ am_wall) (h9 : am_To (d + 1) k (pc + 3) Q nx) : am_To (d + 1) k pc Q (c_callS3 d y nx) := by
  intro rc rs ls stk st h
  unfold c_callS3 at h
  split at h
  next a2 a1 a0 r => 
    obtain ⟨h1, h⟩ := h
    exact sd_callS (mc := 0) (ms := 0) (av := [a0, a1, a2]) hd hy w1 w2 h1 (am_Call_mono h (fun _ _ z => h9 _ _ _ _ _ z))
  next => exact h.elim
def c_callV3 (d : Nat) (y : am_M) (kc : Nat) (nx : am_K) : am_K := fun rc rs ls stk st => match stk with
  | a2 :: a1 :: a0 :: some (.inr (.inr o)) :: r => am_kd st.1 o = kc ∧ am_w r ≤ 8 ∧ am_Call d y 0 0 (vR o :: [a0, a1, a2]) st (am_nx nx rc rs ls r)
  | _ => False
theorem to_callV3 {d : Nat} {k : am_M} {pc : Nat} {Q : AV → am_S → Prop} {nx : am_K} {y : am_M} {index : Nat} {kc N9 : Nat} {T9 : u_T} (hC : am_Cl kc y.1.cls T9 N9) (hd : decode k.2.1 pc = .ok (.invokevirtual index, 3)) (hy : am_CK y 3) (w1 : am_ML k.1.cls index y.1) (w2 : Cond.instanceMethod y.1 ∈ am_wall) (w3 : Cond.selects y.1.cls y.1 y.1 ∈ am_wall) (h9 : am_To (d + 1) k (pc + 3) Q nx) : am_To (d + 1) k pc Q (c_callV3 d y kc nx) := by
  intro rc rs ls stk st h
  unfold c_callV3 at h
  split at h
  next a2 a1 a0 o r =>
    obtain ⟨h0, h1, h⟩ := h
    exact sd_callV (mc := 0) (ms := 0) (av := [a0, a1, a2]) hd hy w1 w2 w3 (by obtain ⟨n9, ho⟩ := am_kd_at h0 hC.2.1; exact Or.inl ⟨_, n9, _, _, hC.2.1, hC.1, ho⟩) h1 (am_Call_mono h (fun _ _ z => h9 _ _ _ _ _ z))
  next => exact h.elim
def c_callT3 (d : Nat) (y : am_M) (nx : am_K) : am_K := fun rc rs ls stk st => match stk with
  | a2 :: a1 :: a0 :: some (.inr (.inr o)) :: r => (∃ q : Nat, q < 27 ∧ o = -2 - 2 * (q : Int)) ∧ am_w r ≤ 8 ∧ am_Call d y 0 0 (vR o :: [a0, a1, a2]) st (am_nx nx rc rs ls r)
  | _ => False
theorem to_callT3 {d : Nat} {k : am_M} {pc : Nat} {Q : AV → am_S → Prop} {nx : am_K} {y : am_M} {index : Nat} (hC : y.1.cls = "java/lang/String") (hd : decode k.2.1 pc = .ok (.invokevirtual index, 3)) (hy : am_CK y 3) (w1 : am_ML k.1.cls index y.1) (w2 : Cond.instanceMethod y.1 ∈ am_wall) (w3 : Cond.selects y.1.cls y.1 y.1 ∈ am_wall) (h9 : am_To (d + 1) k (pc + 3) Q nx) : am_To (d + 1) k pc Q (c_callT3 d y nx) := by
  intro rc rs ls stk st h
  unfold c_callT3 at h
  split at h
  next a2 a1 a0 o r =>
    obtain ⟨h0, h1, h⟩ := h
    exact sd_callV (mc := 0) (ms := 0) (av := [a0, a1, a2]) hd hy w1 w2 w3 (Or.inr ⟨hC, h0⟩) h1 (am_Call_mono h (fun _ _ z => h9 _ _ _ _ _ z))
  next => exact h.elim
def c_callS4 (d : Nat) (y : am_M) (nx : am_K) : am_K := fun rc rs ls stk st => match stk with
  | a3 :: a2 :: a1 :: a0 :: r => am_w r ≤ 8 ∧ am_Call d y 0 0 [a0, a1, a2, a3] st (am_nx nx rc rs ls r)
  | _ => False
theorem to_callS4 {d : Nat} {k : am_M} {pc : Nat} {Q : AV → am_S → Prop} {nx : am_K} {y : am_M} {index : Nat} (hd : decode k.2.1 pc = .ok (.invokestatic index, 3)) (hy : am_CK y 4) (w1 : am_ML k.1.cls index y.1) (w2 : Cond.static y.1 ∈ am_wall) (h9 : am_To (d + 1) k (pc + 3) Q nx) : am_To (d + 1) k pc Q (c_callS4 d y nx) := by
  intro rc rs ls stk st h
  unfold c_callS4 at h
  split at h
  next a3 a2 a1 a0 r => 
    obtain ⟨h1, h⟩ := h
    exact sd_callS (mc := 0) (ms := 0) (av := [a0, a1, a2, a3]) hd hy w1 w2 h1 (am_Call_mono h (fun _ _ z => h9 _ _ _ _ _ z))
  next => exact h.elim
def c_callV4 (d : Nat) (y : am_M) (kc : Nat) (nx : am_K) : am_K := fun rc rs ls stk st => match stk with
  | a3 :: a2 :: a1 :: a0 :: some (.inr (.inr o)) :: r => am_kd st.1 o = kc ∧ am_w r ≤ 8 ∧ am_Call d y 0 0 (vR o :: [a0, a1, a2, a3]) st (am_nx nx rc rs ls r)
  | _ => False
theorem to_callV4 {d : Nat} {k : am_M} {pc : Nat} {Q : AV → am_S → Prop} {nx : am_K} {y : am_M} {index : Nat} {kc N9 : Nat} {T9 : u_T} (hC : am_Cl kc y.1.cls T9 N9) (hd : decode k.2.1 pc = .ok (.invokevirtual index, 3)) (hy : am_CK y 4) (w1 : am_ML k.1.cls index y.1) (w2 : Cond.instanceMethod y.1 ∈ am_wall) (w3 : Cond.selects y.1.cls y.1 y.1 ∈ am_wall) (h9 : am_To (d + 1) k (pc + 3) Q nx) : am_To (d + 1) k pc Q (c_callV4 d y kc nx) := by
  intro rc rs ls stk st h
  unfold c_callV4 at h
  split at h
  next a3 a2 a1 a0 o r =>
    obtain ⟨h0, h1, h⟩ := h
    exact sd_callV (mc := 0) (ms := 0) (av := [a0, a1, a2, a3]) hd hy w1 w2 w3 (by obtain ⟨n9, ho⟩ := am_kd_at h0 hC.2.1; exact Or.inl ⟨_, n9, _, _, hC.2.1, hC.1, ho⟩) h1 (am_Call_mono h (fun _ _ z => h9 _ _ _ _ _ z))
  next => exact h.elim
def c_callT4 (d : Nat) (y : am_M) (nx : am_K) : am_K := fun rc rs ls stk st => match stk with
  | a3 :: a2 :: a1 :: a0 :: some (.inr (.inr o)) :: r => (∃ q : Nat, q < 27 ∧ o = -2 - 2 * (q : Int)) ∧ am_w r ≤ 8 ∧ am_Call d y 0 0 (vR o :: [a0, a1, a2, a3]) st (am_nx nx rc rs ls r)
  | _ => False
theorem to_callT4 {d : Nat} {k : am_M} {pc : Nat} {Q : AV → am_S → Prop} {nx : am_K} {y : am_M} {index : Nat} (hC : y.1.cls = "java/lang/String") (hd : decode k.2.1 pc = .ok (.invokevirtual index, 3)) (hy : am_CK y 4) (w1 : am_ML k.1.cls index y.1) (w2 : Cond.instanceMethod y.1 ∈ am_wall) (w3 : Cond.selects y.1.cls y.1 y.1 ∈ am_wall) (h9 : am_To (d + 1) k (pc + 3) Q nx) : am_To (d + 1) k pc Q (c_callT4 d y nx) := by
  intro rc rs ls stk st h
  unfold c_callT4 at h
  split at h
  next a3 a2 a1 a0 o r =>
    obtain ⟨h0, h1, h⟩ := h
    exact sd_callV (mc := 0) (ms := 0) (av := [a0, a1, a2, a3]) hd hy w1 w2 w3 (Or.inr ⟨hC, h0⟩) h1 (am_Call_mono h (fun _ _ z => h9 _ _ _ _ _ z))
  next => exact h.elim
def c_callS5 (d : Nat) (y : am_M) (nx : am_K) : am_K := fun rc rs ls stk st => match stk with
  | a4 :: a3 :: a2 :: a1 :: a0 :: r => am_w r ≤ 8 ∧ am_Call d y 0 0 [a0, a1, a2, a3, a4] st (am_nx nx rc rs ls r)
  | _ => False
theorem to_callS5 {d : Nat} {k : am_M} {pc : Nat} {Q : AV → am_S → Prop} {nx : am_K} {y : am_M} {index : Nat} (hd : decode k.2.1 pc = .ok (.invokestatic index, 3)) (hy : am_CK y 5) (w1 : am_ML k.1.cls index y.1) (w2 : Cond.static y.1 ∈ am_wall) (h9 : am_To (d + 1) k (pc + 3) Q nx) : am_To (d + 1) k pc Q (c_callS5 d y nx) := by
  intro rc rs ls stk st h
  unfold c_callS5 at h
  split at h
  next a4 a3 a2 a1 a0 r => 
    obtain ⟨h1, h⟩ := h
    exact sd_callS (mc := 0) (ms := 0) (av := [a0, a1, a2, a3, a4]) hd hy w1 w2 h1 (am_Call_mono h (fun _ _ z => h9 _ _ _ _ _ z))
  next => exact h.elim
def c_callV5 (d : Nat) (y : am_M) (kc : Nat) (nx : am_K) : am_K := fun rc rs ls stk st => match stk with
  | a4 :: a3 :: a2 :: a1 :: a0 :: some (.inr (.inr o)) :: r => am_kd st.1 o = kc ∧ am_w r ≤ 8 ∧ am_Call d y 0 0 (vR o :: [a0, a1, a2, a3, a4]) st (am_nx nx rc rs ls r)
  | _ => False
theorem to_callV5 {d : Nat} {k : am_M} {pc : Nat} {Q : AV → am_S → Prop} {nx : am_K} {y : am_M} {index : Nat} {kc N9 : Nat} {T9 : u_T} (hC : am_Cl kc y.1.cls T9 N9) (hd : decode k.2.1 pc = .ok (.invokevirtual index, 3)) (hy : am_CK y 5) (w1 : am_ML k.1.cls index y.1) (w2 : Cond.instanceMethod y.1 ∈ am_wall) (w3 : Cond.selects y.1.cls y.1 y.1 ∈ am_wall) (h9 : am_To (d + 1) k (pc + 3) Q nx) : am_To (d + 1) k pc Q (c_callV5 d y kc nx) := by
  intro rc rs ls stk st h
  unfold c_callV5 at h
  split at h
  next a4 a3 a2 a1 a0 o r =>
    obtain ⟨h0, h1, h⟩ := h
    exact sd_callV (mc := 0) (ms := 0) (av := [a0, a1, a2, a3, a4]) hd hy w1 w2 w3 (by obtain ⟨n9, ho⟩ := am_kd_at h0 hC.2.1; exact Or.inl ⟨_, n9, _, _, hC.2.1, hC.1, ho⟩) h1 (am_Call_mono h (fun _ _ z => h9 _ _ _ _ _ z))
  next => exact h.elim
def c_callT5 (d : Nat) (y : am_M) (nx : am_K) : am_K := fun rc rs ls stk st => match stk with
  | a4 :: a3 :: a2 :: a1 :: a0 :: some (.inr (.inr o)) :: r => (∃ q : Nat, q < 27 ∧ o = -2 - 2 * (q : Int)) ∧ am_w r ≤ 8 ∧ am_Call d y 0 0 (vR o :: [a0, a1, a2, a3, a4]) st (am_nx nx rc rs ls r)
  | _ => False
theorem to_callT5 {d : Nat} {k : am_M} {pc : Nat} {Q : AV → am_S → Prop} {nx : am_K} {y : am_M} {index : Nat} (hC : y.1.cls = "java/lang/String") (hd : decode k.2.1 pc = .ok (.invokevirtual index, 3)) (hy : am_CK y 5) (w1 : am_ML k.1.cls index y.1) (w2 : Cond.instanceMethod y.1 ∈ am_wall) (w3 : Cond.selects y.1.cls y.1 y.1 ∈ am_wall) (h9 : am_To (d + 1) k (pc + 3) Q nx) : am_To (d + 1) k pc Q (c_callT5 d y nx) := by
  intro rc rs ls stk st h
  unfold c_callT5 at h
  split at h
  next a4 a3 a2 a1 a0 o r =>
    obtain ⟨h0, h1, h⟩ := h
    exact sd_callV (mc := 0) (ms := 0) (av := [a0, a1, a2, a3, a4]) hd hy w1 w2 w3 (Or.inr ⟨hC, h0⟩) h1 (am_Call_mono h (fun _ _ z => h9 _ _ _ _ _ z))
  next => exact h.elim
def c_callS6 (d : Nat) (y : am_M) (nx : am_K) : am_K := fun rc rs ls stk st => match stk with
  | a5 :: a4 :: a3 :: a2 :: a1 :: a0 :: r => am_w r ≤ 8 ∧ am_Call d y 0 0 [a0, a1, a2, a3, a4, a5] st (am_nx nx rc rs ls r)
  | _ => False
theorem to_callS6 {d : Nat} {k : am_M} {pc : Nat} {Q : AV → am_S → Prop} {nx : am_K} {y : am_M} {index : Nat} (hd : decode k.2.1 pc = .ok (.invokestatic index, 3)) (hy : am_CK y 6) (w1 : am_ML k.1.cls index y.1) (w2 : Cond.static y.1 ∈ am_wall) (h9 : am_To (d + 1) k (pc + 3) Q nx) : am_To (d + 1) k pc Q (c_callS6 d y nx) := by
  intro rc rs ls stk st h
  unfold c_callS6 at h
  split at h
  next a5 a4 a3 a2 a1 a0 r => 
    obtain ⟨h1, h⟩ := h
    exact sd_callS (mc := 0) (ms := 0) (av := [a0, a1, a2, a3, a4, a5]) hd hy w1 w2 h1 (am_Call_mono h (fun _ _ z => h9 _ _ _ _ _ z))
  next => exact h.elim
def c_callV6 (d : Nat) (y : am_M) (kc : Nat) (nx : am_K) : am_K := fun rc rs ls stk st => match stk with
  | a5 :: a4 :: a3 :: a2 :: a1 :: a0 :: some (.inr (.inr o)) :: r => am_kd st.1 o = kc ∧ am_w r ≤ 8 ∧ am_Call d y 0 0 (vR o :: [a0, a1, a2, a3, a4, a5]) st (am_nx nx rc rs ls r)
  | _ => False
theorem to_callV6 {d : Nat} {k : am_M} {pc : Nat} {Q : AV → am_S → Prop} {nx : am_K} {y : am_M} {index : Nat} {kc N9 : Nat} {T9 : u_T} (hC : am_Cl kc y.1.cls T9 N9) (hd : decode k.2.1 pc = .ok (.invokevirtual index, 3)) (hy : am_CK y 6) (w1 : am_ML k.1.cls index y.1) (w2 : Cond.instanceMethod y.1 ∈ am_wall) (w3 : Cond.selects y.1.cls y.1 y.1 ∈ am_wall) (h9 : am_To (d + 1) k (pc + 3) Q nx) : am_To (d + 1) k pc Q (c_callV6 d y kc nx) := by
  intro rc rs ls stk st h
  unfold c_callV6 at h
  split at h
  next a5 a4 a3 a2 a1 a0 o r =>
    obtain ⟨h0, h1, h⟩ := h
    exact sd_callV (mc := 0) (ms := 0) (av := [a0, a1, a2, a3, a4, a5]) hd hy w1 w2 w3 (by obtain ⟨n9, ho⟩ := am_kd_at h0 hC.2.1; exact Or.inl ⟨_, n9, _, _, hC.2.1, hC.1, ho⟩) h1 (am_Call_mono h (fun _ _ z => h9 _ _ _ _ _ z))
  next => exact h.elim
def c_callT6 (d : Nat) (y : am_M) (nx : am_K) : am_K := fun rc rs ls stk st => match stk with
  | a5 :: a4 :: a3 :: a2 :: a1 :: a0 :: some (.inr (.inr o)) :: r => (∃ q : Nat, q < 27 ∧ o = -2 - 2 * (q : Int)) ∧ am_w r ≤ 8 ∧ am_Call d y 0 0 (vR o :: [a0, a1, a2, a3, a4, a5]) st (am_nx nx rc rs ls r)
  | _ => False
theorem to_callT6 {d : Nat} {k : am_M} {pc : Nat} {Q : AV → am_S → Prop} {nx : am_K} {y : am_M} {index : Nat} (hC : y.1.cls = "java/lang/String") (hd : decode k.2.1 pc = .ok (.invokevirtual index, 3)) (hy : am_CK y 6) (w1 : am_ML k.1.cls index y.1) (w2 : Cond.instanceMethod y.1 ∈ am_wall) (w3 : Cond.selects y.1.cls y.1 y.1 ∈ am_wall) (h9 : am_To (d + 1) k (pc + 3) Q nx) : am_To (d + 1) k pc Q (c_callT6 d y nx) := by
  intro rc rs ls stk st h
  unfold c_callT6 at h
  split at h
  next a5 a4 a3 a2 a1 a0 o r =>
    obtain ⟨h0, h1, h⟩ := h
    exact sd_callV (mc := 0) (ms := 0) (av := [a0, a1, a2, a3, a4, a5]) hd hy w1 w2 w3 (Or.inr ⟨hC, h0⟩) h1 (am_Call_mono h (fun _ _ z => h9 _ _ _ _ _ z))
  next => exact h.elim
def c_callS7 (d : Nat) (y : am_M) (nx : am_K) : am_K := fun rc rs ls stk st => match stk with
  | a6 :: a5 :: a4 :: a3 :: a2 :: a1 :: a0 :: r => am_w r ≤ 8 ∧ am_Call d y 0 0 [a0, a1, a2, a3, a4, a5, a6] st (am_nx nx rc rs ls r)
  | _ => False
theorem to_callS7 {d : Nat} {k : am_M} {pc : Nat} {Q : AV → am_S → Prop} {nx : am_K} {y : am_M} {index : Nat} (hd : decode k.2.1 pc = .ok (.invokestatic index, 3)) (hy : am_CK y 7) (w1 : am_ML k.1.cls index y.1) (w2 : Cond.static y.1 ∈ am_wall) (h9 : am_To (d + 1) k (pc + 3) Q nx) : am_To (d + 1) k pc Q (c_callS7 d y nx) := by
  intro rc rs ls stk st h
  unfold c_callS7 at h
  split at h
  next a6 a5 a4 a3 a2 a1 a0 r => 
    obtain ⟨h1, h⟩ := h
    exact sd_callS (mc := 0) (ms := 0) (av := [a0, a1, a2, a3, a4, a5, a6]) hd hy w1 w2 h1 (am_Call_mono h (fun _ _ z => h9 _ _ _ _ _ z))
  next => exact h.elim
def c_callV7 (d : Nat) (y : am_M) (kc : Nat) (nx : am_K) : am_K := fun rc rs ls stk st => match stk with
  | a6 :: a5 :: a4 :: a3 :: a2 :: a1 :: a0 :: some (.inr (.inr o)) :: r => am_kd st.1 o = kc ∧ am_w r ≤ 8 ∧ am_Call d y 0 0 (vR o :: [a0, a1, a2, a3, a4, a5, a6]) st (am_nx nx rc rs ls r)
  | _ => False
theorem to_callV7 {d : Nat} {k : am_M} {pc : Nat} {Q : AV → am_S → Prop} {nx : am_K} {y : am_M} {index : Nat} {kc N9 : Nat} {T9 : u_T} (hC : am_Cl kc y.1.cls T9 N9) (hd : decode k.2.1 pc = .ok (.invokevirtual index, 3)) (hy : am_CK y 7) (w1 : am_ML k.1.cls index y.1) (w2 : Cond.instanceMethod y.1 ∈ am_wall) (w3 : Cond.selects y.1.cls y.1 y.1 ∈ am_wall) (h9 : am_To (d + 1) k (pc + 3) Q nx) : am_To (d + 1) k pc Q (c_callV7 d y kc nx) := by
  intro rc rs ls stk st h
  unfold c_callV7 at h
  split at h
  next a6 a5 a4 a3 a2 a1 a0 o r =>
    obtain ⟨h0, h1, h⟩ := h
    exact sd_callV (mc := 0) (ms := 0) (av := [a0, a1, a2, a3, a4, a5, a6]) hd hy w1 w2 w3 (by obtain ⟨n9, ho⟩ := am_kd_at h0 hC.2.1; exact Or.inl ⟨_, n9, _, _, hC.2.1, hC.1, ho⟩) h1 (am_Call_mono h (fun _ _ z => h9 _ _ _ _ _ z))
  next => exact h.elim
def c_callT7 (d : Nat) (y : am_M) (nx : am_K) : am_K := fun rc rs ls stk st => match stk with
  | a6 :: a5 :: a4 :: a3 :: a2 :: a1 :: a0 :: some (.inr (.inr o)) :: r => (∃ q : Nat, q < 27 ∧ o = -2 - 2 * (q : Int)) ∧ am_w r ≤ 8 ∧ am_Call d y 0 0 (vR o :: [a0, a1, a2, a3, a4, a5, a6]) st (am_nx nx rc rs ls r)
  | _ => False
theorem to_callT7 {d : Nat} {k : am_M} {pc : Nat} {Q : AV → am_S → Prop} {nx : am_K} {y : am_M} {index : Nat} (hC : y.1.cls = "java/lang/String") (hd : decode k.2.1 pc = .ok (.invokevirtual index, 3)) (hy : am_CK y 7) (w1 : am_ML k.1.cls index y.1) (w2 : Cond.instanceMethod y.1 ∈ am_wall) (w3 : Cond.selects y.1.cls y.1 y.1 ∈ am_wall) (h9 : am_To (d + 1) k (pc + 3) Q nx) : am_To (d + 1) k pc Q (c_callT7 d y nx) := by
  intro rc rs ls stk st h
  unfold c_callT7 at h
  split at h
  next a6 a5 a4 a3 a2 a1 a0 o r =>
    obtain ⟨h0, h1, h⟩ := h
    exact sd_callV (mc := 0) (ms := 0) (av := [a0, a1, a2, a3, a4, a5, a6]) hd hy w1 w2 w3 (Or.inr ⟨hC, h0⟩) h1 (am_Call_mono h (fun _ _ z => h9 _ _ _ _ _ z))
  next => exact h.elim
def c_callI0 (d : Nat) (y : am_M) (mc ms : Nat) (nx : am_K) : am_K := fun rc rs ls stk st => match stk with
  | some (.inr (.inr o)) :: r => am_kd st.1 o < 13 ∧ am_w r ≤ 8 ∧ mc ≤ rc ∧ ms ≤ rs ∧ am_Call d y mc ms (vR o :: []) st (am_nx nx (rc - mc) (rs - ms) ls r)
  | _ => False
theorem to_callI0 {d : Nat} {k : am_M} {pc : Nat} {Q : AV → am_S → Prop} {nx : am_K} {y : am_M} {index mc ms : Nat} (hd : decode k.2.1 pc = .ok (.invokespecial index, 3)) (hy : am_CK y 0) (w1 : am_ML k.1.cls index y.1) (w2 : Cond.instanceMethod y.1 ∈ am_wall) (w3 : y.1.name = "<init>") (w4 : y.2.2.2 = none) (h9 : am_To (d + 1) k (pc + 3) Q nx) : am_To (d + 1) k pc Q (c_callI0 d y mc ms nx) := by
  intro rc rs ls stk st h
  unfold c_callI0 at h
  split at h
  next  o r =>
    obtain ⟨h0, h1, h2, h3, h⟩ := h
    obtain ⟨n, ho⟩ := am_kd_at (kd := am_kd st.1 _) rfl h0
    have := sd_callI (mc := mc) (ms := ms) (rc := rc - mc) (rs := rs - ms) (av := []) hd hy w1 w2 w3 w4 ho h1 (am_Call_mono h (fun _ _ z => h9 _ _ _ _ _ z))
    rwa [Nat.sub_add_cancel h2, Nat.sub_add_cancel h3] at this
  next => exact h.elim
def c_callI1 (d : Nat) (y : am_M) (mc ms : Nat) (nx : am_K) : am_K := fun rc rs ls stk st => match stk with
  | a0 :: some (.inr (.inr o)) :: r => am_kd st.1 o < 13 ∧ am_w r ≤ 8 ∧ mc ≤ rc ∧ ms ≤ rs ∧ am_Call d y mc ms (vR o :: [a0]) st (am_nx nx (rc - mc) (rs - ms) ls r)
  | _ => False
theorem to_callI1 {d : Nat} {k : am_M} {pc : Nat} {Q : AV → am_S → Prop} {nx : am_K} {y : am_M} {index mc ms : Nat} (hd : decode k.2.1 pc = .ok (.invokespecial index, 3)) (hy : am_CK y 1) (w1 : am_ML k.1.cls index y.1) (w2 : Cond.instanceMethod y.1 ∈ am_wall) (w3 : y.1.name = "<init>") (w4 : y.2.2.2 = none) (h9 : am_To (d + 1) k (pc + 3) Q nx) : am_To (d + 1) k pc Q (c_callI1 d y mc ms nx) := by
  intro rc rs ls stk st h
  unfold c_callI1 at h
  split at h
  next a0 o r =>
    obtain ⟨h0, h1, h2, h3, h⟩ := h
    obtain ⟨n, ho⟩ := am_kd_at (kd := am_kd st.1 _) rfl h0
    have := sd_callI (mc := mc) (ms := ms) (rc := rc - mc) (rs := rs - ms) (av := [a0]) hd hy w1 w2 w3 w4 ho h1 (am_Call_mono h (fun _ _ z => h9 _ _ _ _ _ z))
    rwa [Nat.sub_add_cancel h2, Nat.sub_add_cancel h3] at this
  next => exact h.elim
def c_callI2 (d : Nat) (y : am_M) (mc ms : Nat) (nx : am_K) : am_K := fun rc rs ls stk st => match stk with
  | a1 :: a0 :: some (.inr (.inr o)) :: r => am_kd st.1 o < 13 ∧ am_w r ≤ 8 ∧ mc ≤ rc ∧ ms ≤ rs ∧ am_Call d y mc ms (vR o :: [a0, a1]) st (am_nx nx (rc - mc) (rs - ms) ls r)
  | _ => False
theorem to_callI2 {d : Nat} {k : am_M} {pc : Nat} {Q : AV → am_S → Prop} {nx : am_K} {y : am_M} {index mc ms : Nat} (hd : decode k.2.1 pc = .ok (.invokespecial index, 3)) (hy : am_CK y 2) (w1 : am_ML k.1.cls index y.1) (w2 : Cond.instanceMethod y.1 ∈ am_wall) (w3 : y.1.name = "<init>") (w4 : y.2.2.2 = none) (h9 : am_To (d + 1) k (pc + 3) Q nx) : am_To (d + 1) k pc Q (c_callI2 d y mc ms nx) := by
  intro rc rs ls stk st h
  unfold c_callI2 at h
  split at h
  next a1 a0 o r =>
    obtain ⟨h0, h1, h2, h3, h⟩ := h
    obtain ⟨n, ho⟩ := am_kd_at (kd := am_kd st.1 _) rfl h0
    have := sd_callI (mc := mc) (ms := ms) (rc := rc - mc) (rs := rs - ms) (av := [a0, a1]) hd hy w1 w2 w3 w4 ho h1 (am_Call_mono h (fun _ _ z => h9 _ _ _ _ _ z))
    rwa [Nat.sub_add_cancel h2, Nat.sub_add_cancel h3] at this
  next => exact h.elim
def c_callA (d : Nat) (y : am_M) (mc ms : Nat) (nx : am_K) : am_K := fun rc rs ls stk st => am_w stk ≤ 8 ∧ mc ≤ rc ∧ ms ≤ rs ∧ am_Call d y mc ms [] st (am_nx nx (rc - mc) (rs - ms) ls stk)
theorem to_callA {d : Nat} {k : am_M} {pc : Nat} {Q : AV → am_S → Prop} {nx : am_K} {y : am_M} {index mc ms : Nat} (hd : decode k.2.1 pc = .ok (.invokestatic index, 3)) (hy : am_CK y 0) (w1 : am_ML k.1.cls index y.1) (w2 : Cond.static y.1 ∈ am_wall) (h9 : am_To (d + 1) k (pc + 3) Q nx) : am_To (d + 1) k pc Q (c_callA d y mc ms nx) := by
  intro rc rs ls stk st h
  obtain ⟨h1, h2, h3, h⟩ := h
  have := sd_callS (mc := mc) (ms := ms) (rc := rc - mc) (rs := rs - ms) (av := []) hd hy w1 w2 h1 (am_Call_mono h (fun _ _ z => h9 _ _ _ _ _ z))
  rwa [Nat.sub_add_cancel h2, Nat.sub_add_cancel h3] at this
