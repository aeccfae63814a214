/-! THE LIGHT MACHINE: values, stores, worlds -/
abbrev AV : Type := Option (Int ⊕ Int ⊕ Int)
abbrev vI (x : Int) : AV := some (.inl x)
abbrev vL (x : Int) : AV := some (.inr (.inl x))
abbrev vR (x : Int) : AV := some (.inr (.inr x))
/-- a store: kind and length of each object made, and what each holds, by its number (from 1 on) and place -/
abbrev am_S : Type := List (Nat × Nat) × (Int → Int → Int)
/-- a method: its name, bytes, how many locals, what it returns -/
abbrev am_M : Type := MethodName × ByteArray × Nat × Option FieldType
/-- what stays over a run: classes and slots, array classes, the script, the addresses of the texts and of their bytes, the first own address -/
abbrev am_G : Type := va_G × (Nat → ClassId) × (Nat × Nat × (Nat → Int32)) × (Nat → Nat) × (Nat → Nat) × Nat × Option Nat
def am_A (g : am_G) : Nat → Prop := fun q => g.2.2.2.2.2.1 ≤ q
def am_ro (g : am_G) (ads : Nat → Nat) (v : Int) : Option Nat :=
  if v = 0 then none else if 0 < v then some (ads (v - 1).toNat) else if v = -1 then some g.2.2.1.1 else if v ≤ -1000000 then g.2.2.2.2.2.2
  else if (-2 - v).toNat % 2 = 0 then some (g.2.2.2.1 ((-2 - v).toNat / 2)) else some (g.2.2.2.2.1 ((-2 - v).toNat / 2))
def am_cv (g : am_G) (ads : Nat → Nat) : AV → Value
  | none => .null
  | some (.inl x) => .int (Int32.ofInt x)
  | some (.inr (.inl x)) => .long (Int64.ofInt x)
  | some (.inr (.inr x)) => va_rf (am_ro g ads x)
def am_ty (c : Nat) : Nat → FieldType := match c with
  | 0 => tyX0
  | 1 => tyX1
  | 2 => tyX2
  | 3 => tyX3
  | 4 => tyX4
  | 5 => tyX5
  | 6 => tyX6
  | 7 => tyX7
  | 8 => tyX8
  | 9 => tyX9
  | 10 => tyX10
  | 11 => tyX11
  | _ => tyX12
def am_nf (c : Nat) : Nat := match c with
  | 0 => 12
  | 1 => 7
  | 2 => 5
  | 3 => 3
  | 4 => 12
  | 5 => 3
  | 6 => 7
  | 7 => 4
  | 8 => 17
  | 9 => 3
  | 10 => 11
  | 11 => 9
  | _ => 85
def am_isR : FieldType → Bool
  | .int => false
  | .boolean => false
  | _ => true
def am_fv (g : am_G) (ads : Nat → Nat) (ty : FieldType) (v : Int) : Value := if am_isR ty = true then va_rf (am_ro g ads v) else .int (Int32.ofInt v)
def am_cell (g : am_G) (ads : Nat → Nat) (sh : Nat × Nat) (f : Int → Int) : va_E :=
  if sh.1 < 13 then .inr (sh.1, (List.range (am_nf sh.1)).map (fun j => am_fv g ads (am_ty sh.1 j) (f j)))
  else .inl (g.2.1 sh.1, sh.2, if sh.1 = 21 then .inr (.inl (fun i => Int64.ofInt (f i))) else if 24 ≤ sh.1 then .inr (.inr (.inr (.inr (fun i => am_ro g ads (f i))))) else .inl (fun i => Int32.ofInt (f i)))
def am_ws (g : am_G) (ads : Nat → Nat) (st : am_S) : va_W := (List.range st.1.length).map (fun k => (ads k, am_cell g ads (st.1.getD k (0, 0)) (st.2 ((k : Int) + 1))))
def am_i32 (x : Int) : Prop := -2147483648 ≤ x ∧ x ≤ 2147483647
def am_i64 (x : Int) : Prop := -9223372036854775808 ≤ x ∧ x ≤ 9223372036854775807
def am_ok (n : Nat) : AV → Prop
  | none => True
  | some (.inl x) => am_i32 x
  | some (.inr (.inl x)) => am_i64 x
  | some (.inr (.inr x)) => x ≤ (n : Int)
def am_oks (n : Nat) (kd : Nat) (j : Int) (v : Int) : Prop :=
  if kd < 13 then (if am_isR (am_ty kd j.toNat) = true then v ≤ (n : Int) else am_i32 v) else if kd = 21 then am_i64 v else if 24 ≤ kd then v ≤ (n : Int) else am_i32 v
def am_okM (st : am_S) : Prop := ∀ k, k < st.1.length → ∀ j : Int, am_oks st.1.length (st.1.getD k (0, 0)).1 j (st.2 ((k : Int) + 1) j)
def am_at (sh : List (Nat × Nat)) (o : Int) : Option (Nat × Nat) := if 1 ≤ o then sh[(o - 1).toNat]? else none
/-- a place of the store gets another value -/
def am_up (M : Int → Int → Int) (o j v : Int) : Int → Int → Int := fun a b => if a = o then (if b = j then v else M a b) else M a b
/-- the store has a new object -/
def am_new (st : am_S) (kd n : Nat) : am_S := (st.1 ++ [(kd, n)], fun a b => if a = (st.1.length : Int) + 1 then 0 else st.2 a b)
def am_tys (g : am_G) : List (ClassId × FieldType) := [(g.2.1 20, .int), (g.2.1 21, .long), (g.2.1 22, .boolean), (g.2.1 23, .char), (g.2.1 24, .object RX0), (g.2.1 25, .array .int)]
def am_nest : Cond → Bool
  | .fieldLinkNest _ _ _ _ _ _ => true
  | .methodLinkNest _ _ _ _ => true
  | _ => false
def am_wall : List Cond := lw_tbl.filter goodWord
def am_str : List (Nat × String) := [(109, "bar"), (70, " bar at every from reach board catcher trick ticks arms worth when or and not all miss swing gap tick thrown caught done again min max "), (149, "at"), (155, "every"), (157, "from"), (159, "reach"), (114, "board"), (119, "catcher"), (124, "trick"), (192, "ticks"), (194, "arms"), (196, "worth"), (252, "miss"), (254, "swing"), (256, "gap"), (258, "tick"), (260, "thrown"), (262, "caught"), (264, "done"), (266, "again"), (246, "min"), (247, "max"), (209, "when"), (230, "not"), (235, "all"), (228, "and"), (220, "or")]
def am_slen : List Nat := [3, 135, 2, 5, 4, 5, 5, 7, 5, 5, 4, 5, 4, 5, 3, 4, 6, 6, 4, 5, 3, 3, 4, 3, 3, 3, 2]
def am_sbyt : List (List Int32) := [[98, 97, 114], [32, 98, 97, 114, 32, 97, 116, 32, 101, 118, 101, 114, 121, 32, 102, 114, 111, 109, 32, 114, 101, 97, 99, 104, 32, 98, 111, 97, 114, 100, 32, 99, 97, 116, 99, 104, 101, 114, 32, 116, 114, 105, 99, 107, 32, 116, 105, 99, 107, 115, 32, 97, 114, 109, 115, 32, 119, 111, 114, 116, 104, 32, 119, 104, 101, 110, 32, 111, 114, 32, 97, 110, 100, 32, 110, 111, 116, 32, 97, 108, 108, 32, 109, 105, 115, 115, 32, 115, 119, 105, 110, 103, 32, 103, 97, 112, 32, 116, 105, 99, 107, 32, 116, 104, 114, 111, 119, 110, 32, 99, 97, 117, 103, 104, 116, 32, 100, 111, 110, 101, 32, 97, 103, 97, 105, 110, 32, 109, 105, 110, 32, 109, 97, 120, 32], [97, 116], [101, 118, 101, 114, 121], [102, 114, 111, 109], [114, 101, 97, 99, 104], [98, 111, 97, 114, 100], [99, 97, 116, 99, 104, 101, 114], [116, 114, 105, 99, 107], [116, 105, 99, 107, 115], [97, 114, 109, 115], [119, 111, 114, 116, 104], [109, 105, 115, 115], [115, 119, 105, 110, 103], [103, 97, 112], [116, 105, 99, 107], [116, 104, 114, 111, 119, 110], [99, 97, 117, 103, 104, 116], [100, 111, 110, 101], [97, 103, 97, 105, 110], [109, 105, 110], [109, 97, 120], [119, 104, 101, 110], [110, 111, 116], [97, 108, 108], [97, 110, 100], [111, 114]]
/-- what the tables say, at any time of the run -/
def am_Gl (g : am_G) (U : State) : Prop := va_K g.1 vwCl (am_tys g) U ∧ (∀ w ∈ lw_tbl, am_nest w = true → va_Nw w U) ∧ (∀ (k : Nat) (q : Nat × String), am_str[k]? = some q → vk_R RX6 q.1 q.2 (g.2.2.2.1 k) U) ∧ va_AO RX0 U ∧ (Cond.arrayOver (.array .int)).before #[] U = true
/-- the script, the texts, the flag: not of our making, and never written -/
def am_Ex (g : am_G) (U : State) (H : Heap) : Prop := va_X g.2.2.1.1 g.2.2.1.2.1 g.2.2.1.2.2 U H ∧ g.2.2.1.1 < g.2.2.2.2.2.1 ∧ g.2.2.2.2.2.1 ≤ H.size ∧ vk_S 27 am_slen am_sbyt g.2.2.2.1 g.2.2.2.2.1 (am_A g) U H ∧ va_Z "java/lang/String" "COMPACT_STRINGS" "Z" (.int 1) (am_A g) U H ∧ va_Z "jdk/internal/util/Preconditions" "SIOOBE_FORMATTER" "Ljava/util/function/BiFunction;" (va_rf g.2.2.2.2.2.2) (am_A g) U H
/-- the script, as the object -1 of the store; its length at place -1 -/
def am_Sc (g : am_G) (st : am_S) : Prop := (g.2.2.1.2.1 : Int) = st.2 (-1) (-1) ∧ st.2 (-1) (-1) ≤ 4096 ∧ ∀ j : Nat, j < g.2.2.1.2.1 → g.2.2.1.2.2 j = Int32.ofInt (st.2 (-1) (j : Int)) ∧ am_i32 (st.2 (-1) (j : Int))
/-- the heap H holds the store -/
def am_He (g : am_G) (ads : Nat → Nat) (st : am_S) (H0 H : Heap) (locs : List Loc) : Prop := va_P g.1 vwCl (am_ws g ads st) H ∧ va_D (am_A g) (am_ws g ads st) ∧ va_S (am_A g) H0 H locs ∧ am_okM st ∧ am_Sc g st
/-- the locals -/
def am_hasL (g : am_G) (ads : Nat → Nat) (lsA : Array Slot) (n : Nat) (ls : List AV) : Prop := lsA.size = n ∧ lv_wf lsA ∧ ls.length = n ∧ ∀ (i : Nat) (v : Int ⊕ Int ⊕ Int), ls[i]? = some (some v) → lsA[i]? = some (.val (am_cv g ads (some v)))
def am_rs (g : am_G) (ads : Nat → Nat) : AV → List Value
  | none => []
  | some v => [am_cv g ads (some v)]
/-- an int that a method of this result type may return -/
def am_rf (ty : Option FieldType) (x : Int) : Prop := match ty with
  | some .int => True
  | some .boolean => x = 0 ∨ x = 1
  | some .char => 0 ≤ x ∧ x < 65536
  | some .byte => -128 ≤ x ∧ x < 128
  | _ => False
def am_ret (k : am_M) (pc : Nat) : AV → Prop
  | none => decode k.2.1 pc = .ok (.return_, 1) ∧ k.2.2.2 = none
  | some (.inl x) => decode k.2.1 pc = .ok (.ireturn, 1) ∧ am_rf k.2.2.2 x
  | some (.inr (.inl _)) => decode k.2.1 pc = .ok (.lreturn, 1) ∧ k.2.2.2 = some .long
  | some (.inr (.inr _)) => decode k.2.1 pc = .ok (.areturn, 1) ∧ ((∃ n, k.2.2.2 = some (.object n)) ∨ ∃ t, k.2.2.2 = some (.array t))
/-- the method's own facts -/
def am_Fx (k : am_M) (g : am_G) (p : Program) (s : State) (m : MethodId) (args : Array Value) (meth : Method) (c : Code) : Prop :=
  p.tables.exec = Jvm.exec ∧ c.code = k.2.1 ∧ c.maxLocals = k.2.2.1 ∧ s.vm.findClass k.1.cls = some m.cls ∧ (∀ w ∈ am_wall, w.before args s = true) ∧ am_Gl g s ∧ am_Ex g s s.heap ∧ (k.1.name = "<init>" → meth.name = "<init>")
def am_ext (n : Nat) (a b : Nat → Nat) : Prop := ∀ k, k < n → b k = a k
/-- room: a depth's worth of frames and of locals' words -/
def am_Ro (d : Nat) (R : Room) (cm sm : Nat) : Prop := d ≤ R.frames ∧ 64 * d ≤ R.locals ∧ cm ≤ R.cells ∧ sm ≤ R.slots
/-- from the method k's place pc on, with these locals, this stack and store: it comes to a return with Q -/
def am_Wp (d : Nat) (k : am_M) (rc rs : Nat) (pc : Nat) (ls stk : List AV) (st : am_S) (Q : AV → am_S → Prop) : Prop :=
  ∀ (g : am_G) (l : Launch) (p : Program) (e : Env) (R : Room) (s : State) (m : MethodId) (args : Array Value) (below : List Frame) (meth : Method) (c : Code) (Z : State → Prop) (ads0 : Nat → Nat) (n0 cm sm : Nat),
    am_Fx k g p s m args meth c → am_Ro d R cm sm →
    (∀ (r : AV) (st' : am_S) (ads' : Nat → Nat) (H' : Heap) (locs' : List Loc) (cells' slots' : Nat) (ls' : Array Slot) (pc' : Nat), Q r st' → am_ok st'.1.length r → am_ext n0 ads0 ads' → n0 ≤ st'.1.length → am_He g ads' st' s.heap H' locs' → cells' ≤ cm → slots' ≤ sm → am_ret k pc' r →
      W p l e R s m args below meth c H' locs' cells' slots' Z (F0 m pc' ls' (am_rs g ads' r))) →
    ∀ (ads : Nat → Nat) (H : Heap) (locs : List Loc) (cells slots : Nat) (lsA : Array Slot), am_He g ads st s.heap H locs → am_ext n0 ads0 ads → n0 ≤ st.1.length → cells + rc ≤ cm → slots + rs ≤ sm → am_hasL g ads lsA k.2.2.1 ls → (∀ v ∈ ls, am_ok st.1.length v) → (∀ v ∈ stk, am_ok st.1.length v) →
      W p l e R s m args below meth c H locs cells slots Z (F0 m pc lsA (stk.map (am_cv g ads)))
/-- a call of the method k: it returns, with Q -/
def am_Pc (g : am_G) (ads : Nat → Nat) (av : List AV) (st : am_S) : Array Value → State → Prop := fun v U => v = (av.map (am_cv g ads)).toArray ∧ am_Gl g U ∧ am_Ex g U U.heap ∧ am_He g ads st U.heap U.heap []
def am_Qc (g : am_G) (ads : Nat → Nat) (st : am_S) (Q : AV → am_S → Prop) : Array Value → State → Outcome → State → Prop := fun _ U o t =>
  ∃ (r : AV) (st' : am_S) (ads' : Nat → Nat), Q r st' ∧ am_ok st'.1.length r ∧ am_ext st.1.length ads ads' ∧ st.1.length ≤ st'.1.length ∧ o = .returned (am_rs g ads' r).head? ∧ am_He g ads' st' U.heap t.heap []
def am_mw (k : am_M) : List Cond := Cond.code k.1 k.2.1 k.2.2.1 k.2.2.2 :: am_wall
def am_mr (d mc ms : Nat) : Room := { frames := d, cells := mc, slots := ms, locals := 64 * d }
def am_Call (d : Nat) (k : am_M) (mc ms : Nat) (av : List AV) (st : am_S) (Q : AV → am_S → Prop) : Prop :=
  ∀ (g : am_G) (l : Launch) (ads : Nat → Nat), (∀ v ∈ av, am_ok st.1.length v) → Met l k.1 (am_mw k) (am_mr d mc ms) (am_Pc g ads av st) (am_Qc g ads st Q) mc ms (am_A g)
