/-! THE SMALL MACHINE. A world is a map of addresses and how many cells are made; wpF says that from a state of a frame the run comes to its return, where P holds of the answer and the world. Refs are the machine's own addresses: the n-th cell made lies at gB + n. -/
abbrev sG : Type := (Nat → ClassId) × Nat × Nat × Nat × (Nat → Int32) × Nat
abbrev gA (G : sG) : Nat → ClassId := G.1
abbrev gB (G : sG) : Nat := G.2.1
abbrev gb (G : sG) : Nat := G.2.2.1
abbrev gL (G : sG) : Nat := G.2.2.2.1
abbrev gx (G : sG) : Nat → Int32 := G.2.2.2.2.1
abbrev gW (G : sG) : Nat := G.2.2.2.2.2
abbrev sW : Type := (Nat → va_E) × Nat
/-- a method: name, code, locals, what it returns, whether a local of it is a long -/
abbrev sM : Type := MethodName × ByteArray × Nat × Option FieldType × Bool
abbrev sI : Type := Nat → List (Option Value) → List Value → sW → Nat × Nat → Prop
abbrev sQ : Type := Option Value → sW → Prop
abbrev sC : Type := MethodName → Nat × Nat → List Value → sW → sQ → Prop
def s_junk : va_E := .inr (999, [])
def s_up (w : sW) (a : Nat) (e : va_E) : sW := (fun q => if q = a then e else w.1 q, w.2)
def s_new (w : sW) (a : Nat) (e : va_E) : sW := (fun q => if q = a then e else w.1 q, w.2 + 1)
def aI (G : sG) (n : Nat) (f : Nat → Int32) : va_E := .inl (gA G 0, n, .inl f)
def aJ (G : sG) (n : Nat) (f : Nat → Int64) : va_E := .inl (gA G 1, n, .inr (.inl f))
def aC (G : sG) (n : Nat) (f : Nat → Int32) : va_E := .inl (gA G 2, n, .inl f)
def aZ (G : sG) (n : Nat) (f : Nat → Int32) : va_E := .inl (gA G 3, n, .inl f)
def aQ (G : sG) (t : Nat) (n : Nat) (f : Nat → Option Nat) : va_E := .inl (gA G t, n, .inr (.inr (.inr (.inr f))))
/-- an object: the place of its class in vwCl, its fields -/
def ob (c : Nat) (fs : List Value) : va_E := .inr (c, fs)
def wW (j : Nat) : Int64 := match j with
  | 0 => 6148914691236517205
  | 1 => 3689348814741910323
  | 2 => 1085102592571150095
  | 3 => 71777214294589695
  | 4 => 281470681808895
  | _ => 4294967295
def inT (c : Jvm.Cond) : Prop := c ∈ lw_tbl
def s_fl (own : String) (k ci j : Nat) : Prop := ∃ (C : String) (T : u_T) (N : Nat) (host : String), vwCl[ci]? = some (C, T, N) ∧ j < N ∧ (inT (.fieldLink own k (T j).1 (T j).2.1 (T j).2.2.1) ∨ inT (.fieldLinkNest own k (T j).1 (T j).2.1 (T j).2.2.1 host))
/-- a field that may be written here, with v -/
def s_fs (M : sM) (k ci j : Nat) (v : Value) : Prop := ∃ (C : String) (T : u_T) (N : Nat) (host : String) (ty : FieldType), vwCl[ci]? = some (C, T, N) ∧ j < N ∧ parseFieldDescriptor (T j).2.2.1 = some ty ∧ narrow ty v = v ∧ fits ty v = true ∧
  ((((T j).2.2.2 = false) ∧ (inT (.fieldLink M.1.cls k (T j).1 (T j).2.1 (T j).2.2.1) ∨ inT (.fieldLinkNest M.1.cls k (T j).1 (T j).2.1 (T j).2.2.1 host))) ∨ ((T j).2.2.2 = true ∧ M.1.name = "<init>" ∧ (T j).1 = M.1.cls ∧ inT (.fieldLink M.1.cls k (T j).1 (T j).2.1 (T j).2.2.1)))
def s_lnk (own : String) (k : Nat) (y : MethodName) : Prop := inT (.methodLink own k y) ∨ ∃ host, inT (.methodLinkNest own k y host)
def s_okm (y : MethodName) (n : Nat) : Prop := y.cls ≠ "java/lang/invoke/MethodHandle" ∧ y.cls ≠ "java/lang/invoke/VarHandle" ∧ (parseMethodDescriptor y.desc).map (fun d => d.parameters.length) = some n ∧ inT (.initialized y.cls)
def s_c1 (ls : List (Option Value)) (k : Nat) : Bool := match k with
  | 0 => true
  | k + 1 => match ls[k]? with
    | some (some v) => v.category == 1
    | _ => true
def s_st (M : sM) (ls : List (Option Value)) (k : Nat) : Prop := k < M.2.2.1 ∧ (M.2.2.2.2 = false ∨ s_c1 ls k = true)
def s_cmp (o : Jvm.ClassFile.Cond) (x y : Int32) : Prop := match o with
  | .eq => x = y
  | .ne => ¬ x = y
  | .lt => x < y
  | .ge => y ≤ x
  | .gt => y < x
  | .le => x ≤ y
def s_cat (st : List Value) : Prop := (st.map fun v => v.category).sum ≤ 8
def s_bud (κ κ1 κ2 : Nat × Nat) : Prop := κ1.1 + κ2.1 ≤ κ.1 ∧ κ1.2 + κ2.2 ≤ κ.2
def s_vc (G : sG) (C : sC) (M : sM) (I : sI) (k pc : Nat) (ls : List (Option Value)) (st : List Value) (w : sW) (κ : Nat × Nat) : Prop := ∃ (y : MethodName) (As : List Value) (b : Nat) (st' fs : List Value) (ci : Nat) (T : u_T) (N : Nat) (κ1 κ2 : Nat × Nat), st = As.reverse ++ .ref b :: st' ∧ w.1 b = ob ci fs ∧ vwCl[ci]? = some (y.cls, T, N) ∧ s_lnk M.1.cls k y ∧ inT (.instanceMethod y) ∧ inT (.selects y.cls y y) ∧ s_okm y As.length ∧ s_cat st' ∧ s_bud κ κ1 κ2 ∧ C y κ1 (.ref b :: As) w (fun r w' => I (pc + 3) ls (r.toList ++ st') w' κ2)
def s_sc (C : sC) (M : sM) (I : sI) (k pc : Nat) (ls : List (Option Value)) (st : List Value) (w : sW) (κ : Nat × Nat) : Prop := ∃ (y : MethodName) (As st' : List Value) (κ1 κ2 : Nat × Nat), st = As.reverse ++ st' ∧ s_lnk M.1.cls k y ∧ inT (.static y) ∧ s_okm y As.length ∧ s_cat st' ∧ s_bud κ κ1 κ2 ∧ C y κ1 As w (fun r w' => I (pc + 3) ls (r.toList ++ st') w' κ2)
def s_ic (C : sC) (M : sM) (I : sI) (k pc : Nat) (ls : List (Option Value)) (st : List Value) (w : sW) (κ : Nat × Nat) : Prop := ∃ (y : MethodName) (As : List Value) (b : Nat) (st' : List Value) (κ1 κ2 : Nat × Nat), st = As.reverse ++ .ref b :: st' ∧ y.name = "<init>" ∧ s_lnk M.1.cls k y ∧ inT (.instanceMethod y) ∧ s_okm y As.length ∧ s_cat st' ∧ s_bud κ κ1 κ2 ∧ C y κ1 (.ref b :: As) w (fun r w' => I (pc + 3) ls st' w' κ2 ∧ r = none)
/-- System.arraycopy over two rows of ints -/
def s_ac (G : sG) (M : sM) (I : sI) (k pc : Nat) (ls : List (Option Value)) (st : List Value) (w : sW) (κ : Nat × Nat) : Prop := ∃ (a0 a n0 n1 : Nat) (f g : Nat → Int32) (sp dp n : Nat) (st' : List Value), st = .int (nI n) :: .int (nI dp) :: .ref a :: .int (nI sp) :: .ref a0 :: st' ∧ w.1 a0 = aI G n0 f ∧ w.1 a = aI G n1 g ∧ inT (.methodLink M.1.cls k arraycopyName) ∧ sp + n ≤ n0 ∧ dp + n ≤ n1 ∧ n0 < 1000 ∧ n1 < 1000 ∧ s_cat st' ∧ I (pc + 3) ls st' (s_up w a (aI G n1 (va_cpy f g sp dp n))) κ

/-- Math.max, Math.min -/
def s_mx (M : sM) (I : sI) (k pc : Nat) (ls : List (Option Value)) (st : List Value) (w : sW) (κ : Nat × Nat) : Prop := ∃ (x y : Int32) (st' : List Value), st = .int y :: .int x :: st' ∧ s_cat st' ∧ ((inT (.methodLink M.1.cls k Lib.Math.max.name) ∧ I (pc + 3) ls (.int (if x < y then y else x) :: st') w κ) ∨ (inT (.methodLink M.1.cls k Lib.Math.min.name) ∧ I (pc + 3) ls (.int (if y < x then y else x) :: st') w κ))
def s_ins (G : sG) (C : sC) (M : sM) (P : sQ) (I : sI) (i : Jvm.ClassFile.Instr) (len pc : Nat) (ls : List (Option Value)) (st : List Value) (w : sW) (κ : Nat × Nat) : Prop := match i with
  | .iconst n => len = 1 ∧ I (pc + 1) ls (.int (Int32.ofInt n) :: st) w κ
  | .bipush n => len = 2 ∧ I (pc + 2) ls (.int (Int8.ofInt n).toInt32 :: st) w κ
  | .sipush n => len = 3 ∧ I (pc + 3) ls (.int (Int16.ofInt n).toInt32 :: st) w κ
  | .lconst n => len = 1 ∧ I (pc + 1) ls (.long (Int64.ofNat (n : Nat)) :: st) w κ
  | .ldc k => len = 2 ∧ ∃ v : Int32, inT (.constant M.1.cls k v) ∧ I (pc + 2) ls (.int v :: st) w κ
  | .ldc_w k => len = 3 ∧ ∃ v : Int32, inT (.constant M.1.cls k v) ∧ I (pc + 3) ls (.int v :: st) w κ
  | .ldc2_w k => len = 3 ∧ ∃ v : Int64, inT (.constantLong M.1.cls k v) ∧ I (pc + 3) ls (.long v :: st) w κ
  | .iload_n k => len = 1 ∧ ∃ x : Int32, ls[(k : Nat)]? = some (some (.int x)) ∧ I (pc + 1) ls (.int x :: st) w κ
  | .iload k => len = 2 ∧ ∃ x : Int32, ls[k]? = some (some (.int x)) ∧ I (pc + 2) ls (.int x :: st) w κ
  | .istore_n k => len = 1 ∧ ∃ (x : Int32) (st' : List Value), st = .int x :: st' ∧ s_st M ls (k : Nat) ∧ I (pc + 1) (ls.set (k : Nat) (some (.int x))) st' w κ
  | .istore k => len = 2 ∧ ∃ (x : Int32) (st' : List Value), st = .int x :: st' ∧ s_st M ls k ∧ I (pc + 2) (ls.set k (some (.int x))) st' w κ
  | .lload_n k => len = 1 ∧ ∃ x : Int64, ls[(k : Nat)]? = some (some (.long x)) ∧ I (pc + 1) ls (.long x :: st) w κ
  | .lload k => len = 2 ∧ ∃ x : Int64, ls[k]? = some (some (.long x)) ∧ I (pc + 2) ls (.long x :: st) w κ
  | .lstore_n k => len = 1 ∧ ∃ (x : Int64) (st' : List Value), st = .long x :: st' ∧ s_st M ls (k : Nat) ∧ M.2.2.2.2 = true ∧ (k : Nat) + 1 < M.2.2.1 ∧ I (pc + 1) ((ls.set (k : Nat) (some (.long x))).set ((k : Nat) + 1) none) st' w κ
  | .lstore k => len = 2 ∧ ∃ (x : Int64) (st' : List Value), st = .long x :: st' ∧ s_st M ls k ∧ M.2.2.2.2 = true ∧ k + 1 < M.2.2.1 ∧ I (pc + 2) ((ls.set k (some (.long x))).set (k + 1) none) st' w κ
  | .aload_n k => len = 1 ∧ ∃ x : Nat, ls[(k : Nat)]? = some (some (.ref x)) ∧ I (pc + 1) ls (.ref x :: st) w κ
  | .aload k => len = 2 ∧ ∃ x : Nat, ls[k]? = some (some (.ref x)) ∧ I (pc + 2) ls (.ref x :: st) w κ
  | .astore_n k => len = 1 ∧ ∃ (x : Nat) (st' : List Value), st = .ref x :: st' ∧ s_st M ls (k : Nat) ∧ I (pc + 1) (ls.set (k : Nat) (some (.ref x))) st' w κ
  | .astore k => len = 2 ∧ ∃ (x : Nat) (st' : List Value), st = .ref x :: st' ∧ s_st M ls k ∧ I (pc + 2) (ls.set k (some (.ref x))) st' w κ
  | .iinc k n => len = 3 ∧ ∃ x : Int32, ls[k]? = some (some (.int x)) ∧ s_st M ls k ∧ I (pc + 3) (ls.set k (some (.int (x + Int32.ofInt n)))) st w κ
  | .iadd => len = 1 ∧ ∃ (x y : Int32) (st' : List Value), st = .int y :: .int x :: st' ∧ I (pc + 1) ls (.int (x + y) :: st') w κ
  | .isub => len = 1 ∧ ∃ (x y : Int32) (st' : List Value), st = .int y :: .int x :: st' ∧ I (pc + 1) ls (.int (x - y) :: st') w κ
  | .imul => len = 1 ∧ ∃ (x y : Int32) (st' : List Value), st = .int y :: .int x :: st' ∧ I (pc + 1) ls (.int (x * y) :: st') w κ
  | .iand => len = 1 ∧ ∃ (x y : Int32) (st' : List Value), st = .int y :: .int x :: st' ∧ I (pc + 1) ls (.int (x &&& y) :: st') w κ
  | .ior => len = 1 ∧ ∃ (x y : Int32) (st' : List Value), st = .int y :: .int x :: st' ∧ I (pc + 1) ls (.int (x ||| y) :: st') w κ
  | .ixor => len = 1 ∧ ∃ (x y : Int32) (st' : List Value), st = .int y :: .int x :: st' ∧ I (pc + 1) ls (.int (x ^^^ y) :: st') w κ
  | .ishl => len = 1 ∧ ∃ (x y : Int32) (st' : List Value), st = .int y :: .int x :: st' ∧ I (pc + 1) ls (.int (x <<< (y &&& 31)) :: st') w κ
  | .ishr => len = 1 ∧ ∃ (x y : Int32) (st' : List Value), st = .int y :: .int x :: st' ∧ I (pc + 1) ls (.int (x >>> (y &&& 31)) :: st') w κ
  | .iushr => len = 1 ∧ ∃ (x y : Int32) (st' : List Value), st = .int y :: .int x :: st' ∧ I (pc + 1) ls (.int ((x.toUInt32 >>> (y.toUInt32 &&& Int32.toUInt32 31)).toInt32) :: st') w κ
  | .idiv => len = 1 ∧ ∃ (x y : Int32) (st' : List Value), st = .int y :: .int x :: st' ∧ ¬ y = 0 ∧ I (pc + 1) ls (.int (x / y) :: st') w κ
  | .irem => len = 1 ∧ ∃ (x y : Int32) (st' : List Value), st = .int y :: .int x :: st' ∧ ¬ y = 0 ∧ I (pc + 1) ls (.int (x - x / y * y) :: st') w κ
  | .ineg => len = 1 ∧ ∃ (x : Int32) (st' : List Value), st = .int x :: st' ∧ I (pc + 1) ls (.int (-x) :: st') w κ
  | .ladd => len = 1 ∧ ∃ (x y : Int64) (st' : List Value), st = .long y :: .long x :: st' ∧ I (pc + 1) ls (.long (x + y) :: st') w κ
  | .lsub => len = 1 ∧ ∃ (x y : Int64) (st' : List Value), st = .long y :: .long x :: st' ∧ I (pc + 1) ls (.long (x - y) :: st') w κ
  | .land => len = 1 ∧ ∃ (x y : Int64) (st' : List Value), st = .long y :: .long x :: st' ∧ I (pc + 1) ls (.long (x &&& y) :: st') w κ
  | .lor => len = 1 ∧ ∃ (x y : Int64) (st' : List Value), st = .long y :: .long x :: st' ∧ I (pc + 1) ls (.long (x ||| y) :: st') w κ
  | .lshl => len = 1 ∧ ∃ (x : Int64) (y : Int32) (st' : List Value), st = .int y :: .long x :: st' ∧ I (pc + 1) ls (.long (x <<< (y.toInt64 &&& 63)) :: st') w κ
  | .lushr => len = 1 ∧ ∃ (x : Int64) (y : Int32) (st' : List Value), st = .int y :: .long x :: st' ∧ I (pc + 1) ls (.long ((x.toUInt64 >>> (y.toInt64.toUInt64 &&& Int64.toUInt64 63)).toInt64) :: st') w κ
  | .lcmp => len = 1 ∧ ∃ (x y : Int64) (st' : List Value), st = .long y :: .long x :: st' ∧ I (pc + 1) ls (.int (lg_cmp x y) :: st') w κ
  | .i2l => len = 1 ∧ ∃ (x : Int32) (st' : List Value), st = .int x :: st' ∧ I (pc + 1) ls (.long x.toInt64 :: st') w κ
  | .l2i => len = 1 ∧ ∃ (x : Int64) (st' : List Value), st = .long x :: st' ∧ I (pc + 1) ls (.int x.toInt32 :: st') w κ
  | .i2c => len = 1 ∧ ∃ (x : Int32) (st' : List Value), st = .int x :: st' ∧ I (pc + 1) ls (.int (x.toUInt32 % 65536).toInt32 :: st') w κ
  | .dup => len = 1 ∧ ∃ (v : Value) (st' : List Value), st = v :: st' ∧ v.category = 1 ∧ I (pc + 1) ls (v :: v :: st') w κ
  | .dup2 => len = 1 ∧ ∃ (v u : Value) (st' : List Value), st = v :: u :: st' ∧ v.category = 1 ∧ u.category = 1 ∧ I (pc + 1) ls (v :: u :: v :: u :: st') w κ
  | .pop => len = 1 ∧ ∃ (v : Value) (st' : List Value), st = v :: st' ∧ v.category = 1 ∧ I (pc + 1) ls st' w κ
  | .ifCond o off => len = 3 ∧ ∃ (x : Int32) (st' : List Value) (tgt : Nat), st = .int x :: st' ∧ (pc : Int) + off = (tgt : Int) ∧ (s_cmp o x 0 → I tgt ls st' w κ) ∧ (¬ s_cmp o x 0 → I (pc + 3) ls st' w κ)
  | .if_icmp o off => len = 3 ∧ ∃ (x y : Int32) (st' : List Value) (tgt : Nat), st = .int y :: .int x :: st' ∧ (pc : Int) + off = (tgt : Int) ∧ (s_cmp o x y → I tgt ls st' w κ) ∧ (¬ s_cmp o x y → I (pc + 3) ls st' w κ)
  | .goto off => len = 3 ∧ ∃ tgt : Nat, (pc : Int) + off = (tgt : Int) ∧ I tgt ls st w κ
  | .tableswitch dflt lo hi offs => ∃ (x : Int32) (st' : List Value), st = .int x :: st' ∧ (((x.toInt < lo ∨ hi < x.toInt) ∧ ∃ tgt : Nat, (pc : Int) + dflt = (tgt : Int) ∧ I tgt ls st' w κ) ∨ (¬ x.toInt < lo ∧ ¬ hi < x.toInt ∧ ∃ (off : Int) (tgt : Nat), offs[(x.toInt - lo).toNat]? = some off ∧ (pc : Int) + off = (tgt : Int) ∧ I tgt ls st' w κ))
  | .getfield k => len = 3 ∧ ∃ (a : Nat) (st' : List Value) (ci : Nat) (fs : List Value) (j : Nat) (v : Value), st = .ref a :: st' ∧ w.1 a = ob ci fs ∧ fs[j]? = some v ∧ s_fl M.1.cls k ci j ∧ I (pc + 3) ls (v :: st') w κ
  | .putfield k => len = 3 ∧ ∃ (a : Nat) (v : Value) (st' : List Value) (ci : Nat) (fs : List Value) (j : Nat), st = v :: .ref a :: st' ∧ w.1 a = ob ci fs ∧ j < fs.length ∧ s_fs M k ci j v ∧ I (pc + 3) ls st' (s_up w a (ob ci (fs.set j v))) κ
  | .getstatic k => len = 3 ∧ inT (.fieldLink M.1.cls k "TropicRanks$Covers" "WITHOUT" "[J") ∧ I (pc + 3) ls (.ref (gW G) :: st) w κ
  | .arraylength => len = 1 ∧ ∃ st' : List Value, st = .ref (gb G) :: st' ∧ I (pc + 1) ls (.int (Int32.ofNat (gL G)) :: st') w κ
  | .iaload => len = 1 ∧ ∃ (a : Nat) (i : Int32) (st' : List Value), st = .int i :: .ref a :: st' ∧ ((∃ (n : Nat) (f : Nat → Int32), w.1 a = aI G n f ∧ vp_in i n ∧ I (pc + 1) ls (.int (f i.toNatClampNeg) :: st') w κ) ∨ (a = gb G ∧ vp_in i (gL G) ∧ I (pc + 1) ls (.int (gx G i.toNatClampNeg) :: st') w κ))
  | .iastore => len = 1 ∧ ∃ (a : Nat) (i x : Int32) (st' : List Value) (n : Nat) (f : Nat → Int32), st = .int x :: .int i :: .ref a :: st' ∧ w.1 a = aI G n f ∧ vp_in i n ∧ I (pc + 1) ls st' (s_up w a (aI G n (upd f i.toNatClampNeg x))) κ
  | .laload => len = 1 ∧ ∃ (a : Nat) (i : Int32) (st' : List Value), st = .int i :: .ref a :: st' ∧ ((∃ (n : Nat) (f : Nat → Int64), w.1 a = aJ G n f ∧ vp_in i n ∧ I (pc + 1) ls (.long (f i.toNatClampNeg) :: st') w κ) ∨ (a = gW G ∧ vp_in i 6 ∧ I (pc + 1) ls (.long (wW i.toNatClampNeg) :: st') w κ))
  | .lastore => len = 1 ∧ ∃ (a : Nat) (i : Int32) (x : Int64) (st' : List Value) (n : Nat) (f : Nat → Int64), st = .long x :: .int i :: .ref a :: st' ∧ w.1 a = aJ G n f ∧ vp_in i n ∧ I (pc + 1) ls st' (s_up w a (aJ G n (vp_updL f i.toNatClampNeg x))) κ
  | .caload => len = 1 ∧ ∃ (a : Nat) (i : Int32) (st' : List Value) (n : Nat) (f : Nat → Int32), st = .int i :: .ref a :: st' ∧ w.1 a = aC G n f ∧ vp_in i n ∧ I (pc + 1) ls (.int (f i.toNatClampNeg) :: st') w κ
  | .castore => len = 1 ∧ ∃ (a : Nat) (i x : Int32) (st' : List Value) (n : Nat) (f : Nat → Int32), st = .int x :: .int i :: .ref a :: st' ∧ w.1 a = aC G n f ∧ vp_in i n ∧ I (pc + 1) ls st' (s_up w a (aC G n (upd f i.toNatClampNeg (vp_nar .char x)))) κ
  | .baload => len = 1 ∧ ∃ (a : Nat) (i : Int32) (st' : List Value) (n : Nat) (f : Nat → Int32), st = .int i :: .ref a :: st' ∧ w.1 a = aZ G n f ∧ vp_in i n ∧ I (pc + 1) ls (.int (f i.toNatClampNeg) :: st') w κ
  | .bastore => len = 1 ∧ ∃ (a : Nat) (i x : Int32) (st' : List Value) (n : Nat) (f : Nat → Int32), st = .int x :: .int i :: .ref a :: st' ∧ w.1 a = aZ G n f ∧ vp_in i n ∧ I (pc + 1) ls st' (s_up w a (aZ G n (upd f i.toNatClampNeg (vp_nar .boolean x)))) κ
  | .aaload => len = 1 ∧ ∃ (a : Nat) (i : Int32) (st' : List Value) (t n : Nat) (f : Nat → Option Nat), st = .int i :: .ref a :: st' ∧ w.1 a = aQ G t n f ∧ (t = 4 ∨ t = 5) ∧ vp_in i n ∧ I (pc + 1) ls (va_rf (f i.toNatClampNeg) :: st') w κ
  | .aastore => len = 1 ∧ ∃ (a v : Nat) (i : Int32) (st' : List Value) (t n : Nat) (f : Nat → Option Nat) (ci : Nat) (fs : List Value), st = .ref v :: .int i :: .ref a :: st' ∧ w.1 a = aQ G t n f ∧ w.1 v = ob ci fs ∧ ((t = 4 ∧ ci = 1) ∨ (t = 5 ∧ ci = 6)) ∧ vp_in i n ∧ I (pc + 1) ls st' (s_up w a (aQ G t n (va_up f i.toNatClampNeg (some v)))) κ
  | .new k => len = 3 ∧ ∃ (ci : Nat) (C : String) (T : u_T) (N : Nat) (fs : List Value) (ty : Nat → FieldType), vwCl[ci]? = some (C, T, N) ∧ inT (.classLink M.1.cls k C) ∧ inT (.instantiable C N) ∧ inT (.initialized C) ∧ (∀ j, j < N → parseFieldDescriptor (T j).2.2.1 = some (ty j)) ∧ (∀ j, j < N → defaultValue (ty j) = vp_V fs j) ∧ 1 ≤ κ.1 ∧ N ≤ κ.2 ∧ I (pc + 3) ls (.ref (gB G + w.2) :: st) (s_new w (gB G + w.2) (ob ci fs)) (κ.1 - 1, κ.2 - N)
  | .newarray t => len = 2 ∧ ∃ (n : Nat) (st' : List Value) (e : va_E), st = .int (nI n) :: st' ∧ n < 10000 ∧ ((t = .int ∧ e = aI G n (fun _ => 0)) ∨ (t = .long ∧ e = aJ G n (fun _ => 0)) ∨ (t = .char ∧ e = aC G n (fun _ => 0)) ∨ (t = .boolean ∧ e = aZ G n (fun _ => 0))) ∧ 1 ≤ κ.1 ∧ n ≤ κ.2 ∧ I (pc + 2) ls (.ref (gB G + w.2) :: st') (s_new w (gB G + w.2) e) (κ.1 - 1, κ.2 - n)
  | .anewarray k => len = 3 ∧ ∃ (n : Nat) (st' : List Value) (t : Nat) (C : String), st = .int (nI n) :: st' ∧ n < 10000 ∧ ((t = 4 ∧ C = "TropicRanks$Grid") ∨ (t = 5 ∧ C = "TropicRanks$State")) ∧ inT (.classLink M.1.cls k C) ∧ 1 ≤ κ.1 ∧ n ≤ κ.2 ∧ I (pc + 3) ls (.ref (gB G + w.2) :: st') (s_new w (gB G + w.2) (aQ G t n (fun _ => none))) (κ.1 - 1, κ.2 - n)
  | .invokevirtual k => len = 3 ∧ s_vc G C M I k pc ls st w κ
  | .invokestatic k => len = 3 ∧ (s_sc C M I k pc ls st w κ ∨ s_ac G M I k pc ls st w κ ∨ s_mx M I k pc ls st w κ)
  | .invokespecial k => len = 3 ∧ ((∃ (a : Nat) (st' : List Value), st = .ref a :: st' ∧ s_cat st' ∧ inT (.methodLink M.1.cls k objectInit) ∧ I (pc + 3) ls st' w κ) ∨ s_ic C M I k pc ls st w κ)
  | .ireturn => len = 1 ∧ ∃ (v : Int32) (ty : FieldType), st = [.int v] ∧ M.2.2.2.1 = some ty ∧ narrow ty (.int v) = .int v ∧ P (some (.int v)) w
  | .return_ => len = 1 ∧ st = [] ∧ M.2.2.2.1 = none ∧ P none w
  | _ => False
def s_step (G : sG) (C : sC) (M : sM) (P : sQ) (I : sI) (pc : Nat) (ls : List (Option Value)) (st : List Value) (w : sW) (κ : Nat × Nat) : Prop := ∃ (i : Jvm.ClassFile.Instr) (len : Nat), decode M.2.1 pc = .ok (i, len) ∧ s_ins G C M P I i len pc ls st w κ
def wpF (G : sG) (C : sC) (M : sM) (P : sQ) : sI := fun pc ls st w κ => ∀ I : sI, (∀ pc ls st w κ, s_step G C M P I pc ls st w κ → I pc ls st w κ) → I pc ls st w κ
def s_ent (vs : List Value) : List (Option Value) := vs.flatMap fun v => if v.category = 2 then [some v, none] else [some v]
def s_loc (vs : List Value) (n : Nat) : List (Option Value) := s_ent vs ++ List.replicate (n - (s_ent vs).length) none
def wpM (G : sG) : Nat → sC
  | 0 => fun _ _ _ _ _ => False
  | d + 1 => fun y κ vs w P => ∃ (cc : ByteArray) (maxL : Nat) (ret : Option FieldType) (lg : Bool), inT (.code y cc maxL ret) ∧ plainName y.cls = true ∧ (s_ent vs).length ≤ maxL ∧ maxL ≤ 40 ∧ (lg = false → ∀ v ∈ vs, v.category = 1) ∧ (y.name = "<init>" → ret = none) ∧ wpF G (wpM G d) (y, cc, maxL, ret, lg) P 0 (s_loc vs maxL) [] w κ
abbrev wp (G : sG) (d : Nat) (M : sM) (P : sQ) : sI := wpF G (wpM G d) M P
theorem s_ins_P {G : sG} {C : sC} {M : sM} {P P' : sQ} {I : sI} {i : Jvm.ClassFile.Instr} {len pc : Nat} {ls : List (Option Value)} {st : List Value} {w : sW} {κ : Nat × Nat} (hP : ∀ r w, P r w → P' r w) (h : s_ins G C M P I i len pc ls st w κ) : s_ins G C M P' I i len pc ls st w κ := by
  cases i <;> first | exact h | (obtain ⟨h1, v, ty, h2, h3, h4, h5⟩ := h; exact ⟨h1, v, ty, h2, h3, h4, hP _ _ h5⟩) | (obtain ⟨h1, h2, h3, h4⟩ := h; exact ⟨h1, h2, h3, hP _ _ h4⟩)
theorem wpF_mono {G : sG} {C : sC} {M : sM} {P P' : sQ} {pc : Nat} {ls : List (Option Value)} {st : List Value} {w : sW} {κ : Nat × Nat} (hP : ∀ r w, P r w → P' r w) (h : wpF G C M P pc ls st w κ) : wpF G C M P' pc ls st w κ :=
  fun I hI => h I fun _ _ _ _ _ ⟨i, len, h1, h2⟩ => hI _ _ _ _ _ ⟨i, len, h1, s_ins_P hP h2⟩
theorem wpM_mono {G : sG} {d : Nat} {y : MethodName} {κ : Nat × Nat} {vs : List Value} {w : sW} {P P' : sQ} (hP : ∀ r w, P r w → P' r w) (h : wpM G d y κ vs w P) : wpM G d y κ vs w P' := by
  cases d with
  | zero => exact h
  | succ d =>
    obtain ⟨cc, maxL, ret, lg, h1, h2, h3, h4, h5, h7, h6⟩ := h
    exact ⟨cc, maxL, ret, lg, h1, h2, h3, h4, h5, h7, wpF_mono hP h6⟩
theorem wp_i {G : sG} {C : sC} {M : sM} {P : sQ} {pc : Nat} {ls : List (Option Value)} {st : List Value} {w : sW} {κ : Nat × Nat} {i : Jvm.ClassFile.Instr} {len : Nat} (hd : decode M.2.1 pc = .ok (i, len)) (h : ∀ I : sI, (∀ pc ls st w κ, wpF G C M P pc ls st w κ → I pc ls st w κ) → s_ins G C M P I i len pc ls st w κ) : wpF G C M P pc ls st w κ :=
  fun I hI => hI _ _ _ _ _ ⟨i, len, hd, h I (fun _ _ _ _ _ hw => hw I hI)⟩
