def x_rm (i d : Nat) : Room := { frames := d, cells := x_mc i, slots := x_ms i, locals := 64 * d }
def x_wd (i : Nat) : List Cond := .code (x_y i) (x_bc i) (x_ml i) (x_rt i) :: x_gd
/-- what holds in a frame of method i: the machine, its code, the tables' words, what it may change, the constants -/
def x_C (SI : Nat → Option (Nat × (Nat → Int32))) (i : Nat) (p : Program) (s : State) (m : MethodId) (args : Array Value) (meth : Method) (c : Code) (A : Nat → Prop) (ad0 : Nat → Nat) : Prop :=
  p.tables.exec = Jvm.exec ∧ c.code = x_bc i ∧ c.maxLocals = x_ml i ∧ s.vm.findClass (x_own i) = some m.cls ∧ (∀ w ∈ x_gd, w.before args s = true) ∧ x_Nw s ∧ meth.sig.returnType = x_rt i ∧ meth.locks = false ∧ meth.name = (x_y i).name ∧ (∀ q, s.heap.size ≤ q → A q) ∧ x_Z SI A ad0 s s.heap
abbrev xK : Type := Nat → List (Option Value) → List Value → xH → Nat → Nat → Prop
abbrev xQ : Type := List Frame → Array Value → State → va_G → (Nat → Prop) → List Nat → (Nat → Nat) → State → Prop
/-- THE JUDGEMENT: at pc, with these locals, this stack, this heap, so many cells and slots made, the machine comes to its end -/
def x_G (SI : Nat → Option (Nat × (Nat → Int32))) (i : Nat) (R : Room) (QQ : xQ) : xK := fun pc lv st h cs ss =>
  ∀ (l : Launch) (p : Program) (e : Env) (s : State) (m : MethodId) (args : Array Value) (below : List Frame) (meth : Method) (c : Code) (D : va_G) (A : Nat → Prop) (dm0 : List Nat) (ad0 : Nat → Nat), x_C SI i p s m args meth c A ad0 →
  ∀ (ad : Nat → Nat) (ac : Nat → ClassId) (H : Heap) (locs : List Loc) (ls : Array Slot), x_Rep D A ad ac h s H → (∀ k, x_in1 dm0 k → ad k = ad0 k) → (∀ k ∈ dm0, k ∈ x_d h) → cs ≤ R.cells → ss ≤ R.slots → va_S A s.heap H locs → x_L (x_ml i) ad lv ls → x_okS (x_d h) st → x_okL (x_d h) lv →
  W p l e R s m args below meth c H locs cs ss (QQ below args s D A dm0 ad0) (F0 m pc ls (st.map (x_cv ad)))
def x_Pre (D : va_G) (ad : Nat → Nat) (ac : Nat → ClassId) (h : xH) (As : List Value) (A : Nat → Prop) (U : State) : Prop := x_Rep D (fun _ => True) ad ac h U U.heap ∧ x_okS (x_d h) As ∧ x_Nw U ∧ x_Z x_SI A ad U U.heap
def x_Q (Post : Option Value → xH → Prop) (D : va_G) (A : Nat → Prop) (dm0 : List Nat) (ad0 : Nat → Nat) : Array Value → State → Outcome → State → Prop := fun _ st oc t =>
  (∃ (r : Option Value) (h' : xH) (ad' : Nat → Nat) (ac' : Nat → ClassId), oc = .returned (r.map (x_cv ad')) ∧ Post r h' ∧ x_Rep D A ad' ac' h' t t.heap ∧ (∀ k, x_in1 dm0 k → ad' k = ad0 k) ∧ (∀ k ∈ dm0, k ∈ x_d h') ∧ (∀ v, r = some v → x_ok1 (x_d h') v)) ∧ va_F A st t
/-- A METHOD's CONTRACT: called with As on the heap h it returns, and Post holds of its answer and the heap then -/
def x_Ct (i d : Nat) (As : List Value) (h : xH) (Post : Option Value → xH → Prop) : Prop := ∀ (l : Launch) (D : va_G) (ad : Nat → Nat) (ac : Nat → ClassId) (sz : Nat),
  Met l (x_y i) (x_wd i) (x_rm i d) (va_Pc (As.map (x_cv ad)) (fun U => U.heap.size = sz ∧ x_Pre D ad ac h As (va_A (x_ws ad ac h) sz) U)) (x_Q Post D (va_A (x_ws ad ac h) sz) (x_d h) ad) (x_mc i) (x_ms i) (va_A (x_ws ad ac h) sz)
def x_QQ (i : Nat) (Post : Option Value → xH → Prop) : xQ := fun below args s D A dm0 ad0 => MQ below (x_Q Post D A dm0 ad0) args s (x_mc i) (x_ms i) A
/-! evaluation -/
def x_b (b : Bool) (P : Prop) : Prop := match b with
  | true => P
  | false => False
def x_opt {α : Type} (o : Option α) (k : α → Prop) : Prop := match o with
  | some x => k x
  | none => False
def x_s1 (st : List Value) (k : Int32 → List Value → Prop) : Prop := match st with
  | .int x :: r => k x r
  | _ => False
def x_s2 (st : List Value) (k : Int32 → Int32 → List Value → Prop) : Prop := match st with
  | .int y :: .int x :: r => k x y r
  | _ => False
def x_j1 (st : List Value) (k : Int64 → List Value → Prop) : Prop := match st with
  | .long x :: r => k x r
  | _ => False
def x_j2 (st : List Value) (k : Int64 → Int64 → List Value → Prop) : Prop := match st with
  | .long y :: .long x :: r => k x y r
  | _ => False
def x_ij (st : List Value) (k : Int64 → Int32 → List Value → Prop) : Prop := match st with
  | .int y :: .long x :: r => k x y r
  | _ => False
def x_a1 (st : List Value) (k : Nat → List Value → Prop) : Prop := match st with
  | .ref x :: r => k x r
  | _ => False
def x_ai (st : List Value) (k : Nat → Int32 → List Value → Prop) : Prop := match st with
  | .int j :: .ref x :: r => k x j r
  | _ => False
def x_aii (st : List Value) (k : Nat → Int32 → Int32 → List Value → Prop) : Prop := match st with
  | .int v :: .int j :: .ref x :: r => k x j v r
  | _ => False
def x_aij (st : List Value) (k : Nat → Int32 → Int64 → List Value → Prop) : Prop := match st with
  | .long v :: .int j :: .ref x :: r => k x j v r
  | _ => False
def x_aia (st : List Value) (k : Nat → Int32 → Nat → List Value → Prop) : Prop := match st with
  | .ref v :: .int j :: .ref x :: r => k x j v r
  | _ => False
def x_aj (st : List Value) (k : Nat → Int64 → List Value → Prop) : Prop := match st with
  | .long v :: .ref x :: r => k x v r
  | _ => False
def x_aa (st : List Value) (k : Nat → Nat → List Value → Prop) : Prop := match st with
  | .ref v :: .ref x :: r => k x v r
  | _ => False
def x_acp (st : List Value) (k : Nat → Int32 → Nat → Int32 → Int32 → List Value → Prop) : Prop := match st with
  | .int n :: .int dp :: .ref k1 :: .int sp :: .ref k0 :: r => k k0 sp k1 dp n r
  | _ => False
def x_ldI (lv : List (Option Value)) (k : Nat) (f : Int32 → Prop) : Prop := match lv[k]? with
  | some (some (.int x)) => f x
  | _ => False
def x_ldL (lv : List (Option Value)) (k : Nat) (f : Int64 → Prop) : Prop := match lv[k]? with
  | some (some (.long x)) => f x
  | _ => False
def x_ldA (lv : List (Option Value)) (k : Nat) (f : Nat → Prop) : Prop := match lv[k]? with
  | some (some (.ref x)) => f x
  | _ => False
def x_v1 (st : List Value) (k : Value → List Value → Prop) : Prop := match st with
  | v :: r => x_b (v.category == 1) (k v r)
  | _ => False
def x_v2 (st : List Value) (k : Value → Value → List Value → Prop) : Prop := match st with
  | v :: w :: r => x_b (v.category == 1 && w.category == 1) (k v w r)
  | _ => False
def x_br (c : ClassFile.Cond) (x y : Int32) (T F : Prop) : Prop := match c with
  | .eq => (x = y → T) ∧ (¬ x = y → F)
  | .ne => (¬ x = y → T) ∧ (x = y → F)
  | .lt => (x < y → T) ∧ (¬ x < y → F)
  | .ge => (y ≤ x → T) ∧ (¬ y ≤ x → F)
  | .gt => (y < x → T) ∧ (¬ y < x → F)
  | .le => (x ≤ y → T) ∧ (¬ x ≤ y → F)
def x_ix (j : Int32) (N : Nat) : Prop := 0 ≤ j.toInt ∧ j.toInt < N
def x_cp (sp dp n : Int32) (n0 n1 : Nat) : Prop := 0 ≤ sp.toInt ∧ 0 ≤ dp.toInt ∧ 0 ≤ n.toInt ∧ sp.toInt + n.toInt ≤ n0 ∧ dp.toInt + n.toInt ≤ n1
def x_pb (ty : FieldType) (x : Int32) (P : Prop) : Prop := match ty with
  | .int => P
  | .boolean => (x = 0 ∨ x = 1) ∧ P
  | _ => False
def x_tsw (pc : Nat) (x : Int32) (lo : Int) (os : List Int) (k : Nat → Prop) : Prop := match os with
  | [] => True
  | o :: r => (x.toInt = lo → k ((pc : Int) + o).toNat) ∧ x_tsw pc x (lo + 1) r k
def x_at (t : ArrayType) : Nat := match t with
  | .int => 100
  | .long => 101
  | .byte => 102
  | .boolean => 103
  | _ => 99
def x_stk (a : Nat) (st : List Value) : Bool := decide (x_na a ≤ st.length) && (decide (((st.drop (x_na a)).map fun v => v.category).sum ≤ 8) && (match x_kd a with
  | 1 => true
  | 2 => match (st.take (x_na a)).reverse with
    | .ref _ :: _ => true
    | _ => false
  | _ => match (st.take (x_na a)).reverse with
    | .ref k :: _ => (x_SH k).1 == x_ow a
    | _ => false))
def x_cal (d : Nat) (R : Room) (pc a : Nat) (lv : List (Option Value)) (st : List Value) (h : xH) (cs ss : Nat) (nx : xK) : Prop := match d with
  | 0 => False
  | d + 1 => ∃ P : Option Value → xH → Prop, x_Ct a d (st.take (x_na a)).reverse h P ∧ x_b (x_stk a st) (cs + x_mc a ≤ R.cells ∧ ss + x_ms a ≤ R.slots) ∧ ∀ (r : Option Value) (h' : xH), P r h' → nx (pc + 3) lv (r.toList ++ st.drop (x_na a)) h' (cs + x_mc a) (ss + x_ms a)
def x_new0 (h : xH) : xH := (va_up (x_i h) (x_n h) (fun _ => 0), va_up (x_l h) (x_n h) (fun _ => 0), va_up (x_r h) (x_n h) (fun _ => none), x_d h ++ [x_n h], x_n h + 1)
def x_dd (d : Nat) (st : List Value) (P : Prop) : Prop := match d with
  | 0 => False
  | _ + 1 => x_b (decide ((st.map fun v => v.category).sum ≤ 8)) P
/-- the locals' list, made a plain one before it is handed on -/
def x_fl : List (Option Value) → (List (Option Value) → Prop) → Prop
  | [], k => k []
  | a :: l, k => x_fl l (fun l' => k (a :: l'))
/-- the heap's five pieces, taken apart before it is handed on -/
def x_fh (h : xH) (k : (Nat → Nat → Int32) → (Nat → Nat → Int64) → (Nat → Nat → Option Nat) → List Nat → Nat → Prop) : Prop := match h with
  | (f, g, q, m, n) => k f g q m n
def x_jdk (d : Nat) (a pc : Nat) (lv : List (Option Value)) (st : List Value) (h : xH) (cs ss : Nat) (nx : xK) : Prop := match a with
  | 1 => x_s2 st (fun x y r => x_dd d r (nx (pc + 3) lv (.int (if x < y then y else x) :: r) h cs ss))
  | 2 => x_s2 st (fun x y r => x_dd d r (nx (pc + 3) lv (.int (if y < x then y else x) :: r) h cs ss))
  | 3 => x_j2 st (fun x y r => x_dd d r (nx (pc + 3) lv (.long (if y < x then x else y) :: r) h cs ss))
  | 4 => x_j2 st (fun x y r => x_dd d r (nx (pc + 3) lv (.long (if y < x then y else x) :: r) h cs ss))
  | 5 => x_acp st (fun k0 sp k1 dp n r => x_dd d r (match x_SH k0, x_SH k1 with
    | (100, n0), (100, n1) => x_cp sp dp n n0 n1 ∧ x_fh h (fun f g q dm nn => nx (pc + 3) lv r (va_up (f) k1 (va_cpy (f k0) (f k1) sp.toNatClampNeg dp.toNatClampNeg n.toNatClampNeg), g, q, dm, nn) cs ss)
    | (101, n0), (101, n1) => x_cp sp dp n n0 n1 ∧ x_fh h (fun f g q dm nn => nx (pc + 3) lv r (f, va_up (g) k1 (va_cpy (g k0) (g k1) sp.toNatClampNeg dp.toNatClampNeg n.toNatClampNeg), q, dm, nn) cs ss)
    | _, _ => False))
  | _ => False
def x_d4 (d : Nat) (st : List Value) (P : Prop) : Prop := match d with
  | _ + 4 => x_b (decide ((st.map fun v => v.category).sum ≤ 8)) P
  | _ => False
/-- length(), charAt() of the model's text -/
def x_str (d : Nat) (a pc : Nat) (lv : List (Option Value)) (st : List Value) (h : xH) (cs ss : Nat) (nx : xK) : Prop := match a with
  | 1 => x_a1 st (fun k r => x_b (k == 1003) (x_d4 d r (nx (pc + 3) lv (.int 129 :: r) h cs ss)))
  | 2 => x_ai st (fun k j r => x_b (k == 1003) (x_d4 d r (x_ix j 129 ∧ nx (pc + 3) lv (.int (x_key.getD j.toNatClampNeg 0) :: r) h cs ss)))
  | _ => False
/-- one instruction: what must hold so that the machine goes on -/
def x_ins (SI : Nat → Option (Nat × (Nat → Int32))) (i d : Nat) (R : Room) (RT : Option Value → xH → Nat → Nat → Prop) (pc : Nat) (ins : Instr) (a b : Nat) (lv : List (Option Value)) (st : List Value) (h : xH) (cs ss : Nat) (nx jp : xK) : Prop := match ins with
  | .iconst n => nx (pc + 1) lv (.int (Int32.ofInt n) :: st) h cs ss
  | .bipush n => nx (pc + 2) lv (.int (Int8.ofInt n).toInt32 :: st) h cs ss
  | .sipush n => nx (pc + 3) lv (.int (Int16.ofInt n).toInt32 :: st) h cs ss
  | .lconst n => nx (pc + 1) lv (.long (Int64.ofNat (n : Nat)) :: st) h cs ss
  | .ldc ix => match a with
    | 1 => nx (pc + 2) lv (.ref 1003 :: st) h cs ss
    | _ => x_opt (x_kf (x_ow i) ix) (fun e => nx (pc + 2) lv (.int e.2.2.1 :: st) h cs ss)
  | .ldc_w ix => x_opt (x_kf (x_ow i) ix) (fun e => nx (pc + 3) lv (.int e.2.2.1 :: st) h cs ss)
  | .ldc2_w ix => x_opt (x_lf (x_ow i) ix) (fun e => nx (pc + 3) lv (.long e.2.2.1 :: st) h cs ss)
  | .iload k => x_ldI lv k (fun x => nx (pc + 2) lv (.int x :: st) h cs ss)
  | .iload_n k => x_ldI lv k (fun x => nx (pc + 1) lv (.int x :: st) h cs ss)
  | .lload k => x_ldL lv k (fun x => nx (pc + 2) lv (.long x :: st) h cs ss)
  | .lload_n k => x_ldL lv k (fun x => nx (pc + 1) lv (.long x :: st) h cs ss)
  | .aload k => x_ldA lv k (fun x => nx (pc + 2) lv (.ref x :: st) h cs ss)
  | .aload_n k => x_ldA lv k (fun x => nx (pc + 1) lv (.ref x :: st) h cs ss)
  | .istore k => x_s1 st (fun x r => x_b (decide (k < lv.length)) (x_fl (x_st1 lv k (.int x)) (fun lv' => nx (pc + 2) lv' r h cs ss)))
  | .istore_n k => x_s1 st (fun x r => x_b (decide ((k : Nat) < lv.length)) (x_fl (x_st1 lv k (.int x)) (fun lv' => nx (pc + 1) lv' r h cs ss)))
  | .lstore k => x_j1 st (fun x r => x_b (decide (k + 1 < lv.length)) (x_fl (x_st2 lv k (.long x)) (fun lv' => nx (pc + 2) lv' r h cs ss)))
  | .lstore_n k => x_j1 st (fun x r => x_b (decide ((k : Nat) + 1 < lv.length)) (x_fl (x_st2 lv k (.long x)) (fun lv' => nx (pc + 1) lv' r h cs ss)))
  | .astore k => x_a1 st (fun x r => x_b (decide (k < lv.length)) (x_fl (x_st1 lv k (.ref x)) (fun lv' => nx (pc + 2) lv' r h cs ss)))
  | .astore_n k => x_a1 st (fun x r => x_b (decide ((k : Nat) < lv.length)) (x_fl (x_st1 lv k (.ref x)) (fun lv' => nx (pc + 1) lv' r h cs ss)))
  | .iinc k n => x_ldI lv k (fun x => x_b (decide (k < lv.length)) (x_fl (x_st1 lv k (.int (x + Int32.ofInt n))) (fun lv' => nx (pc + 3) lv' st h cs ss)))
  | .iadd => x_s2 st (fun x y r => nx (pc + 1) lv (.int (x + y) :: r) h cs ss)
  | .isub => x_s2 st (fun x y r => nx (pc + 1) lv (.int (x - y) :: r) h cs ss)
  | .imul => x_s2 st (fun x y r => nx (pc + 1) lv (.int (x * y) :: r) h cs ss)
  | .iand => x_s2 st (fun x y r => nx (pc + 1) lv (.int (x &&& y) :: r) h cs ss)
  | .ior => x_s2 st (fun x y r => nx (pc + 1) lv (.int (x ||| y) :: r) h cs ss)
  | .ishl => x_s2 st (fun x y r => nx (pc + 1) lv (.int (x <<< (y &&& 31)) :: r) h cs ss)
  | .ishr => x_s2 st (fun x y r => nx (pc + 1) lv (.int (x >>> (y &&& 31)) :: r) h cs ss)
  | .idiv => x_s2 st (fun x y r => ¬ y = 0 ∧ nx (pc + 1) lv (.int (x / y) :: r) h cs ss)
  | .irem => x_s2 st (fun x y r => ¬ y = 0 ∧ nx (pc + 1) lv (.int (x - x / y * y) :: r) h cs ss)
  | .ineg => x_s1 st (fun x r => nx (pc + 1) lv (.int (-x) :: r) h cs ss)
  | .ladd => x_j2 st (fun x y r => nx (pc + 1) lv (.long (x + y) :: r) h cs ss)
  | .lsub => x_j2 st (fun x y r => nx (pc + 1) lv (.long (x - y) :: r) h cs ss)
  | .lmul => x_j2 st (fun x y r => nx (pc + 1) lv (.long (x * y) :: r) h cs ss)
  | .land => x_j2 st (fun x y r => nx (pc + 1) lv (.long (x &&& y) :: r) h cs ss)
  | .lor => x_j2 st (fun x y r => nx (pc + 1) lv (.long (x ||| y) :: r) h cs ss)
  | .ldiv => x_j2 st (fun x y r => ¬ y = 0 ∧ nx (pc + 1) lv (.long (x / y) :: r) h cs ss)
  | .lrem => x_j2 st (fun x y r => ¬ y = 0 ∧ nx (pc + 1) lv (.long (x - x / y * y) :: r) h cs ss)
  | .lshl => x_ij st (fun x y r => nx (pc + 1) lv (.long (x <<< (y.toInt64 &&& 63)) :: r) h cs ss)
  | .lshr => x_ij st (fun x y r => nx (pc + 1) lv (.long (x >>> (y.toInt64 &&& 63)) :: r) h cs ss)
  | .lcmp => x_j2 st (fun x y r => nx (pc + 1) lv (.int (lg_cmp x y) :: r) h cs ss)
  | .i2l => x_s1 st (fun x r => nx (pc + 1) lv (.long x.toInt64 :: r) h cs ss)
  | .l2i => x_j1 st (fun x r => nx (pc + 1) lv (.int x.toInt32 :: r) h cs ss)
  | .i2b => x_s1 st (fun x r => nx (pc + 1) lv (.int x.toInt8.toInt32 :: r) h cs ss)
  | .i2s => x_s1 st (fun x r => nx (pc + 1) lv (.int x.toInt16.toInt32 :: r) h cs ss)
  | .dup => x_v1 st (fun v r => nx (pc + 1) lv (v :: v :: r) h cs ss)
  | .pop => x_v1 st (fun _ r => nx (pc + 1) lv r h cs ss)
  | .dup2 => x_v2 st (fun v w r => nx (pc + 1) lv (v :: w :: v :: w :: r) h cs ss)
  | .goto _ => jp a lv st h cs ss
  | .ifCond c _ => x_s1 st (fun x r => x_br c x 0 (jp a lv r h cs ss) (nx (pc + 3) lv r h cs ss))
  | .if_icmp c _ => x_s2 st (fun x y r => x_br c x y (jp a lv r h cs ss) (nx (pc + 3) lv r h cs ss))
  | .tableswitch df lo hi os => x_s1 st (fun x r => x_tsw pc x lo os.toList (fun t => jp t lv r h cs ss) ∧ ((x.toInt < lo ∨ hi < x.toInt) → jp ((pc : Int) + df).toNat lv r h cs ss))
  | .getfield _ => x_a1 st (fun k r => x_b ((x_SH k).1 == a) (match x_tc (x_tys a b) with
    | 0 => nx (pc + 3) lv (.int (x_i h k b) :: r) h cs ss
    | 1 => nx (pc + 3) lv (.long (x_l h k b) :: r) h cs ss
    | _ => x_opt (x_r h k b) (fun q => nx (pc + 3) lv (.ref q :: r) h cs ss)))
  | .putfield _ => match x_tc (x_tys a b) with
    | 0 => x_ai st (fun k x r => x_b ((x_SH k).1 == a) (x_pb (x_tys a b) x (x_fh h (fun f g q dm nn => nx (pc + 3) lv r (x_up (f) k b x, g, q, dm, nn) cs ss))))
    | 1 => x_aj st (fun k x r => x_b ((x_SH k).1 == a) (x_fh h (fun f g q dm nn => nx (pc + 3) lv r (f, x_up (g) k b x, q, dm, nn) cs ss)))
    | _ => x_aa st (fun k v r => x_b ((x_SH k).1 == a) (x_fh h (fun f g q dm nn => nx (pc + 3) lv r (f, g, x_up (q) k b (some v), dm, nn) cs ss)))
  | .getstatic _ => nx (pc + 3) lv (.ref a :: st) h cs ss
  | .iaload => x_ai st (fun k j r => match x_SH k with
    | (100, N) => x_ix j N ∧ nx (pc + 1) lv (.int (x_i h k j.toNatClampNeg) :: r) h cs ss
    | _ => x_opt (SI k) (fun q => x_ix j q.1 ∧ nx (pc + 1) lv (.int (q.2 j.toNatClampNeg) :: r) h cs ss))
  | .baload => x_ai st (fun k j r => match x_SH k with
    | (102, N) => x_ix j N ∧ nx (pc + 1) lv (.int (x_i h k j.toNatClampNeg) :: r) h cs ss
    | (103, N) => x_ix j N ∧ nx (pc + 1) lv (.int (x_i h k j.toNatClampNeg) :: r) h cs ss
    | _ => False)
  | .laload => x_ai st (fun k j r => match x_SH k with
    | (101, N) => x_ix j N ∧ nx (pc + 1) lv (.long (x_l h k j.toNatClampNeg) :: r) h cs ss
    | _ => x_b (k == 1002) (x_ix j 25 ∧ nx (pc + 1) lv (.long (x_wds.getD j.toNatClampNeg 0) :: r) h cs ss))
  | .aaload => x_ai st (fun k j r => match x_SH k with
    | (c, N) => x_b (decide (110 ≤ c)) (x_ix j N ∧ x_opt (x_r h k j.toNatClampNeg) (fun q => nx (pc + 1) lv (.ref q :: r) h cs ss)))
  | .iastore => x_aii st (fun k j x r => match x_SH k with
    | (100, N) => x_ix j N ∧ x_fh h (fun f g q dm nn => nx (pc + 1) lv r (x_up (f) k j.toNatClampNeg x, g, q, dm, nn) cs ss)
    | _ => False)
  | .bastore => x_aii st (fun k j x r => match x_SH k with
    | (102, N) => x_ix j N ∧ x_fh h (fun f g q dm nn => nx (pc + 1) lv r (x_up (f) k j.toNatClampNeg x.toInt8.toInt32, g, q, dm, nn) cs ss)
    | (103, N) => x_ix j N ∧ x_fh h (fun f g q dm nn => nx (pc + 1) lv r (x_up (f) k j.toNatClampNeg (vp_nar .boolean x), g, q, dm, nn) cs ss)
    | _ => False)
  | .lastore => x_aij st (fun k j x r => match x_SH k with
    | (101, N) => x_ix j N ∧ x_fh h (fun f g q dm nn => nx (pc + 1) lv r (f, x_up (g) k j.toNatClampNeg x, q, dm, nn) cs ss)
    | _ => False)
  | .aastore => x_aia st (fun k j v r => match x_SH k with
    | (c, N) => x_b (decide (110 ≤ c) && (x_SH v).1 == c - 110) (x_ix j N ∧ x_fh h (fun f g q dm nn => nx (pc + 1) lv r (f, g, x_up (q) k j.toNatClampNeg (some v), dm, nn) cs ss)))
  | .arraylength => x_a1 st (fun k r => match x_SH k with
    | (c, N) => match decide (100 ≤ c) with
      | true => nx (pc + 1) lv (.int (Int32.ofNat N) :: r) h cs ss
      | false => match k with
        | 1002 => nx (pc + 1) lv (.int (Int32.ofNat 25) :: r) h cs ss
        | _ => x_opt (SI k) (fun q => nx (pc + 1) lv (.int (Int32.ofNat q.1) :: r) h cs ss))
  | .newarray t => x_s1 st (fun n r => (¬ n < 0 ∧ x_SH (x_n h) = (x_at t, n.toNatClampNeg) ∧ x_n h ∉ x_d h ∧ x_n h < 1000 ∧ n.toNatClampNeg ≤ 1000000) ∧ (cs + 1 ≤ R.cells ∧ ss + n.toNatClampNeg ≤ R.slots) ∧ nx (pc + 2) lv (.ref (x_n h) :: r) (x_new0 h) (cs + 1) (ss + n.toNatClampNeg))
  | .anewarray _ => x_s1 st (fun n r => (¬ n < 0 ∧ x_SH (x_n h) = (110 + a, n.toNatClampNeg) ∧ x_n h ∉ x_d h ∧ x_n h < 1000 ∧ n.toNatClampNeg ≤ 1000000) ∧ (cs + 1 ≤ R.cells ∧ ss + n.toNatClampNeg ≤ R.slots) ∧ nx (pc + 3) lv (.ref (x_n h) :: r) (x_new0 h) (cs + 1) (ss + n.toNatClampNeg))
  | .new _ => ((x_SH (x_n h)).1 = a ∧ x_n h ∉ x_d h ∧ x_n h < 1000) ∧ (cs + 1 ≤ R.cells ∧ ss + x_nF a ≤ R.slots) ∧ nx (pc + 3) lv (.ref (x_n h) :: st) (x_new0 h) (cs + 1) (ss + x_nF a)
  | .invokevirtual _ => match b with
    | 9 => x_str d a pc lv st h cs ss nx
    | _ => x_cal d R pc a lv st h cs ss nx
  | .invokestatic _ => match b with
    | 9 => x_jdk d a pc lv st h cs ss nx
    | _ => x_cal d R pc a lv st h cs ss nx
  | .invokespecial _ => match b with
    | 9 => x_a1 st (fun _ r => x_dd d r (nx (pc + 3) lv r h cs ss))
    | _ => x_cal d R pc a lv st h cs ss nx
  | .ireturn => match st with
    | [.int v] => RT (some (.int v)) h cs ss
    | _ => False
  | .lreturn => match st with
    | [.long v] => RT (some (.long v)) h cs ss
    | _ => False
  | .return_ => match st with
    | [] => RT none h cs ss
    | _ => False
  | _ => False
abbrev xE : Type := Nat × Instr × Nat × Nat
def x_in (SI : Nat → Option (Nat × (Nat → Int32))) (i d : Nat) (R : Room) (RT : Option Value → xH → Nat → Nat → Prop) (stops : List Nat) (jp K : xK) : List xE → xK
  | [], pc, lv, st, h, cs, ss => K pc lv st h cs ss
  | (ep, ins, a, b) :: r, pc, lv, st, h, cs, ss => match ep == pc with
    | true => x_ins SI i d R RT ep ins a b lv st h cs ss (fun pc' lv' st' h' cs' ss' => match stops.elem pc' with
      | true => K pc' lv' st' h' cs' ss'
      | false => x_in SI i d R RT stops jp K r pc' lv' st' h' cs' ss') jp
    | false => K pc lv st h cs ss
def x_seek (pc : Nat) : List xE → List xE
  | [] => []
  | e :: r => match e.1 == pc with
    | true => e :: r
    | false => x_seek pc r
/-- THE WEAKEST PRECONDITION from pc on, f jumps far, to the stops (loop heads) and the returns -/
def x_wp (SI : Nat → Option (Nat × (Nat → Int32))) (i d : Nat) (R : Room) (RT : Option Value → xH → Nat → Nat → Prop) (tab : List xE) (stops : List Nat) (K : xK) : Nat → xK
  | 0, pc, lv, st, h, cs, ss => K pc lv st h cs ss
  | f + 1, pc, lv, st, h, cs, ss => x_in SI i d R RT stops (fun pc' lv' st' h' cs' ss' => match stops.elem pc' with
    | true => K pc' lv' st' h' cs' ss'
    | false => x_wp SI i d R RT tab stops K f pc' lv' st' h' cs' ss') K (x_seek pc tab) pc lv st h cs ss
