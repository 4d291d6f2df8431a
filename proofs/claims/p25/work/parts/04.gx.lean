/-! The machine seen as a heap of known objects, by one rule an instruction (gS), and what a method's call is to do (gSafe). -/
abbrev gO : Type := (Nat × vp_A) ⊕ (Nat × List Value)
abbrev gH : Type := Nat → Option gO
def gU (h : gH) (a : Nat) (o : gO) : gH := fun q => if q = a then some o else h q
theorem gU_eq (h : gH) (a : Nat) (o : gO) : gU h a o a = some o := if_pos rfl
theorem gU_ne {h : gH} {a q : Nat} {o : gO} (n : q ≠ a) : gU h a o q = h q := if_neg n
theorem gU_gU (h : gH) (a : Nat) (o o' : gO) : gU (gU h a o) a o' = gU h a o' := by
  funext q
  by_cases e : q = a
  · subst e; rw [gU_eq, gU_eq]
  · rw [gU_ne e, gU_ne e, gU_ne e]
abbrev gL : Type := List (Option Value)
def gget (lv : gL) (i : Nat) : Option Value := match lv[i]? with
  | some (some v) => some v
  | _ => none
def gsetB (lv : gL) (j : Nat) (l2 : gL) : gL := match gget lv j with
  | some (.long _) => l2.set j none
  | some (.double _) => l2.set j none
  | _ => l2
def gset (lv : gL) (i : Nat) (v : Value) : gL := match i with
  | 0 => lv.set 0 (some v)
  | j + 1 => gsetB lv j (lv.set (j + 1) (some v))
def gset2 (lv : gL) (i : Nat) (v : Value) : gL := match i with
  | 0 => (lv.set 0 (some v)).set 1 none
  | j + 1 => gsetB lv j ((lv.set (j + 1) (some v)).set (j + 2) none)
/-- a method: its name, code, number of locals, answer's type, handlers (from, to, handler, class' number, class) -/
abbrev gM : Type := MethodName × ByteArray × Nat × Option FieldType × List (Nat × Nat × Nat × Nat × String)
abbrev gK : Type := Nat → gL → List Value → gH → Nat → Nat → Prop
abbrev gC : Type := gM → List Value → gH → Nat → Nat → (Option Value → gH → Prop) → (String → gH → Prop) → Prop
def gCnd : Jvm.ClassFile.Cond → Int32 → Int32 → Prop
  | .eq, x, y => x = y
  | .ne, x, y => ¬ x = y
  | .lt, x, y => x < y
  | .ge, x, y => y ≤ x
  | .gt, x, y => y < x
  | .le, x, y => x ≤ y
def gThr (y : gM) (X : String → gH → Prop) (K : gK) (pc : Nat) (lv : gL) (E : String) (h : gH) (bc bs : Nat) : Prop := X E h
/-- a row of the tables that stays good, or one of the few others that are carried along -/
def gNwK : Jvm.Cond → Bool
  | .fieldLinkNest .. => true
  | .methodLinkNest .. => true
  | .castable .. => true
  | .declares _ => true
  | _ => false
/-- a field by its number in a class' pool: which of the known classes, which field, its type, final or not -/
def gFL (own : String) (idx ci k : Nat) (ty : FieldType) (fin : Bool) : Prop := ∃ (C : String) (T : u_T) (N : Nat), vwCl[ci]? = some (C, T, N) ∧ k < N ∧ parseFieldDescriptor (T k).2.2.1 = some ty ∧ (T k).2.2.2 = fin ∧ (T k).1 = C ∧
  (Jvm.Cond.fieldLink own idx C (T k).2.1 (T k).2.2.1 ∈ lw_tbl ∨ ∃ host : String, Jvm.Cond.fieldLinkNest own idx C (T k).2.1 (T k).2.2.1 host ∈ lw_tbl)
/-- what the tables say of a method -/
def gOK (z : gM) : Prop := plainName z.1.cls = true ∧ Jvm.Cond.code z.1 z.2.1 z.2.2.1 z.2.2.2.1 ∈ lw_tbl ∧ Jvm.Cond.initialized z.1.cls ∈ lw_tbl ∧ (z.1.cls ≠ "java/lang/invoke/MethodHandle" ∧ z.1.cls ≠ "java/lang/invoke/VarHandle") ∧ z.2.2.1 ≤ 20 ∧ z.2.2.2.2 = []
def gNa (z : gM) (n : Nat) : Prop := (parseMethodDescriptor z.1.desc).map (fun d => d.parameters.length) = some n
def gLV (own : String) (idx : Nat) (z : gM) (n ci : Nat) : Prop := gOK z ∧ gNa z n ∧ Jvm.Cond.methodLink own idx z.1 ∈ lw_tbl ∧ Jvm.Cond.instanceMethod z.1 ∈ lw_tbl ∧ Jvm.Cond.selects z.1.cls z.1 z.1 ∈ lw_tbl ∧ ∃ (T : u_T) (N : Nat), vwCl[ci]? = some (z.1.cls, T, N)
def gLS (own : String) (idx : Nat) (z : gM) (n : Nat) : Prop := gOK z ∧ gNa z n ∧ Jvm.Cond.methodLink own idx z.1 ∈ lw_tbl ∧ Jvm.Cond.static z.1 ∈ lw_tbl
def gLI (own : String) (idx : Nat) (z : gM) (n : Nat) : Prop := gOK z ∧ gNa z n ∧ z.2.2.2.1 = none ∧ z.1.name = "<init>" ∧ Jvm.Cond.instanceMethod z.1 ∈ lw_tbl ∧ (Jvm.Cond.methodLink own idx z.1 ∈ lw_tbl ∨ ∃ host : String, Jvm.Cond.methodLinkNest own idx z.1 host ∈ lw_tbl)
def gExc : List String := ["java/lang/IndexOutOfBoundsException", "java/lang/IllegalArgumentException", "java/lang/IllegalStateException"]
def gNames : List String := ["java/lang/RuntimeException", "java/lang/Exception"]
/-- 'throw new E("text")' stands at pc -/
def gTN (y : gM) (pc ik : Nat) (E : String) : Prop := ∃ (is ic : Nat) (text : String), E ∈ gExc ∧ y.2.2.2.2 = [] ∧ decode y.2.1 (pc + 3) = .ok (.dup, 1) ∧ decode y.2.1 (pc + 4) = .ok (.ldc is, 2) ∧ decode y.2.1 (pc + 6) = .ok (.invokespecial ic, 3) ∧ decode y.2.1 (pc + 9) = .ok (.athrow, 1) ∧
  Jvm.Cond.classLink y.1.cls ik E ∈ lw_tbl ∧ Jvm.Cond.initialized E ∈ lw_tbl ∧ Jvm.Cond.stringRef y.1.cls is text ∈ lw_tbl ∧ (∀ w ∈ vx_atS y.1.cls ic E gNames, w ∈ lw_tbl ∧ (goodWord w = true ∨ gNwK w = true) ∧ vx_ot w = true) ∧ Bundle.fit E = true
/-- how long an instruction is -/
def gLen : Instr → Nat → Bool
  | .tableswitch .., _ => true
  | .iload _, n => n == 2
  | .lload _, n => n == 2
  | .dload _, n => n == 2
  | .aload _, n => n == 2
  | .istore _, n => n == 2
  | .lstore _, n => n == 2
  | .dstore _, n => n == 2
  | .astore _, n => n == 2
  | .bipush _, n => n == 2
  | .newarray _, n => n == 2
  | .sipush _, n => n == 3
  | .iinc .., n => n == 3
  | .ldc2_w _, n => n == 3
  | .getfield _, n => n == 3
  | .putfield _, n => n == 3
  | .goto _, n => n == 3
  | .ifCond .., n => n == 3
  | .if_icmp .., n => n == 3
  | .invokevirtual _, n => n == 3
  | .invokespecial _, n => n == 3
  | .invokestatic _, n => n == 3
  | .new _, n => n == 3
  | .anewarray _, n => n == 3
  | .ifnonnull _, n => n == 3
  | .ldc _, n => n == 2
  | .multianewarray .., n => n == 4
  | _, n => n == 1
/-- what an array's first contents are -/
def gNew : ArrayType → Option (Nat × ((Nat → Int32) ⊕ (Nat → Int64) ⊕ (Nat → UInt32) ⊕ (Nat → UInt64) ⊕ (Nat → Option Nat)))
  | .int => some (0, .inl (fun _ => 0))
  | .boolean => some (1, .inl (fun _ => 0))
  | _ => none
/-- an array of n arrays of k, in a row behind q: what the heap is with it -/
def gG2 (h : gH) (q t ti n k : Nat) : gH := fun p => if p = q then some (.inl (t, n, .inr (.inr (.inr (.inr (fun j => if j < n then some (q + 1 + j) else none)))))) else if q < p ∧ p ≤ q + n then some (.inl (ti, k, .inl (fun _ => 0))) else h p
/-- .. an array of n arrays of k arrays of l -/
def gG3 (h : gH) (q t tm ti n k l : Nat) : gH := fun p => if p = q then some (.inl (t, n, .inr (.inr (.inr (.inr (fun j => if j < n then some (q + 1 + j * (k + 1)) else none)))))) else if q < p ∧ p ≤ q + n * (k + 1) then (if (p - q - 1) % (k + 1) = 0 then some (.inl (tm, k, .inr (.inr (.inr (.inr (fun j => if j < k then some (p + 1 + j) else none)))))) else some (.inl (ti, l, .inl (fun _ => 0)))) else h p
/-- arrays of arrays that can be made: the class' name, the array, its parts -/
def gMN2 : String → Option (Nat × Nat)
  | "[[I" => some (2, 0)
  | "[[Z" => some (3, 1)
  | _ => none
def gCat (st : List Value) : Nat := (st.map fun v => v.category).sum
def gBegin (T : u_T) (N : Nat) (fs : List Value) : Prop := fs.length = N ∧ ∀ j : Nat, j < N → ∃ ty : FieldType, parseFieldDescriptor (T j).2.2.1 = some ty ∧ defaultValue ty = vp_V fs j
/-- ONE INSTRUCTION, backwards: from this place K holds, if it holds at all places to which the instruction may go on -/
def gS (call : gC) (y : gM) (d : Nat) (Post : Option Value → gH → Prop) (X : String → gH → Prop) (ro : Nat → Option (Nat × (Nat → Int32))) (K : gK) (i : Instr) (pc : Nat) (lv : gL) (st : List Value) (h : gH) (bc bs : Nat) : Prop :=
  match i with
  | .iload n => ∃ x, gget lv n = some (.int x) ∧ K (pc + 2) lv (.int x :: st) h bc bs
  | .iload_n n => ∃ x, gget lv n.val = some (.int x) ∧ K (pc + 1) lv (.int x :: st) h bc bs
  | .lload n => ∃ x, gget lv n = some (.long x) ∧ K (pc + 2) lv (.long x :: st) h bc bs
  | .lload_n n => ∃ x, gget lv n.val = some (.long x) ∧ K (pc + 1) lv (.long x :: st) h bc bs
  | .dload n => ∃ x, gget lv n = some (.double x) ∧ K (pc + 2) lv (.double x :: st) h bc bs
  | .aload n => ∃ x, gget lv n = some (.ref x) ∧ K (pc + 2) lv (.ref x :: st) h bc bs
  | .aload_n n => ∃ x, gget lv n.val = some (.ref x) ∧ K (pc + 1) lv (.ref x :: st) h bc bs
  | .istore n => ∃ x r, st = .int x :: r ∧ n < lv.length ∧ K (pc + 2) (gset lv n (.int x)) r h bc bs
  | .istore_n n => ∃ x r, st = .int x :: r ∧ n.val < lv.length ∧ K (pc + 1) (gset lv n.val (.int x)) r h bc bs
  | .lstore n => ∃ x r, st = .long x :: r ∧ n + 1 < lv.length ∧ K (pc + 2) (gset2 lv n (.long x)) r h bc bs
  | .lstore_n n => ∃ x r, st = .long x :: r ∧ n.val + 1 < lv.length ∧ K (pc + 1) (gset2 lv n.val (.long x)) r h bc bs
  | .dstore n => ∃ x r, st = .double x :: r ∧ n + 1 < lv.length ∧ K (pc + 2) (gset2 lv n (.double x)) r h bc bs
  | .astore n => ∃ x r, st = .ref x :: r ∧ n < lv.length ∧ K (pc + 2) (gset lv n (.ref x)) r h bc bs
  | .astore_n n => ∃ x r, st = .ref x :: r ∧ n.val < lv.length ∧ K (pc + 1) (gset lv n.val (.ref x)) r h bc bs
  | .iinc n k => ∃ x v, gget lv n = some (.int x) ∧ x + Int32.ofInt k = v ∧ n < lv.length ∧ K (pc + 3) (gset lv n (.int v)) st h bc bs
  | .iconst n => ∃ v, Int32.ofInt n = v ∧ K (pc + 1) lv (.int v :: st) h bc bs
  | .bipush n => ∃ v, (Int8.ofInt n).toInt32 = v ∧ K (pc + 2) lv (.int v :: st) h bc bs
  | .sipush n => ∃ v, (Int16.ofInt n).toInt32 = v ∧ K (pc + 3) lv (.int v :: st) h bc bs
  | .lconst n => ∃ v, Int64.ofNat (n : Nat) = v ∧ K (pc + 1) lv (.long v :: st) h bc bs
  | .dconst n => n = 0 ∧ K (pc + 1) lv (.double FP.dconst0 :: st) h bc bs
  | .ldc n => ∃ v, Jvm.Cond.constant y.1.cls n v ∈ lw_tbl ∧ K (pc + 2) lv (.int v :: st) h bc bs
  | .ldc2_w n => ∃ v, Jvm.Cond.constantLong y.1.cls n v ∈ lw_tbl ∧ K (pc + 3) lv (.long v :: st) h bc bs
  | .iadd => ∃ b a r, st = .int b :: .int a :: r ∧ K (pc + 1) lv (.int (a + b) :: r) h bc bs
  | .isub => ∃ b a r, st = .int b :: .int a :: r ∧ K (pc + 1) lv (.int (a - b) :: r) h bc bs
  | .imul => ∃ b a r, st = .int b :: .int a :: r ∧ K (pc + 1) lv (.int (a * b) :: r) h bc bs
  | .iand => ∃ b a r, st = .int b :: .int a :: r ∧ K (pc + 1) lv (.int (a &&& b) :: r) h bc bs
  | .ixor => ∃ b a r, st = .int b :: .int a :: r ∧ K (pc + 1) lv (.int (a ^^^ b) :: r) h bc bs
  | .idiv => ∃ b a r, st = .int b :: .int a :: r ∧ ¬ b = 0 ∧ K (pc + 1) lv (.int (a / b) :: r) h bc bs
  | .irem => ∃ b a r, st = .int b :: .int a :: r ∧ ¬ b = 0 ∧ K (pc + 1) lv (.int (a - a / b * b) :: r) h bc bs
  | .ishr => ∃ b a r, st = .int b :: .int a :: r ∧ K (pc + 1) lv (.int (a >>> (b &&& 31)) :: r) h bc bs
  | .ladd => ∃ b a r, st = .long b :: .long a :: r ∧ K (pc + 1) lv (.long (a + b) :: r) h bc bs
  | .lsub => ∃ b a r, st = .long b :: .long a :: r ∧ K (pc + 1) lv (.long (a - b) :: r) h bc bs
  | .lmul => ∃ b a r, st = .long b :: .long a :: r ∧ K (pc + 1) lv (.long (a * b) :: r) h bc bs
  | .land => ∃ b a r, st = .long b :: .long a :: r ∧ K (pc + 1) lv (.long (a &&& b) :: r) h bc bs
  | .lor => ∃ b a r, st = .long b :: .long a :: r ∧ K (pc + 1) lv (.long (a ||| b) :: r) h bc bs
  | .lxor => ∃ b a r, st = .long b :: .long a :: r ∧ K (pc + 1) lv (.long (a ^^^ b) :: r) h bc bs
  | .lshl => ∃ b a r, st = .int b :: .long a :: r ∧ K (pc + 1) lv (.long (a <<< (b.toInt64 &&& 63)) :: r) h bc bs
  | .lushr => ∃ b a r, st = .int b :: .long a :: r ∧ K (pc + 1) lv (.long (a.toUInt64 >>> (b.toInt64.toUInt64 &&& Int64.toUInt64 63)).toInt64 :: r) h bc bs
  | .lcmp => ∃ b a r, st = .long b :: .long a :: r ∧ K (pc + 1) lv (.int (lg_cmp a b) :: r) h bc bs
  | .i2l => ∃ a r, st = .int a :: r ∧ K (pc + 1) lv (.long a.toInt64 :: r) h bc bs
  | .l2i => ∃ a r, st = .long a :: r ∧ K (pc + 1) lv (.int a.toInt32 :: r) h bc bs
  | .i2d => ∃ a r, st = .int a :: r ∧ K (pc + 1) lv (.double (FP.i2d a) :: r) h bc bs
  | .ddiv => ∃ b a r, st = .double b :: .double a :: r ∧ vf_n64 (FP.ddiv a b) ∧ K (pc + 1) lv (.double (FP.ddiv a b) :: r) h bc bs
  | .dcmp op => ∃ b a r, st = .double b :: .double a :: r ∧ K (pc + 1) lv (.int (Op.cmpValue (FP.dcmp a b) op) :: r) h bc bs
  | .dup => ∃ v r, st = v :: r ∧ v.category = 1 ∧ K (pc + 1) lv (v :: v :: r) h bc bs
  | .dup2 => ∃ v w r, st = v :: w :: r ∧ v.category = 1 ∧ w.category = 1 ∧ K (pc + 1) lv (v :: w :: v :: w :: r) h bc bs
  | .pop => ∃ v r, st = v :: r ∧ v.category = 1 ∧ K (pc + 1) lv r h bc bs
  | .goto off => ∃ t : Nat, (pc : Int) + off = (t : Int) ∧ K t lv st h bc bs
  | .ifCond cn off => ∃ (x : Int32) (r : List Value) (t : Nat), st = .int x :: r ∧ (pc : Int) + off = (t : Int) ∧ (gCnd cn x 0 → K t lv r h bc bs) ∧ (¬ gCnd cn x 0 → K (pc + 3) lv r h bc bs)
  | .if_icmp cn off => ∃ (b a : Int32) (r : List Value) (t : Nat), st = .int b :: .int a :: r ∧ (pc : Int) + off = (t : Int) ∧ (gCnd cn a b → K t lv r h bc bs) ∧ (¬ gCnd cn a b → K (pc + 3) lv r h bc bs)
  | .ifnonnull off => ∃ (a : Nat) (r : List Value) (t : Nat), st = .ref a :: r ∧ (pc : Int) + off = (t : Int) ∧ K t lv r h bc bs
  | .tableswitch dflt lo hi offs => ∃ (x : Int32) (r : List Value), st = .int x :: r ∧ ((x.toInt < lo ∨ hi < x.toInt) → ∃ t : Nat, (pc : Int) + dflt = (t : Int) ∧ K t lv r h bc bs) ∧ (¬ x.toInt < lo → ¬ hi < x.toInt → ∃ (off : Int) (t : Nat), offs[(x.toInt - lo).toNat]? = some off ∧ (pc : Int) + off = (t : Int) ∧ K t lv r h bc bs)
  | .getfield idx => ∃ a r ci k ty fin fs v, st = .ref a :: r ∧ gFL y.1.cls idx ci k ty fin ∧ h a = some (.inr (ci, fs)) ∧ fs[k]? = some v ∧ K (pc + 3) lv (v :: r) h bc bs
  | .putfield idx => ∃ v a r ci k ty fin fs, st = v :: .ref a :: r ∧ gFL y.1.cls idx ci k ty fin ∧ (fin = false ∨ (y.1.name = "<init>" ∧ ∃ (T : u_T) (N : Nat), vwCl[ci]? = some (y.1.cls, T, N))) ∧ h a = some (.inr (ci, fs)) ∧ k < fs.length ∧ narrow ty v = v ∧ fits ty v = true ∧ K (pc + 3) lv r (gU h a (.inr (ci, fs.set k v))) bc bs
  | .iaload => ∃ i a r n f, st = .int i :: .ref a :: r ∧ (h a = some (.inl (0, n, .inl f)) ∨ h a = some (.inl (7, n, .inl f))) ∧ vp_in i n ∧ K (pc + 1) lv (.int (f i.toNatClampNeg) :: r) h bc bs
  | .baload => ∃ i a r n f, st = .int i :: .ref a :: r ∧ h a = some (.inl (1, n, .inl f)) ∧ vp_in i n ∧ K (pc + 1) lv (.int (f i.toNatClampNeg) :: r) h bc bs
  | .iastore => ∃ x i a r n f, st = .int x :: .int i :: .ref a :: r ∧ h a = some (.inl (0, n, .inl f)) ∧ vp_in i n ∧ K (pc + 1) lv r (gU h a (.inl (0, n, .inl (upd f i.toNatClampNeg x)))) bc bs
  | .bastore => ∃ x i a r n f, st = .int x :: .int i :: .ref a :: r ∧ h a = some (.inl (1, n, .inl f)) ∧ vp_in i n ∧ K (pc + 1) lv r (gU h a (.inl (1, n, .inl (upd f i.toNatClampNeg (vp_nar .boolean x))))) bc bs
  | .arraylength => ∃ a r v, st = .ref a :: r ∧ ((∃ t x, h a = some (.inl (t, x)) ∧ t < 6 ∧ Int32.ofNat x.1 = v) ∨ ∃ n f, h a = some (.inl (7, n, .inl f)) ∧ Int32.ofNat n = v) ∧ K (pc + 1) lv (.int v :: r) h bc bs
  | .newarray at_ => ∃ n r N t c0, st = .int n :: r ∧ gNew at_ = some (t, c0) ∧ ¬ n < 0 ∧ n.toNatClampNeg = N ∧ N ≤ 1000000 ∧ 1 ≤ bc ∧ N ≤ bs ∧ ∀ q : Nat, h q = none → K (pc + 2) lv (.ref q :: r) (gU h q (.inl (t, N, c0))) (bc - 1) (bs - N)
  | .new idx => (∃ ci C T N fs, vwCl[ci]? = some (C, T, N) ∧ Jvm.Cond.classLink y.1.cls idx C ∈ lw_tbl ∧ Jvm.Cond.instantiable C N ∈ lw_tbl ∧ Jvm.Cond.initialized C ∈ lw_tbl ∧ gBegin T N fs ∧ 1 ≤ bc ∧ N ≤ bs ∧ ∀ q : Nat, h q = none → K (pc + 3) lv (.ref q :: st) (gU h q (.inr (ci, fs))) (bc - 1) (bs - N)) ∨
      (∃ E, gTN y pc idx E ∧ 6 ≤ d ∧ 1 ≤ bc ∧ 6 ≤ bs ∧ gCat st ≤ 100 ∧ X E h)
  | .invokespecial idx => (∃ a r, st = .ref a :: r ∧ Jvm.Cond.methodLink y.1.cls idx objectInit ∈ lw_tbl ∧ 1 ≤ d ∧ gCat r ≤ 8 ∧ K (pc + 3) lv r h bc bs) ∨
      (∃ z n as a r mc ms, gLI y.1.cls idx z n ∧ st = as.reverse ++ .ref a :: r ∧ as.length = n ∧ gCat r ≤ 8 ∧ mc ≤ bc ∧ ms ≤ bs ∧ call z (.ref a :: as) h mc ms (fun v h' => K (pc + 3) lv (v.toList ++ r) h' (bc - mc) (bs - ms)) (fun E h' => gThr y X K pc lv E h' (bc - mc) (bs - ms)))
  | .invokevirtual idx => (∃ z n ci as a r fs mc ms, gLV y.1.cls idx z n ci ∧ st = as.reverse ++ .ref a :: r ∧ as.length = n ∧ h a = some (.inr (ci, fs)) ∧ gCat r ≤ 8 ∧ mc ≤ bc ∧ ms ≤ bs ∧ call z (.ref a :: as) h mc ms (fun v h' => K (pc + 3) lv (v.toList ++ r) h' (bc - mc) (bs - ms)) (fun E h' => gThr y X K pc lv E h' (bc - mc) (bs - ms)))
  | .invokestatic idx => (∃ z n as r mc ms, gLS y.1.cls idx z n ∧ st = as.reverse ++ r ∧ as.length = n ∧ gCat r ≤ 8 ∧ mc ≤ bc ∧ ms ≤ bs ∧ call z as h mc ms (fun v h' => K (pc + 3) lv (v.toList ++ r) h' (bc - mc) (bs - ms)) (fun E h' => gThr y X K pc lv E h' (bc - mc) (bs - ms))) ∨
      (∃ a r, st = .int a :: r ∧ Jvm.Cond.methodLink y.1.cls idx Lib.Math.abs.name ∈ lw_tbl ∧ 1 ≤ d ∧ gCat r ≤ 8 ∧ K (pc + 3) lv (.int (if 0 ≤ a then a else 0 - a) :: r) h bc bs)
  | .anewarray idx => ∃ n r N, st = .int n :: r ∧ Jvm.Cond.classLink y.1.cls idx "GhostCandlesLaw$Ghost" ∈ lw_tbl ∧ ¬ n < 0 ∧ n.toNatClampNeg = N ∧ N ≤ 1000 ∧ 1 ≤ bc ∧ N ≤ bs ∧ ∀ q : Nat, h q = none → K (pc + 3) lv (.ref q :: r) (gU h q (.inl (5, N, .inr (.inr (.inr (.inr (fun _ => none))))))) (bc - 1) (bs - N)
  | .multianewarray idx dims => (dims = 2 ∧ ∃ nm t ti n k r N M, st = .int k :: .int n :: r ∧ gMN2 nm = some (t, ti) ∧ Jvm.Cond.classLink y.1.cls idx nm ∈ lw_tbl ∧ ¬ n < 0 ∧ n.toNatClampNeg = N ∧ ¬ k < 0 ∧ k.toNatClampNeg = M ∧ N ≤ 1000 ∧ M ≤ 1000 ∧ 1 + N ≤ bc ∧ N + N * M ≤ bs ∧ ∀ q : Nat, (∀ j, j ≤ N → h (q + j) = none) → K (pc + 4) lv (.ref q :: r) (gG2 h q t ti N M) (bc - (1 + N)) (bs - (N + N * M))) ∨
      (dims = 3 ∧ ∃ n k l r N M P, st = .int l :: .int k :: .int n :: r ∧ Jvm.Cond.classLink y.1.cls idx "[[[Z" ∈ lw_tbl ∧ ¬ n < 0 ∧ n.toNatClampNeg = N ∧ ¬ k < 0 ∧ k.toNatClampNeg = M ∧ ¬ l < 0 ∧ l.toNatClampNeg = P ∧ N ≤ 100 ∧ M ≤ 100 ∧ P ≤ 100 ∧ 1 + N * (M + 1) ≤ bc ∧ N + N * (M + M * P) ≤ bs ∧ ∀ q : Nat, (∀ j, j ≤ N * (M + 1) → h (q + j) = none) → K (pc + 4) lv (.ref q :: r) (gG3 h q 4 3 1 N M P) (bc - (1 + N * (M + 1))) (bs - (N + N * (M + M * P))))
  | .aastore => ∃ v i a r n f fs, st = .ref v :: .int i :: .ref a :: r ∧ h a = some (.inl (5, n, .inr (.inr (.inr (.inr f))))) ∧ h v = some (.inr (5, fs)) ∧ vp_in i n ∧ K (pc + 1) lv r (gU h a (.inl (5, n, .inr (.inr (.inr (.inr (va_up f i.toNatClampNeg (some v)))))))) bc bs
  | .aaload => ∃ i a r t n f v, st = .int i :: .ref a :: r ∧ h a = some (.inl (t, n, .inr (.inr (.inr (.inr f))))) ∧ 2 ≤ t ∧ t < 6 ∧ vp_in i n ∧ f i.toNatClampNeg = some v ∧ K (pc + 1) lv (.ref v :: r) h bc bs
  | .areturn => ∃ a ty, st = [.ref a] ∧ y.2.2.2.1 = some ty ∧ ((∃ C, ty = .object C) ∨ ∃ t, ty = .array t) ∧ Post (some (.ref a)) h
  | .ireturn => ∃ x ty, st = [.int x] ∧ y.2.2.2.1 = some ty ∧ narrow ty (.int x) = .int x ∧ Post (some (.int x)) h
  | .lreturn => ∃ x, st = [.long x] ∧ y.2.2.2.1 = some .long ∧ Post (some (.long x)) h
  | .dreturn => ∃ x, st = [.double x] ∧ y.2.2.2.1 = some .double ∧ Post (some (.double x)) h
  | .return_ => st = [] ∧ y.2.2.2.1 = none ∧ Post none h
  | _ => False
def gClosed (call : gC) (y : gM) (d : Nat) (Post : Option Value → gH → Prop) (X : String → gH → Prop) (ro : Nat → Option (Nat × (Nat → Int32))) (K : gK) : Prop :=
  ∀ (pc : Nat) (lv : gL) (st : List Value) (h : gH) (bc bs : Nat) (i : Instr) (len : Nat), decode y.2.1 pc = .ok (i, len) → gLen i len = true → gS call y d Post X ro K i pc lv st h bc bs → K pc lv st h bc bs
def gSl : List Value → gL
  | [] => []
  | .long x :: vs => some (.long x) :: none :: gSl vs
  | .double x :: vs => some (.double x) :: none :: gSl vs
  | v :: vs => some v :: gSl vs
def gEntry (n : Nat) (vs : List Value) : gL := gSl vs ++ List.replicate (n - (gSl vs).length) none
/-- a call of y from the heap h, in d frames, with mc cells and ms slots to spend, comes to an end: with an answer in Post, or an exception in X -/
def gSafe : Nat → gC
  | 0, _, _, _, _, _, _, _ => False
  | d + 1, y, args, h, mc, ms, Post, X => (gSl args).length ≤ y.2.2.1 ∧ ∀ K : gK, gClosed (gSafe d) y (d + 1) Post X (fun _ => none) K → K 0 (gEntry y.2.2.1 args) [] h mc ms
