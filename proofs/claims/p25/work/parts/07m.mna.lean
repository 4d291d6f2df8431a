/-! arrays of arrays: made by one instruction; a builder of states (B), its cells (nc) and slots (ns) -/
def mOut (c : ClassId) (N h0 nc i : Nat) : Cell := arrV c N (fun j => va_rf (if j < i then some (h0 + 1 + j * nc) else none))
def mBO (B : State → State) (c : ClassId) (N nc : Nat) (s : State) : Nat → State
  | 0 => s.pushCell (mOut c N s.heap.size nc 0)
  | i + 1 => (B (mBO B c N nc s i)).setCell s.heap.size (mOut c N s.heap.size nc (i + 1))
def mFx (B : State → State) (nc ns : Nat) : Prop := ∀ u : State, (B u).vm = u.vm ∧ (B u).heap.size = u.heap.size + nc ∧ (B u).slotsUsed = u.slotsUsed + ns ∧ (∀ a : Addr, a < u.heap.size → (B u).heap[a]? = u.heap[a]?) ∧ ∀ f : JFrame, B (u.setTop f) = (B u).setTop f
theorem mOut_size (c : ClassId) (N h0 nc i : Nat) : (mOut c N h0 nc i).slots.size = N := arrV_size _ _ _
theorem mOut_succ (c : ClassId) (N h0 nc i : Nat) : (mOut c N h0 nc i).setSlot i (.ref (h0 + 1 + i * nc)) = mOut c N h0 nc (i + 1) := by
  unfold mOut
  rw [arrV_store]
  refine congrArg (arrV c N) (funext fun j => ?_)
  by_cases e : j = i
  · subst e
    simp [updV, va_rf]
  · by_cases h : j < i
    · simp [updV, e, h, Nat.lt_succ_of_lt h]
    · simp [updV, e, h, show ¬ j < i + 1 by omega]
theorem mB1_fx (c : ClassId) (M : Nat) (f : Nat → Value) : mFx (fun u => u.pushCell (arrV c M f)) 1 M := fun u => ⟨rfl, by simp, by simp [arrV_size], fun a ha => State.heap_pushCell_of_lt _ _ ha, fun f => rfl⟩
theorem mBO_fx {B : State → State} {nc ns : Nat} (hB : mFx B nc ns) (c : ClassId) (N : Nat) (s : State) : ∀ i : Nat, (mBO B c N nc s i).vm = s.vm ∧ (mBO B c N nc s i).heap.size = s.heap.size + 1 + i * nc ∧ (mBO B c N nc s i).slotsUsed = s.slotsUsed + N + i * ns ∧ (mBO B c N nc s i).heap[s.heap.size]? = some (mOut c N s.heap.size nc i) ∧ (∀ a : Addr, a < s.heap.size → (mBO B c N nc s i).heap[a]? = s.heap[a]?) ∧ ∀ f : JFrame, mBO B c N nc (s.setTop f) i = (mBO B c N nc s i).setTop f
  | 0 => ⟨rfl, by simp [mBO], by simp [mBO, mOut_size], by simp [mBO], fun a ha => State.heap_pushCell_of_lt _ _ ha, fun f => rfl⟩
  | i + 1 => by
    obtain ⟨h1, h2, h3, h4, h5, h6⟩ := mBO_fx hB c N s i
    obtain ⟨b1, b2, b3, b4, b5⟩ := hB (mBO B c N nc s i)
    have hlt : s.heap.size < (mBO B c N nc s i).heap.size := by rw [h2]; omega
    have hc : (B (mBO B c N nc s i)).heap[s.heap.size]? = some (mOut c N s.heap.size nc i) := (b4 _ hlt).trans h4
    refine ⟨?_, ?_, ?_, ?_, ?_, ?_⟩
    · show (B (mBO B c N nc s i)).vm = _
      rw [b1, h1]
    · show ((B (mBO B c N nc s i)).setCell _ _).heap.size = _
      rw [size_setCell, b2, h2, Nat.succ_mul]
      omega
    · show (B (mBO B c N nc s i)).slotsUsed = _
      rw [b3, h3, Nat.succ_mul]
      omega
    · exact State.heap_setCell_self hc
    · intro a ha
      show ((B (mBO B c N nc s i)).setCell _ _).heap[a]? = _
      rw [State.heap_setCell_other (Nat.ne_of_gt ha), b4 a (Nat.lt_of_lt_of_le ha (by rw [h2]; omega)), h5 a ha]
    · intro f
      show (B (mBO B c N nc (s.setTop f) i)).setCell _ _ = ((B (mBO B c N nc s i)).setCell _ _).setTop f
      rw [h6 f, (hB (mBO B c N nc s i)).2.2.2.2 f]
      rfl
theorem mBO_fxN {B : State → State} {nc ns : Nat} (hB : mFx B nc ns) (c : ClassId) (N : Nat) : mFx (fun s => mBO B c N nc s N) (1 + N * nc) (N + N * ns) := fun s => by
  obtain ⟨h1, h2, h3, h4, h5, h6⟩ := mBO_fx hB c N s N
  exact ⟨h1, by rw [h2]; omega, by rw [h3]; omega, h5, h6⟩
/-! the machine's making of them -/
def mWp (e : Env) (vm : Vm) (c : ClassId) (cs : List Int32) (B : State → State) (nc ns : Nat) : Prop := ∀ (E : CtlPost) (d : Bool) (acts : List Action) (u : State) (Q : Addr → Pre), u.vm = vm → u.heap.size + nc ≤ e.platform.maxCells → u.slotsUsed + ns ≤ e.platform.maxSlots → (∀ d' acts', Q u.heap.size d' acts' (B u)) → wp (Op.multianewarray.make c cs) Q E e d acts u
theorem mWp_1 {e : Env} {vm : Vm} {c comp : ClassId} {k : Class} {ty : FieldType} {m : Int32} (hk : vm.classes[c]? = some k) (hkind : k.kind = .array comp ty) (hm : ¬ m < 0) (hl : ¬ m.toNatClampNeg > e.platform.arrayLengthLimit) (hh : ¬ m.toNatClampNeg * componentBytes ty > e.platform.maxHeapBytes) (hdf : fits ty (defaultValue ty) = true) : mWp e vm c [m] (fun u => u.pushCell (arrV c m.toNatClampNeg (fun _ => defaultValue ty))) 1 m.toNatClampNeg := by
  intro E d acts u Q hv h1 h2 hq
  subst hv
  rw [Op.multianewarray.make]
  simp only [wp_bind', W.ite, hm, if_false, wp_pure', W.theClass, hk, hkind, Option.some.injEq, exists_eq_left']
  refine W.newArray_of hk hkind hl hh (by omega) h2 hdf (fun acts' => ?_)
  have := hq d acts'
  rw [← arrV_new] at this
  exact this
theorem mRefFits {t : FieldType} (h : t.isReference = true) (v : Value) (hv : v = .null ∨ ∃ a, v = .ref a) : fits t v = true := by
  rcases hv with rfl | ⟨a, rfl⟩ <;> cases t <;> simp [FieldType.isReference] at h <;> rfl
set_option maxHeartbeats 1000000 in
theorem mWp_O {e : Env} {vm : Vm} {c comp : ClassId} {k : Class} {t0 : FieldType} {n r0 : Int32} {rs : List Int32} {B : State → State} {nc ns : Nat} (hB : mFx B nc ns) (hW : mWp e vm comp (r0 :: rs) B nc ns) (hk : vm.classes[c]? = some k) (hkind : k.kind = .array comp t0) (href : t0.isReference = true) (hn : ¬ n < 0) (hneg : (r0 :: rs).find? (· < 0) = none) (hl : ¬ n.toNatClampNeg > e.platform.arrayLengthLimit) (hh : ¬ n.toNatClampNeg * componentBytes t0 > e.platform.maxHeapBytes) :
    mWp e vm c (n :: r0 :: rs) (fun s => mBO B c n.toNatClampNeg nc s n.toNatClampNeg) (1 + n.toNatClampNeg * nc) (n.toNatClampNeg + n.toNatClampNeg * ns) := by
  intro E d acts s Q hv h1 h2 hq
  subst hv
  rw [Op.multianewarray.make]
  simp only [wp_bind', W.ite, hn, if_false, wp_pure', W.theClass, hk, hkind, Option.some.injEq, exists_eq_left']
  refine W.newArray_of hk hkind hl hh (by omega) (by omega) (mRefFits href _ (Or.inl rfl)) (fun acts1 => ?_)
  simp only [hneg]
  rw [ite_self, wp_bind', Std.Legacy.Range.forIn_eq_forIn_range']
  have hsz : ([:n.toNatClampNeg] : Std.Legacy.Range).size = n.toNatClampNeg := by simp [Std.Legacy.Range.size]
  rw [hsz]
  show wp (forIn (List.range' 0 n.toNatClampNeg 1) PUnit.unit _) _ E e d acts1 _
  refine wp_forIn_inv (fun rest s' => ∃ i, i ≤ n.toNatClampNeg ∧ rest = List.range' i (n.toNatClampNeg - i) ∧ s' = mBO B c n.toNatClampNeg nc s i) _ _ ⟨0, Nat.zero_le _, rfl, ?_⟩ ?_ ?_
  · show s.pushCell _ = s.pushCell (mOut c n.toNatClampNeg s.heap.size nc 0)
    refine congrArg s.pushCell ?_
    unfold mOut
    simp only [Nat.not_lt_zero, if_false]
    exact arrV_new _ _ _
  · rintro x rest s' d' acts' Q' ⟨i, hi, hl9, rfl⟩ hnext
    have hlt : i < n.toNatClampNeg := by
      rcases Nat.lt_or_ge i n.toNatClampNeg with h | h
      · exact h
      · rw [show n.toNatClampNeg - i = 0 from by omega] at hl9; simp at hl9
    obtain ⟨rfl, hrest⟩ : x = i ∧ rest = List.range' (i + 1) (n.toNatClampNeg - (i + 1)) := by
      rw [show n.toNatClampNeg - i = (n.toNatClampNeg - (i + 1)) + 1 from by omega, List.range'_succ] at hl9
      exact ⟨(List.cons.inj hl9).1, (List.cons.inj hl9).2⟩
    obtain ⟨f1, f2, f3, f4, f5, f6⟩ := mBO_fx hB c n.toNatClampNeg s x
    obtain ⟨b1, b2, b3, b4, b5⟩ := hB (mBO B c n.toNatClampNeg nc s x)
    have m1 : x * nc + nc ≤ n.toNatClampNeg * nc := by
      have := Nat.mul_le_mul_right nc (show x + 1 ≤ n.toNatClampNeg from hlt)
      rw [Nat.succ_mul] at this; exact this
    have m2 : x * ns + ns ≤ n.toNatClampNeg * ns := by
      have := Nat.mul_le_mul_right ns (show x + 1 ≤ n.toNatClampNeg from hlt)
      rw [Nat.succ_mul] at this; exact this
    simp only [wp_bind']
    refine hW E d' acts' _ _ f1 (by rw [f2]; omega) (by rw [f3]; omega) (fun d2 acts2 => ?_)
    have hlt0 : s.heap.size < (mBO B c n.toNatClampNeg nc s x).heap.size := by rw [f2]; omega
    simp only [wp_bind', W.writeLoc, wp_pure']
    refine ⟨mOut c n.toNatClampNeg s.heap.size nc x, (b4 _ hlt0).trans f4, (fun h => by cases h), by rw [mOut_size]; exact hlt, ?_, hnext _ _ _ ⟨x + 1, hlt, hrest, ?_⟩⟩
    · show State.fitsSlot _ c .none _ _ = true
      simp [State.fitsSlot, State.slotType?, b1, f1, hk, hkind, mRefFits href _ (Or.inr ⟨_, rfl⟩)]
    · rw [f2, mOut_succ]
      rfl
  · rintro s' d' acts' ⟨i, hi, hl9, rfl⟩
    have hiN : i = n.toNatClampNeg := by
      rcases Nat.lt_or_ge i n.toNatClampNeg with h | h
      · rw [show n.toNatClampNeg - i = (n.toNatClampNeg - (i + 1)) + 1 from by omega, List.range'_succ] at hl9; cases hl9
      · omega
    subst hiN
    simp only [wp_pure']
    exact hq _ _
def mSt (B : State → State) (nc ns : Nat) : Prop := ∀ (p : Program) (l : Launch) (e : Env) (R : Room) (s : State) (m : MethodId) (args : Array Value) (below : List Frame) (meth : Method) (c : Code) (T : State) (locs : List Loc) (cells slots : Nat), Stand p l e R s m args below meth c T locs cells slots → ∃ L : List Loc, Stand p l e R s m args below meth c (B T) (locs ++ L) (cells + nc) (slots + ns) ∧ ∀ x ∈ L, T.heap.size ≤ x.base
theorem mSt_1 (c : ClassId) (M : Nat) (f : Nat → Value) : mSt (fun u => u.pushCell (arrV c M f)) 1 M := fun p l e R s m args below meth c9 T locs cells slots X => ⟨[], by
  have h := X.pushed (arrV c M f)
  rw [arrV_size] at h
  rw [List.append_nil]
  exact h, fun x hx => by cases hx⟩
theorem mSt_O {B : State → State} {nc ns : Nat} (hB : mFx B nc ns) (hS : mSt B nc ns) (c : ClassId) (N : Nat) : mSt (fun s => mBO B c N nc s N) (1 + N * nc) (N + N * ns) := by
  intro p l e R s m args below meth c9 T locs cells slots X
  have key : ∀ i : Nat, ∃ L : List Loc, Stand p l e R s m args below meth c9 (mBO B c N nc T i) (locs ++ L) (cells + 1 + i * nc) (slots + N + i * ns) ∧ ∀ x ∈ L, T.heap.size ≤ x.base := by
    intro i
    induction i with
    | zero =>
      refine ⟨[], ?_, fun x hx => by cases hx⟩
      have h := X.pushed (mOut c N T.heap.size nc 0)
      rw [mOut_size] at h
      rw [List.append_nil, Nat.zero_mul, Nat.zero_mul]
      exact h
    | succ i ih =>
      obtain ⟨L, X1, hL⟩ := ih
      obtain ⟨L2, X2, hL2⟩ := hS _ _ _ _ _ _ _ _ _ _ _ _ _ _ X1
      obtain ⟨f1, f2, f3, f4, f5, f6⟩ := mBO_fx hB c N T i
      obtain ⟨b1, b2, b3, b4, b5⟩ := hB (mBO B c N nc T i)
      have hlt0 : T.heap.size < (mBO B c N nc T i).heap.size := by rw [f2]; omega
      have h := X2.stored ((b4 _ hlt0).trans f4) i (.ref (T.heap.size + 1 + i * nc))
      rw [mOut_succ] at h
      refine ⟨L ++ L2 ++ [⟨T.heap.size, i⟩], ?_, fun x hx => ?_⟩
      · rw [Nat.succ_mul, Nat.succ_mul, ← List.append_assoc, ← List.append_assoc, ← Nat.add_assoc, ← Nat.add_assoc]
        exact h
      · rcases List.mem_append.mp hx with hx | hx
        · rcases List.mem_append.mp hx with hx | hx
          · exact hL x hx
          · exact Nat.le_trans (Nat.le_of_lt hlt0) (hL2 x hx)
        · simp at hx
          subst hx
          exact Nat.le_refl _
  obtain ⟨L, h1, h2⟩ := key N
  refine ⟨L, ?_, h2⟩
  rw [← Nat.add_assoc, ← Nat.add_assoc]
  exact h1
/-! the heap of known objects behind it -/
def mGI (D : va_G) (dT : Nat → ClassId) (B : State → State) (G : gH → Nat → gH) : Prop := ∀ (A : Nat → Prop) (RO : Nat → vp_A → Prop) (L : List Nat) (h : gH) (u : State), gI D dT A RO L h u.heap → (∀ q : Nat, u.heap.size ≤ q → A q) → (∀ (a : Nat) (x : vp_A), RO a x → ¬ A a) → ∃ L' : List Nat, gI D dT A RO L' (G h u.heap.size) (B u).heap
theorem gI.push {D : va_G} {dT : Nat → ClassId} {A : Nat → Prop} {RO : Nat → vp_A → Prop} {L : List Nat} {h : gH} {H : Heap} (I : gI D dT A RO L h H) (t : Nat) (x : vp_A) (hA : A H.size) (hRO : ∀ (a : Nat) (x : vp_A), RO a x → ¬ A a) (ht : t < 7) : gI D dT A RO (L ++ [H.size]) (gU h H.size (.inl (t, x))) (H.push (vp_cell (dT t) x)) := by
  have o1 : ∀ q : Nat, q < H.size → (H.push (vp_cell (dT t) x))[q]? = H[q]? := fun q hq => by rw [Array.getElem?_push, if_neg (Nat.ne_of_lt hq)]
  have hP1 : va_P D vwCl (va_pl L (gF dT h) ++ [(H.size, gE dT (.inl (t, x)))]) (H.push (vp_cell (dT t) x)) := by
    refine (I.2.1.kept (fun k z hz => o1 z.1 ((I.2.1 k z hz).lt))).app (fun k z hz => ?_)
    have h0 : k < 1 := (List.getElem?_eq_some_iff.mp hz).1
    rw [show k = 0 by omega] at hz
    cases hz
    show (H.push (vp_cell (dT t) x))[H.size]? = some (vp_cell _ _)
    rw [Array.getElem?_push_size]
  exact (I.new hRO hP1 (I.2.2.1.push I.2.1 rfl hA) (gRo_lt ht)).2
theorem gI.setc {D : va_G} {dT : Nat → ClassId} {A : Nat → Prop} {RO : Nat → vp_A → Prop} {L : List Nat} {h : gH} {H : Heap} (I : gI D dT A RO L h H) {a t : Nat} {x x' : vp_A} (e : h a = some (.inl (t, x))) (ht : t < 7) : gI D dT A RO L (gU h a (.inl (t, x'))) (H.setIfInBounds a (vp_cell (dT t) x')) := by
  obtain ⟨k, hk⟩ := I.get e (gRo_lt ht)
  have hlt : a < H.size := (I.2.1 k _ hk).lt
  refine I.set (o' := .inl (t, x')) e hk (I.2.1.set I.2.2.1 hk ?_ ?_) (I.2.2.1.set hk) (gRo_lt ht) (gRo_lt ht)
  · show (H.setIfInBounds a (vp_cell (dT t) x'))[a]? = some (vp_cell (dT t) x')
    simp [hlt]
  · intro q hq
    rw [Array.getElem?_setIfInBounds, if_neg (Ne.symm hq)]
def gGO (G : gH → Nat → gH) (t N nc : Nat) (h : gH) (q : Nat) : Nat → gH
  | 0 => gU h q (.inl (t, N, .inr (.inr (.inr (.inr (fun j => if j < 0 then some (q + 1 + j * nc) else none))))))
  | i + 1 => gU (G (gGO G t N nc h q i) (q + 1 + i * nc)) q (.inl (t, N, .inr (.inr (.inr (.inr (fun j => if j < i + 1 then some (q + 1 + j * nc) else none))))))
theorem mGI_1 {D : va_G} {dT : Nat → ClassId} (t M : Nat) (ht : t < 7) : mGI D dT (fun u => u.pushCell (vp_cell (dT t) (M, .inl (fun _ => 0)))) (fun h q => gU h q (.inl (t, M, .inl (fun _ => 0)))) := fun A RO L h u I hA hRO => ⟨_, I.push t (M, .inl (fun _ => 0)) (hA _ (Nat.le_refl _)) hRO ht⟩
theorem mGI_O {D : va_G} {dT : Nat → ClassId} {B : State → State} {G : gH → Nat → gH} {nc ns : Nat} (hB : mFx B nc ns) (hG : mGI D dT B G) (hk : ∀ (h : gH) (a q : Nat), q < a → G h a q = h q) (t N : Nat) (ht : t < 7) : mGI D dT (fun s => mBO B (dT t) N nc s N) (fun h q => gGO G t N nc h q N) := by
  intro A RO L h u I hA hRO
  have key : ∀ i : Nat, ∃ L' : List Nat, gI D dT A RO L' (gGO G t N nc h u.heap.size i) (mBO B (dT t) N nc u i).heap ∧ gGO G t N nc h u.heap.size i u.heap.size = some (.inl (t, N, .inr (.inr (.inr (.inr (fun j => if j < i then some (u.heap.size + 1 + j * nc) else none)))))) := by
    intro i
    induction i with
    | zero => exact ⟨_, I.push t _ (hA _ (Nat.le_refl _)) hRO ht, gU_eq _ _ _⟩
    | succ i ih =>
      obtain ⟨L1, I1, e1⟩ := ih
      obtain ⟨f1, f2, f3, f4, f5, f6⟩ := mBO_fx hB (dT t) N u i
      obtain ⟨L2, I2⟩ := hG A RO L1 _ _ I1 (fun q hq => hA q (by rw [f2] at hq; omega)) hRO
      rw [f2] at I2
      have e2 : G (gGO G t N nc h u.heap.size i) (u.heap.size + 1 + i * nc) u.heap.size = _ := (hk _ _ _ (by omega)).trans e1
      exact ⟨L2, I2.setc (x' := (N, .inr (.inr (.inr (.inr (fun j => if j < i + 1 then some (u.heap.size + 1 + j * nc) else none)))))) e2 ht, gU_eq _ _ _⟩
  obtain ⟨L', h1, -⟩ := key N
  exact ⟨L', h1⟩
theorem gGO_2 (h : gH) (q t ti n k : Nat) : gGO (fun h q => gU h q (.inl (ti, k, .inl (fun _ => 0)))) t n 1 h q n = gG2 h q t ti n k := by
  have key : ∀ i : Nat, gGO (fun h q => gU h q (.inl (ti, k, .inl (fun _ => 0)))) t n 1 h q i = fun p => if p = q then some (.inl (t, n, .inr (.inr (.inr (.inr (fun j => if j < i then some (q + 1 + j) else none)))))) else if q < p ∧ p ≤ q + i then some (.inl (ti, k, .inl (fun _ => 0))) else h p := by
    intro i
    induction i with
    | zero =>
      funext p
      simp only [gGO, gU, Nat.mul_one, Nat.add_zero]
      by_cases e : p = q
      · simp only [if_pos e]
      · have e2 : ¬ (q < p ∧ p ≤ q) := by omega
        simp only [if_neg e, if_neg e2]
    | succ i ih =>
      funext p
      simp only [gGO, ih, gU, Nat.mul_one]
      by_cases e : p = q
      · simp only [if_pos e]
      · by_cases e2 : p = q + 1 + i
        · have e3 : q < p ∧ p ≤ q + (i + 1) := by omega
          simp only [if_neg e, if_pos e2, if_pos e3]
        · by_cases e3 : q < p ∧ p ≤ q + i
          · have e4 : q < p ∧ p ≤ q + (i + 1) := by omega
            simp only [if_neg e, if_neg e2, if_pos e3, if_pos e4]
          · have e4 : ¬ (q < p ∧ p ≤ q + (i + 1)) := by omega
            simp only [if_neg e, if_neg e2, if_neg e3, if_neg e4]
  exact key n
theorem gGO_3 (h : gH) (q t tm ti n k l : Nat) : gGO (fun h q => gG2 h q tm ti k l) t n (k + 1) h q n = gG3 h q t tm ti n k l := by
  have key : ∀ i : Nat, gGO (fun h q => gG2 h q tm ti k l) t n (k + 1) h q i = fun p => if p = q then some (.inl (t, n, .inr (.inr (.inr (.inr (fun j => if j < i then some (q + 1 + j * (k + 1)) else none)))))) else if q < p ∧ p ≤ q + i * (k + 1) then (if (p - q - 1) % (k + 1) = 0 then some (.inl (tm, k, .inr (.inr (.inr (.inr (fun j => if j < k then some (p + 1 + j) else none)))))) else some (.inl (ti, l, .inl (fun _ => 0)))) else h p := by
    intro i
    induction i with
    | zero =>
      funext p
      simp only [gGO, gU, Nat.zero_mul, Nat.add_zero]
      by_cases e : p = q
      · simp only [if_pos e]
      · have e2 : ¬ (q < p ∧ p ≤ q) := by omega
        simp only [if_neg e, if_neg e2]
    | succ i ih =>
      funext p
      have hm : (i + 1) * (k + 1) = i * (k + 1) + (k + 1) := Nat.succ_mul _ _
      simp only [gGO, ih, gU, gG2, hm]
      generalize hX : i * (k + 1) = X at *
      by_cases e : p = q
      · simp only [if_pos e]
      · by_cases e2 : p = q + 1 + X
        · have e3 : q < p ∧ p ≤ q + (X + (k + 1)) := by omega
          have e4 : (p - q - 1) % (k + 1) = 0 := by rw [e2, show q + 1 + X - q - 1 = X by omega, ← hX]; exact Nat.mul_mod_left _ _
          simp only [if_neg e, if_pos e2, if_pos e3, if_pos e4]
          subst e2
          rfl
        · by_cases e3 : q + 1 + X < p ∧ p ≤ q + 1 + X + k
          · have e4 : ¬ (p - q - 1) % (k + 1) = 0 := by
              obtain ⟨r, hr⟩ : ∃ r, p - q - 1 = i * (k + 1) + r := ⟨p - q - 1 - i * (k + 1), by omega⟩
              rw [hr, Nat.add_comm, Nat.add_mul_mod_self_right, Nat.mod_eq_of_lt (by omega)]
              omega
            have e5 : q < p ∧ p ≤ q + (X + (k + 1)) := by omega
            simp only [if_neg e, if_neg e2, if_pos e3, if_neg e4, if_pos e5]
          · by_cases e5 : q < p ∧ p ≤ q + X
            · have e6 : q < p ∧ p ≤ q + (X + (k + 1)) := by omega
              simp only [if_neg e, if_neg e2, if_neg e3, if_pos e5, if_pos e6]
            · have e6 : ¬ (q < p ∧ p ≤ q + (X + (k + 1))) := by omega
              simp only [if_neg e, if_neg e2, if_neg e3, if_neg e5, if_neg e6]
  exact key n
section GMN
variable {p : Program} {l : Launch} {e : Env} {R : Room} {s : State} {m : MethodId} {args : Array Value} {below : List Frame} {meth : Method} {c : Code} {H : Heap} {locs : List Loc} {cells slots : Nat} {Q : State → Prop}
set_option maxHeartbeats 1000000 in
theorem gx_mna2 {cc : ByteArray} (hexec : p.tables.exec = Jvm.exec) (hb : c.code = cc) {own nm : String} {index : Nat} {cA : ClassId} (hown : s.vm.findClass own = some m.cls) (hclink : (Cond.classLink own index nm).before args s = true) (hcA : s.vm.findClass nm = some cA) {pc : Nat} {ls : Array Slot} (hdg : decode cc pc = .ok (.multianewarray index 2, 4)) {n k : Int32} {rest : List Value} {B : State → State} {nc ns : Nat}
    (hW : l.admits e → ∀ vm₁ : Vm, s.vm.Alike vm₁ → mWp e vm₁ cA [n, k] B nc ns) (hF : mFx B nc ns) (hSt : mSt B nc ns) (hcells : cells + nc ≤ R.cells) (hslots : slots + ns ≤ R.slots)
    (kk : ∀ (u : State) (L : List Loc), u.heap = H → (∀ x ∈ L, H.size ≤ x.base) → W p l e R s m args below meth c (B u).heap (locs ++ L) (cells + nc) (slots + ns) Q (F0 m (pc + 4) ls (.ref H.size :: rest))) : W p l e R s m args below meth c H locs cells slots Q (F0 m pc ls (.int k :: .int n :: rest)) := by
  intro T hT X
  subst hT; subst hb
  have hpl : e.platform.magicAccessors = ({} : Platform).magicAccessors := by rw [X.admits.platform]
  obtain ⟨c0, hfc0, hcl⟩ := Cond.classLink_spec hown hclink e.platform hpl
  cases hcA.symm.trans hfc0
  obtain ⟨hg₁, hwarm₁, hready₁⟩ := State.classEntry (e := e) X.warmed hcl
  generalize T.vm.noted (F0 m pc ls (.int k :: .int n :: rest)).method.cls index (.cls cA) = vm₁ at hg₁ hwarm₁ hready₁
  have X₁ := X.noted hwarm₁
  obtain ⟨L, X₂, hL⟩ := hSt _ _ _ _ _ _ _ _ _ _ _ _ _ _ X₁
  obtain ⟨hr1, hr2⟩ := X.roomAbove hcells hslots
  obtain ⟨t', a1, b1⟩ := kk (T.setVm vm₁) L rfl hL (B (T.setVm vm₁)) rfl X₂
  refine ⟨t', ?_, b1⟩
  have hm9 : (T.setTop (F0 m pc ls (.int k :: .int n :: rest))).method? = some m := State.method?_setTop _ X.here.top
  have hg9 : (resolveClass m.cls index).Gives e.toSetting (T.setTop (F0 m pc ls (.int k :: .int n :: rest))).vm (.ok cA) vm₁ := hg₁
  jvm_step X.here [hexec, hdg]
  simp only [Op.multianewarray.sem, wp_bind', W.resolveClassAt_links hm9 hg9]
  rw [W.popN, if_neg (by decide)]
  refine ⟨F0 m pc ls (.int k :: .int n :: rest), State.topJava?_setTop' (s := T.setVm vm₁) _ X.here.top, [.int n, .int k], rest, rfl, rfl, ?_⟩
  simp only [List.mapM_cons, List.mapM_nil, wp_bind', wp_pure']
  have eS : ((T.setTop (F0 m pc ls (.int k :: .int n :: rest))).setVm vm₁).setTop { F0 m pc ls (.int k :: .int n :: rest) with stack := rest } = (T.setVm vm₁).setTop { F0 m pc ls (.int k :: .int n :: rest) with stack := rest } := by
    show ((T.setVm vm₁).setTop _).setTop _ = _
    rw [State.setTop_setTop]
  rw [eS]
  refine hW X.admits vm₁ hwarm₁.alike _ _ _ _ _ rfl hr1 hr2 (fun d' acts' => ?_)
  rw [(hF (T.setVm vm₁)).2.2.2.2]
  simp only [wp_bind', W.mark, W.pushRef, State.topJava?_setTop' _ X₂.here.top, Option.some.injEq, exists_eq_left', State.setTop_setTop, State.heap_setTop]
  intro acts
  simp [jvm, X₂.here.top]
  exact a1
set_option maxHeartbeats 1000000 in
theorem gx_mna3 {cc : ByteArray} (hexec : p.tables.exec = Jvm.exec) (hb : c.code = cc) {own nm : String} {index : Nat} {cA : ClassId} (hown : s.vm.findClass own = some m.cls) (hclink : (Cond.classLink own index nm).before args s = true) (hcA : s.vm.findClass nm = some cA) {pc : Nat} {ls : Array Slot} (hdg : decode cc pc = .ok (.multianewarray index 3, 4)) {n k k3 : Int32} {rest : List Value} {B : State → State} {nc ns : Nat}
    (hW : l.admits e → ∀ vm₁ : Vm, s.vm.Alike vm₁ → mWp e vm₁ cA [n, k, k3] B nc ns) (hF : mFx B nc ns) (hSt : mSt B nc ns) (hcells : cells + nc ≤ R.cells) (hslots : slots + ns ≤ R.slots)
    (kk : ∀ (u : State) (L : List Loc), u.heap = H → (∀ x ∈ L, H.size ≤ x.base) → W p l e R s m args below meth c (B u).heap (locs ++ L) (cells + nc) (slots + ns) Q (F0 m (pc + 4) ls (.ref H.size :: rest))) : W p l e R s m args below meth c H locs cells slots Q (F0 m pc ls (.int k3 :: .int k :: .int n :: rest)) := by
  intro T hT X
  subst hT; subst hb
  have hpl : e.platform.magicAccessors = ({} : Platform).magicAccessors := by rw [X.admits.platform]
  obtain ⟨c0, hfc0, hcl⟩ := Cond.classLink_spec hown hclink e.platform hpl
  cases hcA.symm.trans hfc0
  obtain ⟨hg₁, hwarm₁, hready₁⟩ := State.classEntry (e := e) X.warmed hcl
  generalize T.vm.noted (F0 m pc ls (.int k3 :: .int k :: .int n :: rest)).method.cls index (.cls cA) = vm₁ at hg₁ hwarm₁ hready₁
  have X₁ := X.noted hwarm₁
  obtain ⟨L, X₂, hL⟩ := hSt _ _ _ _ _ _ _ _ _ _ _ _ _ _ X₁
  obtain ⟨hr1, hr2⟩ := X.roomAbove hcells hslots
  obtain ⟨t', a1, b1⟩ := kk (T.setVm vm₁) L rfl hL (B (T.setVm vm₁)) rfl X₂
  refine ⟨t', ?_, b1⟩
  have hm9 : (T.setTop (F0 m pc ls (.int k3 :: .int k :: .int n :: rest))).method? = some m := State.method?_setTop _ X.here.top
  have hg9 : (resolveClass m.cls index).Gives e.toSetting (T.setTop (F0 m pc ls (.int k3 :: .int k :: .int n :: rest))).vm (.ok cA) vm₁ := hg₁
  jvm_step X.here [hexec, hdg]
  simp only [Op.multianewarray.sem, wp_bind', W.resolveClassAt_links hm9 hg9]
  rw [W.popN, if_neg (by decide)]
  refine ⟨F0 m pc ls (.int k3 :: .int k :: .int n :: rest), State.topJava?_setTop' (s := T.setVm vm₁) _ X.here.top, [.int n, .int k, .int k3], rest, rfl, rfl, ?_⟩
  simp only [List.mapM_cons, List.mapM_nil, wp_bind', wp_pure']
  have eS : ((T.setTop (F0 m pc ls (.int k3 :: .int k :: .int n :: rest))).setVm vm₁).setTop { F0 m pc ls (.int k3 :: .int k :: .int n :: rest) with stack := rest } = (T.setVm vm₁).setTop { F0 m pc ls (.int k3 :: .int k :: .int n :: rest) with stack := rest } := by
    show ((T.setVm vm₁).setTop _).setTop _ = _
    rw [State.setTop_setTop]
  rw [eS]
  refine hW X.admits vm₁ hwarm₁.alike _ _ _ _ _ rfl hr1 hr2 (fun d' acts' => ?_)
  rw [(hF (T.setVm vm₁)).2.2.2.2]
  simp only [wp_bind', W.mark, W.pushRef, State.topJava?_setTop' _ X₂.here.top, Option.some.injEq, exists_eq_left', State.setTop_setTop, State.heap_setTop]
  intro acts
  simp [jvm, X₂.here.top]
  exact a1
end GMN
