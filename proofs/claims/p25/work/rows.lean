section
-- ===== PART A: goes FIRST, ahead of the names: the tables' words, and 'selects' of the private methods out of them =====
/-- a private method of a class that the tables say can be made, by its rows of tables_1 -/
def lw_okq (q : MethodName × Nat) : Prop := (q.1.cls ≠ "java/lang/invoke/MethodHandle" ∧ q.1.cls ≠ "java/lang/invoke/VarHandle") ∧ Cond.instantiable q.1.cls q.2 ∈ tables_1 ∧ Cond.privateMethod q.1 ∈ tables_1 ∧ Cond.instanceMethod q.1 ∈ tables_1
theorem lw_p0 : lw_okq (⟨"java/lang/Throwable", "fillInStackTrace", "(I)Ljava/lang/Throwable;"⟩, 6) := ⟨⟨by decide +kernel, by decide +kernel⟩, List.mem_of_getElem? (i := 169) (by decide +kernel), List.mem_of_getElem? (i := 167) (by decide +kernel), List.mem_of_getElem? (i := 168) (by decide +kernel)⟩
theorem lw_p1 : lw_okq (⟨"GhostCandles", "checkGhost", "(I)V"⟩, 2) := ⟨⟨by decide +kernel, by decide +kernel⟩, List.mem_of_getElem? (i := 18) (by decide +kernel), List.mem_of_getElem? (i := 294) (by decide +kernel), List.mem_of_getElem? (i := 295) (by decide +kernel)⟩
theorem lw_p2 : lw_okq (⟨"GhostCandles$House", "relight", "()V"⟩, 9) := ⟨⟨by decide +kernel, by decide +kernel⟩, List.mem_of_getElem? (i := 32) (by decide +kernel), List.mem_of_getElem? (i := 410) (by decide +kernel), List.mem_of_getElem? (i := 411) (by decide +kernel)⟩
theorem lw_p3 : lw_okq (⟨"GhostCandles$House", "turned", "(JI)I"⟩, 9) := ⟨⟨by decide +kernel, by decide +kernel⟩, List.mem_of_getElem? (i := 32) (by decide +kernel), List.mem_of_getElem? (i := 418) (by decide +kernel), List.mem_of_getElem? (i := 419) (by decide +kernel)⟩
theorem lw_p4 : lw_okq (⟨"GhostCandles$Night", "takeStep", "(I)V"⟩, 5) := ⟨⟨by decide +kernel, by decide +kernel⟩, List.mem_of_getElem? (i := 26) (by decide +kernel), List.mem_of_getElem? (i := 422) (by decide +kernel), List.mem_of_getElem? (i := 423) (by decide +kernel)⟩
theorem lw_p5 : lw_okq (⟨"GhostCandles$Night", "hauntsOrFears", "(I)Z"⟩, 5) := ⟨⟨by decide +kernel, by decide +kernel⟩, List.mem_of_getElem? (i := 26) (by decide +kernel), List.mem_of_getElem? (i := 445) (by decide +kernel), List.mem_of_getElem? (i := 446) (by decide +kernel)⟩
theorem lw_p6 : lw_okq (⟨"GhostCandles", "hauntsAhead", "(II)I"⟩, 2) := ⟨⟨by decide +kernel, by decide +kernel⟩, List.mem_of_getElem? (i := 18) (by decide +kernel), List.mem_of_getElem? (i := 458) (by decide +kernel), List.mem_of_getElem? (i := 459) (by decide +kernel)⟩
theorem lw_p7 : lw_okq (⟨"GhostCandles", "checkRoomFor", "(III)V"⟩, 2) := ⟨⟨by decide +kernel, by decide +kernel⟩, List.mem_of_getElem? (i := 18) (by decide +kernel), List.mem_of_getElem? (i := 592) (by decide +kernel), List.mem_of_getElem? (i := 593) (by decide +kernel)⟩
def lw_privs_1 : List (MethodName × Nat) := [(⟨"java/lang/Throwable", "fillInStackTrace", "(I)Ljava/lang/Throwable;"⟩, 6), (⟨"GhostCandles", "checkGhost", "(I)V"⟩, 2), (⟨"GhostCandles$House", "relight", "()V"⟩, 9), (⟨"GhostCandles$House", "turned", "(JI)I"⟩, 9), (⟨"GhostCandles$Night", "takeStep", "(I)V"⟩, 5), (⟨"GhostCandles$Night", "hauntsOrFears", "(I)Z"⟩, 5), (⟨"GhostCandles", "hauntsAhead", "(II)I"⟩, 2), (⟨"GhostCandles", "checkRoomFor", "(III)V"⟩, 2)]
theorem lw_r1 : ∀ q ∈ lw_privs_1, lw_okq q := List.forall_mem_cons.mpr ⟨lw_p0, List.forall_mem_cons.mpr ⟨lw_p1, List.forall_mem_cons.mpr ⟨lw_p2, List.forall_mem_cons.mpr ⟨lw_p3, List.forall_mem_cons.mpr ⟨lw_p4, List.forall_mem_cons.mpr ⟨lw_p5, List.forall_mem_cons.mpr ⟨lw_p6, List.forall_mem_cons.mpr ⟨lw_p7, fun _ h => absurd h List.not_mem_nil⟩⟩⟩⟩⟩⟩⟩⟩
def lw_privs : List (MethodName × Nat) := lw_privs_1
def lw_tbl : List Cond := k2_sels lw_privs ++ tables_1
theorem lw_privs_ok : ∀ q ∈ lw_privs, lw_okq q := lw_r1
/-- the streams that the claim lets the run draw from -/
abbrev lw_cs : List Choice := [Jvm.Choice.named "NaN.bits"]
theorem lw_bits : nanBits ∈ lw_cs := by first | decide | exact List.mem_cons_self | simp [lw_cs, nanBits]

/-! ===== BEGIN words of one list among another's, by their places ===== -/
theorem goodIn_r {big : List Cond} (ws : List Cond) (ps : List Nat) (hp : ws = ps.filterMap (fun i => big[i]?)) (h : ws.all goodWord = true) : GoodIn big ws := by
  intro w hw
  have h1 := List.all_eq_true.mp h w hw
  rw [hp] at hw
  obtain ⟨i, -, hi⟩ := List.mem_filterMap.mp hw
  have hm : w ∈ big := by first | exact List.mem_of_getElem? hi | exact List.getElem?_mem hi
  exact ⟨hm, good_of_word h1⟩
theorem goodIn_app {big a b : List Cond} (ha : GoodIn big a) (hb : GoodIn big b) : GoodIn big (a ++ b) := fun w h => (List.mem_append.mp h).elim (ha w) (hb w)
theorem goodIn_ca {big a b : List Cond} {c : Cond} (ha : GoodIn big (c :: a)) (hb : GoodIn big b) : GoodIn big (c :: (a ++ b)) := fun w h => (List.mem_cons.mp h).elim (fun e => ha w (List.mem_cons.mpr (Or.inl e))) (fun h => (List.mem_append.mp h).elim (fun h => ha w (List.mem_cons.mpr (Or.inr h))) (hb w))
theorem goodIn_sub {big ws : List Cond} (hm : ∀ w ∈ ws, w ∈ big) (h : ws.all goodWord = true) : GoodIn big ws := fun w hw => ⟨hm w hw, good_of_word (List.all_eq_true.mp h w hw)⟩
/-! ===== END ===== -/


/-! ===== BEGIN exceptions that leave a method, and their catching by the caller (launches without stack traces) ===== -/
section VXA
/-! The laws vx_back, vx_callV, vx_callS, vx_callSW, vx_throw0, vx_throwS follow proofs of the library, with one case more: JvmDerived/Free/Laws.lean (Back.of_free), Shelf42/LK1.lean (callV, callS), Shelf/KitTraced.lean (throwNew0V, throwNewS). -/
/-- where a method has thrown q: the class by its name, the cell, what was written, the world -/
def vx_T (XC : String → State → State → Prop) (st : State) (q : Addr) (t : State) (mc ms : Nat) (free : Addr → Prop) : Prop :=
  ∃ (E : String) (ce : Cell) (L : List Loc), XC E st t ∧ t.heap[q]? = some ce ∧ ce.vm = .none ∧ st.vm.findClass E = some ce.cls ∧ st.WarmedH t.vm ∧ st.sameButNew ({ t with vm := st.vm } : State) L mc ms ∧ ∀ z ∈ L, free z.base
def vx_Q (Qc : Array Value → State → Outcome → State → Prop) (XC : String → State → State → Prop) (mc ms : Nat) (free : Addr → Prop) : Array Value → State → Outcome → State → Prop := fun a st o t =>
  (Qc a st o t ∧ ∃ L, FrameEnd st o t L mc ms ∧ ∀ q ∈ L, free q.base) ∨ ∃ q, o = .threw q ∧ vx_T XC st q t mc ms free
/-- a callee that returns or throws -/
def vx_Met (l : Launch) (y : MethodName) (ws : List Cond) (rm : Room) (Pc : Array Value → State → Prop) (Qc : Array Value → State → Outcome → State → Prop) (XC : String → State → State → Prop) (mc ms : Nat) (free : Addr → Prop) : Prop :=
  MetFree l y (headSpec ws rm) Pc (fun _ _ _ _ _ => True) (vx_Q Qc XC mc ms free)
def vx_Post (XC : String → State → State → Prop) (mc ms : Nat) (free : Addr → Prop) : Pt → Array Value → Addr → Pt → Prop := fun A a q B =>
  ∃ (g : JFrame) (mk : MethodId) (t : State) (L : List Loc) (E : String) (ce : Cell), B.U.heap = t.heap ∧ B.U.vm = t.vm ∧ XC E (A.U.calling g mk a) t ∧ t.heap[q]? = some ce ∧ ce.vm = .none ∧ A.U.vm.findClass E = some ce.cls ∧ B.locs = A.locs ++ L ∧ (∀ z ∈ L, free z.base) ∧ B.cells = A.cells + mc ∧ B.slots = A.slots + ms
def vx_Back (l : Launch) (R : Room) (p : Program) (e : Env) (below : List Frame) (s : State) (sargs : Array Value) (y : MethodName) (len W9 : Nat)
    (Pre : Pt → Array Value → Prop) (Post : Pt → Array Value → Option Value → Pt → Prop) (PostX : Pt → Array Value → Addr → Pt → Prop) : Prop :=
  ∀ (m : MethodId) (meth : Method) (c : Code) (A : Pt) (g : JFrame) (ig : Instr) (mk : MethodId) (a : Array Value),
    Stand p l e R s m sargs below meth c A.U A.locs A.cells A.slots → g.method = m → g.locals.size = c.maxLocals → decode c.code g.pc = .ok (ig, len) →
    2 * g.monitorRoom + (g.stack.map fun v => v.category).sum ≤ W9 → A.U.methodNamed? y = some mk → Pre A a →
    (∃ (v : Option Value) (B : Pt), Stand p l e R s m sargs below meth c B.U B.locs B.cells B.slots ∧ Post A a v B ∧
      Steps p.tables e below (doInvoke e (A.U.setTop g) [] mk a).1 (B.U.setTop { g with pc := g.pc + len, stack := v.toList ++ g.stack })) ∨
    (∃ (q : Addr) (B : Pt), Stand p l e R s m sargs below meth c B.U B.locs B.cells B.slots ∧ PostX A a q B ∧
      Steps p.tables e below (doInvoke e (A.U.setTop g) [] mk a).1 ((B.U.setTop g).pushFrame (.throwing q)))
section Payer
variable {l : Launch} {R : Room} {p : Program} {e : Env} {below : List Frame} {s : State} {sargs : Array Value} {y : MethodName} {len W9 : Nat}
theorem vx_back {ws : List Cond} {rm : Room} {Pc : Array Value → State → Prop} {Qc : Array Value → State → Outcome → State → Prop} {XC : String → State → State → Prop} {mc ms : Nat} {free : Addr → Prop} {bytes : ByteArray} {maxL : Nat} {ret : Option FieldType}
    (hM : vx_Met l y ws rm Pc Qc XC mc ms free) (hblind : FrameBlind Pc) (hrc : rm.cells = mc) (hrs : rm.slots = ms)
    (hframes : rm.frames + 1 ≤ R.frames) (hlocals : W9 + (maxL + 11) + rm.locals ≤ R.locals)
    (hws : ∀ w ∈ ws, ∀ a' U, s.WarmedH U.vm → w.before a' U = true) (hcode : Cond.code y bytes maxL ret ∈ ws) (hinit : ∀ a' U, s.WarmedH U.vm → (Cond.initialized y.cls).before a' U = true) :
    vx_Back l R p e below s sargs y len W9 (PreOf R mc ms Pc) (PostOf Qc mc ms free) (vx_Post XC mc ms free) := by
  intro m meth c A g ig mk a X hg hsize hdg hW hn hp
  have h1 : (headSpec ws rm).pre.before a A.U = true := atoms_intro fun w hw => hws w hw _ _ X.warmed
  have h2 : (Cond.code y bytes maxL ret).before a A.U = true := hws _ hcode _ _ X.warmed
  have h3 : (Cond.initialized y.cls).before a A.U = true := hinit _ _ X.warmed
  have h4 : A.cells + (headSpec ws rm).room.cells ≤ R.cells := by rw [show (headSpec ws rm).room.cells = mc from hrc]; exact hp.1
  have h5 : A.slots + (headSpec ws rm).room.slots ≤ R.slots := by rw [show (headSpec ws rm).room.slots = ms from hrs]; exact hp.2.1
  have hPc : Pc a (A.U.calling g mk a) := hblind _ _ _ _ hp.2.2
  obtain ⟨U, Ls, c0, s0⟩ := A
  dsimp only [Pt.U, Pt.locs, Pt.cells, Pt.slots] at h1 h2 h3 h4 h5 X hn hPc ⊢
  obtain ⟨methY, cY, hmY, hcY, -, hlY, -, -, -, -⟩ := Cond.code_spec hn h2
  obtain ⟨kY, hkY, -⟩ := className_of_methodNamed hn
  have hinitY : kY.init = .initialized := Cond.initialized_spec (findClass_of_methodNamed hn) hkY h3
  have h : At U g.method c below := by rw [hg]; exact X.here
  have hlocals9 : W9 + (maxL + 11) + (headSpec ws rm).room.locals ≤ R.locals := hlocals
  have happ : (headSpec ws rm).appliesLoose y e.platform (U.calling g mk a) = true :=
    Spec.appliesLoose_calling (g := g) h hdg hn hkY hinitY
      (X.room_calling (g := g) (R' := (headSpec ws rm).room) hsize hmY hcY hframes (by rw [hlY]; omega) h4 h5) h1
  obtain ⟨mid, hmid⟩ := h.above
  have hfr : (U.setTop g).frames = (.java g :: mid) ++ below := by rw [State.frames_setTop' g h.top, hmid]; rfl
  obtain ⟨o, s₂, hsteps, -, hend, hq⟩ := Steps.callFree hM p X.admits X.cas X.clock (acts := []) hfr happ hPc trivial
  have hq' : vx_Q Qc XC mc ms free a (U.calling g mk a) o s₂ := hq
  rw [State.frames_setTop' g h.top] at hend
  obtain ⟨g₀, hg0⟩ := Option.isSome_iff_exists.mp h.top
  obtain ⟨r, hr⟩ := State.topJava?_eq_some.mp hg0
  have hr' : (({ U with heap := s₂.heap, slotsUsed := s₂.slotsUsed } : State).setVm s₂.vm).frames = .java g₀ :: r := hr
  rcases hq' with ⟨hqc, L, hfe, hL⟩ | ⟨q, rfl, E, ce, L, hx, hce, hcv, hcl, hW₂, hsm, hL⟩
  · obtain ⟨⟨v, rfl⟩, hW₂, e2, q2, q3, q4, q5, q6⟩ := id hfe
    have e3 : s₂ = ({ (U.calling g mk a).setFrames s₂.frames with heap := s₂.heap, slotsUsed := s₂.slotsUsed } : State).setVm s₂.vm := by
      have : s₂ = ({ s₂ with vm := (U.calling g mk a).vm } : State).setVm s₂.vm := rfl
      rw [e2] at this
      exact this
    obtain ⟨c₂, i₂, len₂, hc₂, hd₂, hf₂⟩ := hend
    have hW' : U.WarmedH s₂.vm := hW₂
    have hcc : c₂ = c := by
      have h1 : s₂.code? g.method = U.code? g.method := by
        rw [State.code?_eq, State.code?_eq, hW'.alike.method?]
      exact Option.some.inj (hc₂.symm.trans (h1.trans h.code))
    subst hcc
    have hlen : len₂ = len := by rw [hdg] at hd₂; cases hd₂; rfl
    subst hlen
    have hs₂ : s₂ = (({ U with heap := s₂.heap, slotsUsed := s₂.slotsUsed } : State).setVm s₂.vm).setTop { g with pc := g.pc + len₂, stack := v.toList ++ g.stack } := by
      refine e3.trans ?_
      rw [hf₂, State.calling_eq h.top, State.setFrames_setFrames, State.setTop_of_frames _ hr', hr]
      rfl
    have hsame : U.sameButNew ({ U with heap := s₂.heap, slotsUsed := s₂.slotsUsed } : State) L mc ms := by
      refine ⟨?_, q2, q3, q4, q5, q6⟩
      obtain ⟨t, ht, -⟩ := State.frames_cons hr
      show ({ U with heap := s₂.heap, slotsUsed := s₂.slotsUsed } : State) = { U.setFrames U.frames with heap := s₂.heap, slotsUsed := s₂.slotsUsed }
      rw [State.setFrames_self ht]
    subst hg
    refine Or.inl ⟨v, ⟨(({ U with heap := s₂.heap, slotsUsed := s₂.slotsUsed } : State).setVm s₂.vm), Ls ++ L, c0 + mc, s0 + ms⟩,
      ⟨X.admits, X.cas, X.clock, X.frames, X.room, X.hears, X.method, X.code, (X.here.setHeapUsed s₂.heap s₂.slotsUsed).setVm hW'.alike, X.tail, State.WarmedH.trans X.warmed hW', X.limits, X.bytes, X.same.trans (hsame.setVm s.vm)⟩,
      ⟨g, mk, s₂, L, rfl, rfl, hqc, rfl, hL, rfl, rfl⟩, ?_⟩
    show Steps p.tables e below _ ((({ U with heap := s₂.heap, slotsUsed := s₂.slotsUsed } : State).setVm s₂.vm).setTop { g with pc := g.pc + len₂, stack := v.toList ++ g.stack })
    rw [← hs₂]
    exact hsteps
  · obtain ⟨e2, q2, q3, q4, q5, q6⟩ := id hsm
    have e3 : s₂ = ({ (U.calling g mk a).setFrames s₂.frames with heap := s₂.heap, slotsUsed := s₂.slotsUsed } : State).setVm s₂.vm := by
      have : s₂ = ({ s₂ with vm := (U.calling g mk a).vm } : State).setVm s₂.vm := rfl
      rw [e2] at this
      exact this
    have hf₂ : s₂.frames = .throwing q :: .java g :: U.frames.tail := hend
    have hW' : U.WarmedH s₂.vm := hW₂
    have hs₂ : s₂ = ((({ U with heap := s₂.heap, slotsUsed := s₂.slotsUsed } : State).setVm s₂.vm).setTop g).pushFrame (.throwing q) := by
      refine e3.trans ?_
      rw [hf₂, State.calling_eq h.top, State.setFrames_setFrames, State.pushFrame, State.frames_setTop _ hr', State.setTop_of_frames _ hr', State.setFrames_setFrames, hr]
      rfl
    have hsame : U.sameButNew ({ U with heap := s₂.heap, slotsUsed := s₂.slotsUsed } : State) L mc ms := by
      refine ⟨?_, q2, q3, q4, q5, q6⟩
      obtain ⟨t, ht, -⟩ := State.frames_cons hr
      show ({ U with heap := s₂.heap, slotsUsed := s₂.slotsUsed } : State) = { U.setFrames U.frames with heap := s₂.heap, slotsUsed := s₂.slotsUsed }
      rw [State.setFrames_self ht]
    subst hg
    refine Or.inr ⟨q, ⟨(({ U with heap := s₂.heap, slotsUsed := s₂.slotsUsed } : State).setVm s₂.vm), Ls ++ L, c0 + mc, s0 + ms⟩,
      ⟨X.admits, X.cas, X.clock, X.frames, X.room, X.hears, X.method, X.code, (X.here.setHeapUsed s₂.heap s₂.slotsUsed).setVm hW'.alike, X.tail, State.WarmedH.trans X.warmed hW', X.limits, X.bytes, X.same.trans (hsame.setVm s.vm)⟩,
      ⟨g, mk, s₂, L, E, ce, rfl, rfl, hx, hce, hcv, hcl, rfl, hL, rfl, rfl⟩, ?_⟩
    show Steps p.tables e below _ (((({ U with heap := s₂.heap, slotsUsed := s₂.slotsUsed } : State).setVm s₂.vm).setTop g).pushFrame (.throwing q))
    rw [← hs₂]
    exact hsteps
end Payer
section Calls
variable {p : Program} {l : Launch} {e : Env} {R : Room} {s : State} {m : MethodId} {args : Array Value} {below : List Frame} {meth : Method} {c : Code} {T : State} {locs : List Loc} {cells slots : Nat}
theorem vx_callV (X : Stand p l e R s m args below meth c T locs cells slots) (hexec : p.tables.exec = Jvm.exec) {own C : String} {index : Nat} {y : MethodName} {bytes : ByteArray} {maxL : Nat} {ret : Option FieldType}
    (hown : s.vm.findClass own = some m.cls) (hlink : (Cond.methodLink own index y).before args s = true) (hinst : (Cond.instanceMethod y).before args s = true) (hsel : (Cond.selects C y y).before args s = true)
    (hcode : (Cond.code y bytes maxL ret).before args s = true) (hy : y.cls ≠ "java/lang/invoke/MethodHandle" ∧ y.cls ≠ "java/lang/invoke/VarHandle")
    {W9 : Nat} {Pre : Pt → Array Value → Prop} {Post : Pt → Array Value → Option Value → Pt → Prop} {PostX : Pt → Array Value → Addr → Pt → Prop} (hK : vx_Back l R p e below s args y 3 W9 Pre Post PostX)
    {b : Addr} {cellB : Cell} (hcell : T.heap[b]? = some cellB) (hobj : cellB.vm.isStatics = false) (hcls : s.vm.findClass C = some cellB.cls)
    {g : JFrame} (hg : g.method = m) (hsize : g.locals.size = c.maxLocals) {argsL rest : List Value} (hlen : ∀ sig, parseMethodDescriptor y.desc = some sig → argsL.length = sig.parameters.length)
    (hstack : g.stack = argsL.reverse ++ .ref b :: rest) (hW : 2 * g.monitorRoom + (rest.map fun v => v.category).sum ≤ W9) (hdg : decode c.code g.pc = .ok (.invokevirtual index, 3))
    (hpre : ∀ vm₁, s.WarmedH vm₁ → Pre ⟨T.setVm vm₁, locs, cells, slots⟩ (Value.ref b :: argsL).toArray) :
    (∃ (v : Option Value) (vm₁ : Vm) (B : Pt), s.WarmedH vm₁ ∧ Stand p l e R s m args below meth c B.U B.locs B.cells B.slots ∧ Post ⟨T.setVm vm₁, locs, cells, slots⟩ (Value.ref b :: argsL).toArray v B ∧
      ∀ target, Steps p.tables e below (B.U.setTop { g with pc := g.pc + 3, stack := v.toList ++ rest }) target → Steps p.tables e below (T.setTop g) target) ∨
    (∃ (q : Addr) (vm₁ : Vm) (B : Pt), s.WarmedH vm₁ ∧ Stand p l e R s m args below meth c B.U B.locs B.cells B.slots ∧ PostX ⟨T.setVm vm₁, locs, cells, slots⟩ (Value.ref b :: argsL).toArray q B ∧
      Steps p.tables e below (T.setTop g) ((B.U.setTop { g with stack := rest }).pushFrame (.throwing q))) := by
  obtain ⟨mk, methM, hnamed, hmethM, hstM, habM⟩ := Cond.instanceMethod_spec hinst
  obtain ⟨methM', cM, hmethM', -, -, -, -, -, -, hsigM⟩ := Cond.code_spec hnamed hcode
  cases hmethM.symm.trans hmethM'
  obtain ⟨c2, r2, m2, q1, q2, q3, q4, kP, hkP, hkPi⟩ := Cond.selects_spec hsel
  cases hcls.symm.trans q1
  cases (State.methodFound?_of_named hnamed hy).symm.trans q2
  cases hnamed.symm.trans q3
  have hselP : selectMethod e.platform s.vm cellB.cls mk = .method mk := by rw [Launch.admits_selectMethod X.admits]; exact q4
  obtain ⟨vm₁, X₁, hstep₁⟩ := X.invokevirtual hexec hown hlink hnamed hmethM hstM hkP hkPi hy (a := b) (cell := cellB) hcell
    (fun z h => by rw [h] at hobj; cases hobj) hselP hmethM habM hkP hkPi (g := g) hg (argsL := argsL) (rest := rest) (hlen _ hsigM) hstack hdg
  rcases hK m meth c ⟨T.setVm vm₁, locs, cells, slots⟩ { g with stack := rest } (.invokevirtual index) mk (Value.ref b :: argsL).toArray X₁ hg hsize hdg hW (X₁.named hnamed) (hpre vm₁ X₁.warmed) with ⟨v, B, X', hpost, hsteps⟩ | ⟨q, B, X', hpost, hsteps⟩
  · exact Or.inl ⟨v, vm₁, B, X₁.warmed, X', hpost, fun target h => hstep₁ _ fun acts => by rw [doInvoke_state]; exact hsteps.trans h⟩
  · exact Or.inr ⟨q, vm₁, B, X₁.warmed, X', hpost, hstep₁ _ fun acts => by rw [doInvoke_state]; exact hsteps⟩
theorem vx_callS (X : Stand p l e R s m args below meth c T locs cells slots) (hexec : p.tables.exec = Jvm.exec) {own : String} {index : Nat} {y : MethodName} {bytes : ByteArray} {maxL : Nat} {ret : Option FieldType}
    (hown : s.vm.findClass own = some m.cls) (hlink : (Cond.methodLink own index y).before args s = true) (hstat : (Cond.static y).before args s = true) (hinit : (Cond.initialized y.cls).before args s = true)
    (hcode : (Cond.code y bytes maxL ret).before args s = true) (hy : y.cls ≠ "java/lang/invoke/MethodHandle" ∧ y.cls ≠ "java/lang/invoke/VarHandle")
    {W9 : Nat} {Pre : Pt → Array Value → Prop} {Post : Pt → Array Value → Option Value → Pt → Prop} {PostX : Pt → Array Value → Addr → Pt → Prop} (hK : vx_Back l R p e below s args y 3 W9 Pre Post PostX)
    {g : JFrame} (hg : g.method = m) (hsize : g.locals.size = c.maxLocals) {argsL rest : List Value} (hlen : ∀ sig, parseMethodDescriptor y.desc = some sig → argsL.length = sig.parameters.length)
    (hstack : g.stack = argsL.reverse ++ rest) (hW : 2 * g.monitorRoom + (rest.map fun v => v.category).sum ≤ W9) (hdg : decode c.code g.pc = .ok (.invokestatic index, 3))
    (hpre : ∀ vm₁, s.WarmedH vm₁ → Pre ⟨T.setVm vm₁, locs, cells, slots⟩ argsL.toArray) :
    (∃ (v : Option Value) (vm₁ : Vm) (B : Pt), s.WarmedH vm₁ ∧ Stand p l e R s m args below meth c B.U B.locs B.cells B.slots ∧ Post ⟨T.setVm vm₁, locs, cells, slots⟩ argsL.toArray v B ∧
      ∀ target, Steps p.tables e below (B.U.setTop { g with pc := g.pc + 3, stack := v.toList ++ rest }) target → Steps p.tables e below (T.setTop g) target) ∨
    (∃ (q : Addr) (vm₁ : Vm) (B : Pt), s.WarmedH vm₁ ∧ Stand p l e R s m args below meth c B.U B.locs B.cells B.slots ∧ PostX ⟨T.setVm vm₁, locs, cells, slots⟩ argsL.toArray q B ∧
      Steps p.tables e below (T.setTop g) ((B.U.setTop { g with stack := rest }).pushFrame (.throwing q))) := by
  obtain ⟨mk, hnamed⟩ := Cond.code_named hcode
  obtain ⟨methM, cM, hmethM, -, -, -, -, -, -, hsigM⟩ := Cond.code_spec hnamed hcode
  have hstatic : methM.isStatic = true := Cond.static_spec hnamed hmethM hstat
  obtain ⟨kP, hkP, -⟩ := className_of_methodNamed hnamed
  have hinitP : kP.init = .initialized := Cond.initialized_spec (findClass_of_methodNamed hnamed) hkP hinit
  obtain ⟨vm₁, X₁, hstep₁⟩ := X.invokestatic hexec hown hlink hnamed hmethM hstatic hkP hinitP hy (g := g) hg (argsL := argsL) (rest := rest) (hlen _ hsigM) hstack hdg
  rcases hK m meth c ⟨T.setVm vm₁, locs, cells, slots⟩ { g with stack := rest } (.invokestatic index) mk argsL.toArray X₁ hg hsize hdg hW (X₁.named hnamed) (hpre vm₁ X₁.warmed) with ⟨v, B, X', hpost, hsteps⟩ | ⟨q, B, X', hpost, hsteps⟩
  · exact Or.inl ⟨v, vm₁, B, X₁.warmed, X', hpost, fun target h => hstep₁ _ fun acts => by rw [doInvoke_state]; exact hsteps.trans h⟩
  · exact Or.inr ⟨q, vm₁, B, X₁.warmed, X', hpost, hstep₁ _ fun acts => by rw [doInvoke_state]; exact hsteps⟩
end Calls
theorem vx_cls {s : State} {T : State} {vm₁ : Vm} {E : String} {k : ClassId} (hW : s.WarmedH vm₁) (h : (T.setVm vm₁).vm.findClass E = some k) : s.vm.findClass E = some k := by
  have h1 : vm₁.findClass E = some k := h
  rw [hW.alike.findClass] at h1
  exact h1
/-- the method's frame g, with q thrown over it -/
def vx_W (p : Program) (l : Launch) (e : Env) (R : Room) (s : State) (m : MethodId) (args : Array Value) (below : List Frame) (meth : Method) (c : Code) (H : Heap) (locs : List Loc) (cells slots : Nat) (Q : State → Prop) (g : JFrame) (q : Addr) : Prop :=
  ∀ T : State, T.heap = H → Stand p l e R s m args below meth c T locs cells slots → ∃ t, Steps p.tables e below ((T.setTop g).pushFrame (.throwing q)) t ∧ Q t
def vx_Run (p : Program) (l : Launch) (e : Env) (R : Room) (s : State) (m : MethodId) (args : Array Value) (below : List Frame) (meth : Method) (c : Code) (H : Heap) (locs : List Loc) (cells slots mc ms : Nat) (g : JFrame) (rest : List Value) (Qa : State → Outcome → State → Prop) (XC : String → State → State → Prop) (free : Addr → Prop) : Prop :=
  ∀ T : State, T.heap = H → Stand p l e R s m args below meth c T locs cells slots →
    (∃ (v : Option Value) (st₀ t T' : State) (L : List Loc), st₀.heap = H ∧ Stand p l e R s m args below meth c T' (locs ++ L) (cells + mc) (slots + ms) ∧ (∀ q ∈ L, free q.base) ∧ T'.heap = t.heap ∧ T'.vm = t.vm ∧ Qa st₀ (.returned v) t ∧
      Goes p e below T g T' { g with pc := g.pc + 3, stack := v.toList ++ rest }) ∨
    (∃ (q : Addr) (st₀ t T' : State) (L : List Loc) (E : String) (ce : Cell), st₀.heap = H ∧ Stand p l e R s m args below meth c T' (locs ++ L) (cells + mc) (slots + ms) ∧ (∀ z ∈ L, free z.base) ∧ T'.heap = t.heap ∧ T'.vm = t.vm ∧ XC E st₀ t ∧ t.heap[q]? = some ce ∧ ce.vm = .none ∧ s.vm.findClass E = some ce.cls ∧
      Steps p.tables e below (T.setTop g) ((T'.setTop { g with stack := rest }).pushFrame (.throwing q)))
def vx_X {S : Type} (px : S → Prop) (B : String → S → State → Prop) (A : Nat → Prop) : String → State → State → Prop := fun E st t => ∃ u : S, px u ∧ B E u t ∧ va_F A st t
section Runs
variable {p : Program} {l : Launch} {e : Env} {R : Room} {s : State} {m : MethodId} {args : Array Value} {below : List Frame} {meth : Method} {c : Code} {H : Heap} {locs : List Loc} {cells slots : Nat}
variable {y : MethodName} {bytes cc : ByteArray} {maxL nL mc ms n index : Nat} {ret : Option FieldType} {ws : List Cond} {rm : Room} {Pc : Array Value → State → Prop} {Qc : Array Value → State → Outcome → State → Prop} {XC : String → State → State → Prop} {free : Addr → Prop} {Ts : List Cond} {own C : String} {b : Addr} {As rest : List Value} {g : JFrame}
theorem vx_callBack (cb : CallB R s args own index y bytes maxL ret ws rm mc ms n) (hM : vx_Met l y ws rm Pc Qc XC mc ms free) (hbl : FrameBlind Pc) : vx_Back l R p e below s args y 3 8 (PreOf R mc ms Pc) (PostOf Qc mc ms free) (vx_Post XC mc ms free) := by
  obtain ⟨hrc, hrs, hfr, hlo, hws, hcw, -, hini, -⟩ := cb
  exact vx_back (bytes := bytes) (maxL := maxL) (ret := ret) hM hbl hrc hrs hfr hlo hws hcw (fun a' U hW => word_at hW (Or.inl (by first | rfl | simp [Cond.onTables, Cond.keeps, Cond.steady])) hini)
theorem vx_runV (S : CallFix p m c cc nL s args Ts own) (hM : vx_Met l y ws rm Pc Qc XC mc ms free) (cw : CallW R s args own C index y bytes maxL ret ws rm mc ms n) (hp : PreV s H C b Pc As)
    (hg : g.method = m) (hn : As.length = n) (hsize : g.locals.size = nL) (hstack : g.stack = As.reverse ++ .ref b :: rest) (hW : 2 * g.monitorRoom + (rest.map fun v => v.category).sum ≤ 8) (hdg : decode cc g.pc = .ok (.invokevirtual index, 3)) (hf : cells + mc ≤ R.cells ∧ slots + ms ≤ R.slots) :
    vx_Run p l e R s m args below meth c H locs cells slots mc ms g rest (Qc (Value.ref b :: As).toArray) XC free := by
  have hK : vx_Back l R p e below s args y 3 8 (PreOf R mc ms Pc) (PostOf Qc mc ms free) (vx_Post XC mc ms free) := vx_callBack cw.1 hM hp.1
  obtain ⟨⟨-, -, -, -, -, -, hcode, -, hy, hlen, hl⟩, hin, hse⟩ := cw
  obtain ⟨hx, hb, hml, ho, -⟩ := S
  obtain ⟨-, ⟨cellB, hcB, hoB, hclB⟩, hPc⟩ := hp
  intro T hT X
  rcases vx_callV X hx (C := C) (bytes := bytes) (maxL := maxL) (ret := ret) ho hl hin hse hcode hy hK (by rw [hT]; exact hcB) hoB hclB hg (hsize.trans hml.symm) (argsL := As) (rest := rest) (fun sig h => hn.trans (hlen sig h)) hstack hW (by rw [hb]; exact hdg)
    (fun vm₁ hW₁ => ⟨hf.1, hf.2, hPc (T.setVm vm₁) hT hW₁⟩) with ⟨v, vm₁, ⟨U', l2, c2, s2⟩, hW₁, X', ⟨g', mk, t, L, e1, e2, hq, h1, hL, h2, h3⟩, st⟩ | ⟨q, vm₁, ⟨U', l2, c2, s2⟩, hW₁, X', ⟨g', mk, t, L, E, ce, e1, e2, hq, hce, hcv, hcl, h1, hL, h2, h3⟩, st⟩
  · dsimp only [Pt.U, Pt.locs, Pt.cells, Pt.slots] at X' e1 e2 h1 h2 h3 st
    subst h1; subst h2; subst h3
    exact Or.inl ⟨v, (T.setVm vm₁).calling g' mk (Value.ref b :: As).toArray, t, U', L, hT, X', hL, e1, e2, hq, st⟩
  · dsimp only [Pt.U, Pt.locs, Pt.cells, Pt.slots] at X' e1 e2 h1 h2 h3 st hcl
    subst h1; subst h2; subst h3
    exact Or.inr ⟨q, (T.setVm vm₁).calling g' mk (Value.ref b :: As).toArray, t, U', L, E, ce, hT, X', hL, e1, e2, hq, hce, hcv, vx_cls hW₁ hcl, st⟩
theorem vx_runS (S : CallFix p m c cc nL s args Ts own) (hM : vx_Met l y ws rm Pc Qc XC mc ms free) (cw : CallB R s args own index y bytes maxL ret ws rm mc ms n ∧ (Cond.static y).before args s = true) (hp : PreS s H Pc As)
    (hg : g.method = m) (hn : As.length = n) (hsize : g.locals.size = nL) (hstack : g.stack = As.reverse ++ rest) (hW : 2 * g.monitorRoom + (rest.map fun v => v.category).sum ≤ 8) (hdg : decode cc g.pc = .ok (.invokestatic index, 3)) (hf : cells + mc ≤ R.cells ∧ slots + ms ≤ R.slots) :
    vx_Run p l e R s m args below meth c H locs cells slots mc ms g rest (Qc As.toArray) XC free := by
  have hK : vx_Back l R p e below s args y 3 8 (PreOf R mc ms Pc) (PostOf Qc mc ms free) (vx_Post XC mc ms free) := vx_callBack cw.1 hM hp.1
  obtain ⟨⟨-, -, -, -, -, -, hcode, hini, hy, hlen, hl⟩, hstt⟩ := cw
  obtain ⟨hx, hb, hml, ho, -⟩ := S
  intro T hT X
  rcases vx_callS X hx (bytes := bytes) (maxL := maxL) (ret := ret) ho hl hstt hini hcode hy hK hg (hsize.trans hml.symm) (argsL := As) (rest := rest) (fun sig h => hn.trans (hlen sig h)) hstack hW (by rw [hb]; exact hdg)
    (fun vm₁ hW₁ => ⟨hf.1, hf.2, hp.2 (T.setVm vm₁) hT hW₁⟩) with ⟨v, vm₁, ⟨U', l2, c2, s2⟩, hW₁, X', ⟨g', mk, t, L, e1, e2, hq, h1, hL, h2, h3⟩, st⟩ | ⟨q, vm₁, ⟨U', l2, c2, s2⟩, hW₁, X', ⟨g', mk, t, L, E, ce, e1, e2, hq, hce, hcv, hcl, h1, hL, h2, h3⟩, st⟩
  · dsimp only [Pt.U, Pt.locs, Pt.cells, Pt.slots] at X' e1 e2 h1 h2 h3 st
    subst h1; subst h2; subst h3
    exact Or.inl ⟨v, (T.setVm vm₁).calling g' mk As.toArray, t, U', L, hT, X', hL, e1, e2, hq, st⟩
  · dsimp only [Pt.U, Pt.locs, Pt.cells, Pt.slots] at X' e1 e2 h1 h2 h3 st hcl
    subst h1; subst h2; subst h3
    exact Or.inr ⟨q, (T.setVm vm₁).calling g' mk As.toArray, t, U', L, E, ce, hT, X', hL, e1, e2, hq, hce, hcv, vx_cls hW₁ hcl, st⟩
end Runs
section Rows
variable {p : Program} {l : Launch} {e : Env} {R : Room} {s : State} {m : MethodId} {args : Array Value} {below : List Frame} {meth : Method} {c : Code} {H : Heap} {locs : List Loc} {cells slots : Nat} {Q : State → Prop}
variable {mc ms : Nat} {free : Addr → Prop} {A0 A1 : Nat → Prop} {H0 : Heap} {a : Array Value} {pc : Nat} {ls : Array Slot} {st0 rest : List Value}
theorem vx_keep {st₀ t T' : State} {L : List Loc} (h0 : st₀.heap = H) (e1 : T'.heap = t.heap) (hS : va_S A0 H0 H locs) (hA : ∀ q, q < H.size → A1 q → A0 q) (hf : ∀ q, free q → A0 q) (hL : ∀ q ∈ L, free q.base) (hF : va_F A1 st₀ t) :
    H.size ≤ T'.heap.size ∧ (∀ q : Nat, q < H.size → ¬ A1 q → T'.heap[q]? = H[q]?) ∧ va_S A0 H0 T'.heap (locs ++ L) := by
  obtain ⟨hz, hk⟩ := hF
  rw [h0] at hz hk
  exact ⟨by rw [e1]; exact hz, fun q h1 h2 => by rw [e1]; exact hk q h1 h2,
    ⟨Nat.le_trans hS.1 (by rw [e1]; exact hz), fun q h1 h2 => by rw [e1, hk q (Nat.lt_of_lt_of_le h1 hS.1) (fun z => h2 (hA q (Nat.lt_of_lt_of_le h1 hS.1) z))]; exact hS.2.1 q h1 h2, fun q hq => by
      rcases List.mem_append.mp hq with h | h
      · exact hS.2.2 q h
      · exact hf _ (hL q h)⟩⟩
theorem vx_calli {S SX : Type} {post : Int32 → S → Prop} {px : SX → Prop} {B : S → State → Prop} {BX : String → SX → State → Prop} {AX : Nat → Prop} (hr : vx_Run p l e R s m args below meth c H locs cells slots mc ms (F0 m pc ls st0) rest (va_Qi post B A1 a) (vx_X px BX AX) free) (hS : va_S A0 H0 H locs) (hA : ∀ q, q < H.size → A1 q → A0 q) (hf : ∀ q, free q → A0 q) (hAX : ∀ q, q < H.size → AX q → A0 q)
    (kx : ∀ (E : String) (ce : Cell) (q9 : Addr) (u : SX) (t : State) (H1 : Heap) (locs1 : List Loc), t.heap = H1 → s.vm.Alike t.vm → px u → BX E u t → H.size ≤ H1.size → (∀ q : Nat, q < H.size → ¬ AX q → H1[q]? = H[q]?) → va_S A0 H0 H1 locs1 → H1[q9]? = some ce → ce.vm = .none → s.vm.findClass E = some ce.cls → vx_W p l e R s m args below meth c H1 locs1 (cells + mc) (slots + ms) Q (F0 m pc ls rest) q9)
    (kk : ∀ (r : Int32) (u : S) (t : State) (H1 : Heap) (locs1 : List Loc), t.heap = H1 → s.vm.Alike t.vm → post r u → B u t → H.size ≤ H1.size → (∀ q : Nat, q < H.size → ¬ A1 q → H1[q]? = H[q]?) → va_S A0 H0 H1 locs1 → W p l e R s m args below meth c H1 locs1 (cells + mc) (slots + ms) Q (F0 m (pc + 3) ls (.int r :: rest))) : W p l e R s m args below meth c H locs cells slots Q (F0 m pc ls st0) := by
  intro T hT X
  rcases hr T hT X with ⟨v, st₀, t, T', L, h0, X', hL, e1, e2, ⟨⟨r, u, hv, hp, hb⟩, hF⟩, st⟩ | ⟨q, st₀, t, T', L, E, ce, h0, X', hL, e1, e2, ⟨u, hp, hb, hF⟩, hce, hcv, hcl, st⟩
  · cases hv
    obtain ⟨k1, k2, k3⟩ := vx_keep h0 e1 hS hA hf hL hF
    obtain ⟨t2, a1, b1⟩ := kk r u t T'.heap (locs ++ L) e1.symm (by rw [← e2]; exact X'.warmed.alike) hp hb k1 k2 k3 T' rfl X'
    exact ⟨t2, st t2 a1, b1⟩
  · obtain ⟨k1, k2, k3⟩ := vx_keep h0 e1 hS hAX hf hL hF
    obtain ⟨t2, a1, b1⟩ := kx E ce q u t T'.heap (locs ++ L) e1.symm (by rw [← e2]; exact X'.warmed.alike) hp hb k1 k2 k3 (by rw [e1]; exact hce) hcv hcl T' rfl X'
    exact ⟨t2, st.trans a1, b1⟩
theorem vx_calll {S SX : Type} {post : Int64 → S → Prop} {px : SX → Prop} {B : S → State → Prop} {BX : String → SX → State → Prop} {AX : Nat → Prop} (hr : vx_Run p l e R s m args below meth c H locs cells slots mc ms (F0 m pc ls st0) rest (va_Ql post B A1 a) (vx_X px BX AX) free) (hS : va_S A0 H0 H locs) (hA : ∀ q, q < H.size → A1 q → A0 q) (hf : ∀ q, free q → A0 q) (hAX : ∀ q, q < H.size → AX q → A0 q)
    (kx : ∀ (E : String) (ce : Cell) (q9 : Addr) (u : SX) (t : State) (H1 : Heap) (locs1 : List Loc), t.heap = H1 → s.vm.Alike t.vm → px u → BX E u t → H.size ≤ H1.size → (∀ q : Nat, q < H.size → ¬ AX q → H1[q]? = H[q]?) → va_S A0 H0 H1 locs1 → H1[q9]? = some ce → ce.vm = .none → s.vm.findClass E = some ce.cls → vx_W p l e R s m args below meth c H1 locs1 (cells + mc) (slots + ms) Q (F0 m pc ls rest) q9)
    (kk : ∀ (r : Int64) (u : S) (t : State) (H1 : Heap) (locs1 : List Loc), t.heap = H1 → s.vm.Alike t.vm → post r u → B u t → H.size ≤ H1.size → (∀ q : Nat, q < H.size → ¬ A1 q → H1[q]? = H[q]?) → va_S A0 H0 H1 locs1 → W p l e R s m args below meth c H1 locs1 (cells + mc) (slots + ms) Q (F0 m (pc + 3) ls (.long r :: rest))) : W p l e R s m args below meth c H locs cells slots Q (F0 m pc ls st0) := by
  intro T hT X
  rcases hr T hT X with ⟨v, st₀, t, T', L, h0, X', hL, e1, e2, ⟨⟨r, u, hv, hp, hb⟩, hF⟩, st⟩ | ⟨q, st₀, t, T', L, E, ce, h0, X', hL, e1, e2, ⟨u, hp, hb, hF⟩, hce, hcv, hcl, st⟩
  · cases hv
    obtain ⟨k1, k2, k3⟩ := vx_keep h0 e1 hS hA hf hL hF
    obtain ⟨t2, a1, b1⟩ := kk r u t T'.heap (locs ++ L) e1.symm (by rw [← e2]; exact X'.warmed.alike) hp hb k1 k2 k3 T' rfl X'
    exact ⟨t2, st t2 a1, b1⟩
  · obtain ⟨k1, k2, k3⟩ := vx_keep h0 e1 hS hAX hf hL hF
    obtain ⟨t2, a1, b1⟩ := kx E ce q u t T'.heap (locs ++ L) e1.symm (by rw [← e2]; exact X'.warmed.alike) hp hb k1 k2 k3 (by rw [e1]; exact hce) hcv hcl T' rfl X'
    exact ⟨t2, st.trans a1, b1⟩
theorem vx_callf {S SX : Type} {post : UInt32 → S → Prop} {px : SX → Prop} {B : S → State → Prop} {BX : String → SX → State → Prop} {AX : Nat → Prop} (hr : vx_Run p l e R s m args below meth c H locs cells slots mc ms (F0 m pc ls st0) rest (va_Qf post B A1 a) (vx_X px BX AX) free) (hS : va_S A0 H0 H locs) (hA : ∀ q, q < H.size → A1 q → A0 q) (hf : ∀ q, free q → A0 q) (hAX : ∀ q, q < H.size → AX q → A0 q)
    (kx : ∀ (E : String) (ce : Cell) (q9 : Addr) (u : SX) (t : State) (H1 : Heap) (locs1 : List Loc), t.heap = H1 → s.vm.Alike t.vm → px u → BX E u t → H.size ≤ H1.size → (∀ q : Nat, q < H.size → ¬ AX q → H1[q]? = H[q]?) → va_S A0 H0 H1 locs1 → H1[q9]? = some ce → ce.vm = .none → s.vm.findClass E = some ce.cls → vx_W p l e R s m args below meth c H1 locs1 (cells + mc) (slots + ms) Q (F0 m pc ls rest) q9)
    (kk : ∀ (r : UInt32) (u : S) (t : State) (H1 : Heap) (locs1 : List Loc), t.heap = H1 → s.vm.Alike t.vm → post r u → B u t → H.size ≤ H1.size → (∀ q : Nat, q < H.size → ¬ A1 q → H1[q]? = H[q]?) → va_S A0 H0 H1 locs1 → W p l e R s m args below meth c H1 locs1 (cells + mc) (slots + ms) Q (F0 m (pc + 3) ls (.float r :: rest))) : W p l e R s m args below meth c H locs cells slots Q (F0 m pc ls st0) := by
  intro T hT X
  rcases hr T hT X with ⟨v, st₀, t, T', L, h0, X', hL, e1, e2, ⟨⟨r, u, hv, hp, hb⟩, hF⟩, st⟩ | ⟨q, st₀, t, T', L, E, ce, h0, X', hL, e1, e2, ⟨u, hp, hb, hF⟩, hce, hcv, hcl, st⟩
  · cases hv
    obtain ⟨k1, k2, k3⟩ := vx_keep h0 e1 hS hA hf hL hF
    obtain ⟨t2, a1, b1⟩ := kk r u t T'.heap (locs ++ L) e1.symm (by rw [← e2]; exact X'.warmed.alike) hp hb k1 k2 k3 T' rfl X'
    exact ⟨t2, st t2 a1, b1⟩
  · obtain ⟨k1, k2, k3⟩ := vx_keep h0 e1 hS hAX hf hL hF
    obtain ⟨t2, a1, b1⟩ := kx E ce q u t T'.heap (locs ++ L) e1.symm (by rw [← e2]; exact X'.warmed.alike) hp hb k1 k2 k3 (by rw [e1]; exact hce) hcv hcl T' rfl X'
    exact ⟨t2, st.trans a1, b1⟩
theorem vx_calld {S SX : Type} {post : UInt64 → S → Prop} {px : SX → Prop} {B : S → State → Prop} {BX : String → SX → State → Prop} {AX : Nat → Prop} (hr : vx_Run p l e R s m args below meth c H locs cells slots mc ms (F0 m pc ls st0) rest (va_Qd post B A1 a) (vx_X px BX AX) free) (hS : va_S A0 H0 H locs) (hA : ∀ q, q < H.size → A1 q → A0 q) (hf : ∀ q, free q → A0 q) (hAX : ∀ q, q < H.size → AX q → A0 q)
    (kx : ∀ (E : String) (ce : Cell) (q9 : Addr) (u : SX) (t : State) (H1 : Heap) (locs1 : List Loc), t.heap = H1 → s.vm.Alike t.vm → px u → BX E u t → H.size ≤ H1.size → (∀ q : Nat, q < H.size → ¬ AX q → H1[q]? = H[q]?) → va_S A0 H0 H1 locs1 → H1[q9]? = some ce → ce.vm = .none → s.vm.findClass E = some ce.cls → vx_W p l e R s m args below meth c H1 locs1 (cells + mc) (slots + ms) Q (F0 m pc ls rest) q9)
    (kk : ∀ (r : UInt64) (u : S) (t : State) (H1 : Heap) (locs1 : List Loc), t.heap = H1 → s.vm.Alike t.vm → post r u → B u t → H.size ≤ H1.size → (∀ q : Nat, q < H.size → ¬ A1 q → H1[q]? = H[q]?) → va_S A0 H0 H1 locs1 → W p l e R s m args below meth c H1 locs1 (cells + mc) (slots + ms) Q (F0 m (pc + 3) ls (.double r :: rest))) : W p l e R s m args below meth c H locs cells slots Q (F0 m pc ls st0) := by
  intro T hT X
  rcases hr T hT X with ⟨v, st₀, t, T', L, h0, X', hL, e1, e2, ⟨⟨r, u, hv, hp, hb⟩, hF⟩, st⟩ | ⟨q, st₀, t, T', L, E, ce, h0, X', hL, e1, e2, ⟨u, hp, hb, hF⟩, hce, hcv, hcl, st⟩
  · cases hv
    obtain ⟨k1, k2, k3⟩ := vx_keep h0 e1 hS hA hf hL hF
    obtain ⟨t2, a1, b1⟩ := kk r u t T'.heap (locs ++ L) e1.symm (by rw [← e2]; exact X'.warmed.alike) hp hb k1 k2 k3 T' rfl X'
    exact ⟨t2, st t2 a1, b1⟩
  · obtain ⟨k1, k2, k3⟩ := vx_keep h0 e1 hS hAX hf hL hF
    obtain ⟨t2, a1, b1⟩ := kx E ce q u t T'.heap (locs ++ L) e1.symm (by rw [← e2]; exact X'.warmed.alike) hp hb k1 k2 k3 (by rw [e1]; exact hce) hcv hcl T' rfl X'
    exact ⟨t2, st.trans a1, b1⟩
theorem vx_callv {S SX : Type} {post : S → Prop} {px : SX → Prop} {B : S → State → Prop} {BX : String → SX → State → Prop} {AX : Nat → Prop} (hr : vx_Run p l e R s m args below meth c H locs cells slots mc ms (F0 m pc ls st0) rest (va_Qv post B A1 a) (vx_X px BX AX) free) (hS : va_S A0 H0 H locs) (hA : ∀ q, q < H.size → A1 q → A0 q) (hf : ∀ q, free q → A0 q) (hAX : ∀ q, q < H.size → AX q → A0 q)
    (kx : ∀ (E : String) (ce : Cell) (q9 : Addr) (u : SX) (t : State) (H1 : Heap) (locs1 : List Loc), t.heap = H1 → s.vm.Alike t.vm → px u → BX E u t → H.size ≤ H1.size → (∀ q : Nat, q < H.size → ¬ AX q → H1[q]? = H[q]?) → va_S A0 H0 H1 locs1 → H1[q9]? = some ce → ce.vm = .none → s.vm.findClass E = some ce.cls → vx_W p l e R s m args below meth c H1 locs1 (cells + mc) (slots + ms) Q (F0 m pc ls rest) q9)
    (kk : ∀ (u : S) (t : State) (H1 : Heap) (locs1 : List Loc), t.heap = H1 → s.vm.Alike t.vm → post u → B u t → H.size ≤ H1.size → (∀ q : Nat, q < H.size → ¬ A1 q → H1[q]? = H[q]?) → va_S A0 H0 H1 locs1 → W p l e R s m args below meth c H1 locs1 (cells + mc) (slots + ms) Q (F0 m (pc + 3) ls (rest))) : W p l e R s m args below meth c H locs cells slots Q (F0 m pc ls st0) := by
  intro T hT X
  rcases hr T hT X with ⟨v, st₀, t, T', L, h0, X', hL, e1, e2, ⟨⟨u, hv, hp, hb⟩, hF⟩, st⟩ | ⟨q, st₀, t, T', L, E, ce, h0, X', hL, e1, e2, ⟨u, hp, hb, hF⟩, hce, hcv, hcl, st⟩
  · cases hv
    obtain ⟨k1, k2, k3⟩ := vx_keep h0 e1 hS hA hf hL hF
    obtain ⟨t2, a1, b1⟩ := kk u t T'.heap (locs ++ L) e1.symm (by rw [← e2]; exact X'.warmed.alike) hp hb k1 k2 k3 T' rfl X'
    exact ⟨t2, st t2 a1, b1⟩
  · obtain ⟨k1, k2, k3⟩ := vx_keep h0 e1 hS hAX hf hL hF
    obtain ⟨t2, a1, b1⟩ := kx E ce q u t T'.heap (locs ++ L) e1.symm (by rw [← e2]; exact X'.warmed.alike) hp hb k1 k2 k3 (by rw [e1]; exact hce) hcv hcl T' rfl X'
    exact ⟨t2, st.trans a1, b1⟩
/-- caught by the row x of this method's table; the rows ahead don't take it -/
theorem vx_catch {own name : String} {E : String} {ce : Cell} {q : Addr} (hown : s.vm.findClass own = some m.cls) (pre : List ExceptionTableEntry) (x : ExceptionTableEntry) (suf : List ExceptionTableEntry) (hsplit : c.exceptionTable.toList = pre ++ x :: suf)
    (hpass : ∀ z ∈ pre, covers z pc = false ∨ (z.catchType ≠ 0 ∧ ∃ nm : String, (Cond.classLink own z.catchType nm).before args s = true ∧ va_Nc E nm s)) (hx : covers x pc = true) (h0 : x.catchType ≠ 0)
    (hlink : (Cond.classLink own x.catchType name).before args s = true) (hcast : (Cond.castable E name).before args s = true) (hcell : H[q]? = some ce) (hv : ce.vm = .none) (hcl : s.vm.findClass E = some ce.cls)
    (kk : W p l e R s m args below meth c H locs cells slots Q (F0 m x.handlerPc ls [.ref q])) : vx_W p l e R s m args below meth c H locs cells slots Q (F0 m pc ls rest) q := by
  intro T hT X
  have hpl : e.platform.magicAccessors = ({} : Platform).magicAccessors := by rw [X.admits.platform]
  obtain ⟨c3, c4, hc3, hc4, hasg⟩ := Cond.castable_spec hcast
  cases Option.some.inj (hc3.symm.trans hcl)
  obtain ⟨c5, hc5, hcl5⟩ := Cond.classLink_spec hown hlink e.platform hpl
  cases Option.some.inj (hc4.symm.trans hc5)
  obtain ⟨vm', X', st⟩ := X.thenCaughtThrough q (g := F0 m pc ls rest) rfl (Steps.refl _) (by rw [hT]; exact hcell) (by rw [hv]; rfl) (by obtain ⟨k9, h9, -⟩ := Vm.findClass_spec hcl; exact ⟨k9, h9⟩) pre x suf hsplit
    (fun z hz => by
      rcases hpass z hz with h | ⟨hz0, nm, hl1, hn1⟩
      · exact Or.inl h
      · obtain ⟨c6, hc6, hcl6⟩ := Cond.classLink_spec hown hl1 e.platform hpl
        obtain ⟨a8, b8, h1, h2, h3⟩ := hn1
        cases Option.some.inj (h1.symm.trans hcl)
        cases Option.some.inj (h2.symm.trans hc6)
        exact Or.inr ⟨hz0, _, hcl6, h3⟩) hx (Or.inr ⟨h0, c4, hcl5, hasg⟩)
  obtain ⟨t, a1, b1⟩ := kk (T.setVm vm') hT X'
  exact ⟨t, st.trans a1, b1⟩
end Rows
section Ends
variable {p : Program} {l : Launch} {e : Env} {R : Room} {s : State} {m : MethodId} {args : Array Value} {below : List Frame} {meth : Method} {c : Code} {H : Heap} {locs : List Loc} {cells slots : Nat} {Q : State → Prop}
variable {mc ms : Nat} {free : Addr → Prop} {A0 A1 : Nat → Prop} {H0 : Heap} {a : Array Value} {ls : Array Slot} {st0 rest : List Value}
variable {Qc : Array Value → State → Outcome → State → Prop} {XC : String → State → State → Prop}
/-- what a body that may throw owes at its end -/
def vx_MQ (below : List Frame) (Qc : Array Value → State → Outcome → State → Prop) (XC : String → State → State → Prop) (a : Array Value) (s : State) (mc ms : Nat) (free : Addr → Prop) : State → Prop := fun t =>
  ∃ o, t.status = .running ∧ Ended t below o ∧ vx_Q Qc XC mc ms free a s o t
theorem vx_ret {g : JFrame} {mc ms : Nat} (k : W p l e R s m args below meth c H locs cells slots (MQ below Qc args s mc ms free) g) : W p l e R s m args below meth c H locs cells slots (vx_MQ below Qc XC args s mc ms free) g := by
  intro T hT X
  obtain ⟨t, a1, o, b1, b2, b3, b4⟩ := k T hT X
  exact ⟨t, a1, o, b1, b2, Or.inl ⟨b3, b4⟩⟩
/-- not caught here: it goes on to the caller -/
theorem vx_widen {g : JFrame} {q : Addr} {k n : Nat} (h1 : cells ≤ k) (h2 : slots ≤ n) (kk : vx_W p l e R s m args below meth c H locs k n Q g q) : vx_W p l e R s m args below meth c H locs cells slots Q g q := fun T hT X => kk T hT (stand_widen X h1 h2)
theorem vx_out {pc : Nat} {E : String} {ce : Cell} {q : Addr} {mc ms : Nat} (hout : ∀ x ∈ c.exceptionTable.toList, covers x pc = false) (hlocks : meth.locks = false) (hcell : H[q]? = some ce) (hv : ce.vm = .none) (hcl : s.vm.findClass E = some ce.cls)
    (hx : ∀ t : State, t.heap = H → s.vm.Alike t.vm → XC E s t) (hf : ∀ z ∈ locs, free z.base) (hc : cells ≤ mc) (hs : slots ≤ ms) :
    vx_W p l e R s m args below meth c H locs cells slots (vx_MQ below Qc XC args s mc ms free) (F0 m pc ls rest) q := by
  intro T hT X
  obtain ⟨st1, hrun, hend, hW, hsm⟩ := X.leaveThrown q (g := F0 m pc ls rest) rfl rfl rfl hout hlocks
  have hcell9 : (T.setFrames (.throwing q :: below)).heap[q]? = some ce := by
    show T.heap[q]? = some ce
    rw [hT]; exact hcell
  exact ⟨_, st1, .threw q, hrun, hend, Or.inr ⟨q, rfl, E, ce, locs, hx _ hT hW.alike, hcell9, hv, hcl, hW, hsm.mono hc hs, hf⟩⟩
theorem vx_frame {U : State} {k n : Nat} (h : s.sameButNew ({ U with vm := s.vm } : State) locs k n) : s.heap.size ≤ U.heap.size ∧ ∀ q : Nat, q < s.heap.size → (∀ z ∈ locs, z.base ≠ q) → U.heap[q]? = s.heap[q]? := by
  obtain ⟨-, h2, -, -, -, h6⟩ := h
  refine ⟨h2, fun q hq hz => ?_⟩
  obtain ⟨c9, e1, e2, e3, e4⟩ := h6 q _ (Array.getElem?_eq_getElem hq)
  have hs : c9.slots = (s.heap[q]).slots := Array.ext_getElem? fun i => e4 i fun hm => hz _ hm rfl
  have h9 : c9 = s.heap[q] := by
    rw [hs] at e2
    exact e2
  have e5 : U.heap[q]? = some c9 := e1
  rw [e5, h9, Array.getElem?_eq_getElem hq]
/-- the words of a throw but the four that speak of the heap -/
def vx_no (w : Cond) : Bool := decide (w ≠ .isRef (.static Bundle.tN "UNASSIGNED_STACK" Bundle.steD)) && decide (w ≠ .isRef (.static Bundle.tN "SUPPRESSED_SENTINEL" Bundle.listD)) && decide (w ≠ .laysStatic Bundle.tN "UNASSIGNED_STACK" Bundle.steD) && decide (w ≠ .laysStatic Bundle.tN "SUPPRESSED_SENTINEL" Bundle.listD)
def vx_at0 (own : String) (ic : Nat) (X : String) (names : List String) : List Cond := (Bundle.ownAtoms0 own ic X names).filter vx_no
def vx_atS (own : String) (ic : Nat) (X : String) (names : List String) : List Cond := (Bundle.ownAtoms own ic X names).filter vx_no
/-- a word that the tables alone decide, or a good one -/
def vx_ot (w : Cond) : Bool := w.onTables || goodWord w
theorem vx_ot_at {args a' : Array Value} {s U : State} {w : Cond} (hW : s.WarmedH U.vm) (hvm : s.vm = U.vm) (hg : vx_ot w = true) (h : w.before args s = true) : w.before a' U = true := by
  simp only [vx_ot, Bool.or_eq_true] at hg
  rcases hg with hg | hg
  · exact va_tabs hg hvm h
  · exact word_at hW (good_of_word hg) h
/-- a list's words: the good ones out of the method's own list, the others by premises of their own -/
theorem vx_hat {args : Array Value} {s : State} {L B : List Cond} (h1 : ∀ w ∈ L.filter goodWord, w.before args s = true) (h2 : ∀ w ∈ L.filter (fun w => !goodWord w), w ∈ B) (h3 : ∀ w ∈ B, w.before args s = true) : ∀ w ∈ L, w.before args s = true := by
  intro w hw
  by_cases g : goodWord w = true
  · exact h1 w (List.mem_filter.mpr ⟨hw, g⟩)
  · refine h3 w (h2 w (List.mem_filter.mpr ⟨hw, ?_⟩))
    show (!goodWord w) = true
    cases hgw : goodWord w
    · rfl
    · exact absurd hgw g
theorem vx_c {args : Array Value} {s : State} {w : Cond} {B : List Cond} (h : w.before args s = true) (t : ∀ w ∈ B, w.before args s = true) : ∀ w' ∈ w :: B, w'.before args s = true := fun w' h' => (List.mem_cons.mp h').elim (fun e => by rw [e]; exact h) (t w')
theorem vx_n {args : Array Value} {s : State} : ∀ w ∈ ([] : List Cond), w.before args s = true := fun _ h => nomatch h
theorem vx_own {args : Array Value} {s : State} {L : List Cond} (h1 : ∀ w ∈ L.filter vx_no, w.before args s = true)
    (hU : (Cond.isRef (.static Bundle.tN "UNASSIGNED_STACK" Bundle.steD)).before args s = true) (hN : (Cond.isRef (.static Bundle.tN "SUPPRESSED_SENTINEL" Bundle.listD)).before args s = true)
    (lU : (Cond.laysStatic Bundle.tN "UNASSIGNED_STACK" Bundle.steD).before args s = true) (lN : (Cond.laysStatic Bundle.tN "SUPPRESSED_SENTINEL" Bundle.listD).before args s = true) : ∀ w ∈ L, w.before args s = true := by
  intro w hw
  by_cases e1 : w = .isRef (.static Bundle.tN "UNASSIGNED_STACK" Bundle.steD)
  · rw [e1]; exact hU
  · by_cases e2 : w = .isRef (.static Bundle.tN "SUPPRESSED_SENTINEL" Bundle.listD)
    · rw [e2]; exact hN
    · by_cases e3 : w = .laysStatic Bundle.tN "UNASSIGNED_STACK" Bundle.steD
      · rw [e3]; exact lU
      · by_cases e4 : w = .laysStatic Bundle.tN "SUPPRESSED_SENTINEL" Bundle.listD
        · rw [e4]; exact lN
        · exact h1 w (List.mem_filter.mpr ⟨hw, by unfold vx_no; rw [decide_eq_true e1, decide_eq_true e2, decide_eq_true e3, decide_eq_true e4]; rfl⟩)
/-- where a static field lies, its class's statics cell in H -/
def vx_L (C n d : String) (A : Nat → Prop) (U : State) (H : Heap) : Prop := ∃ (c : ClassId) (k : Class) (i : Nat) (f : Field) (a : Nat) (cell : Cell), U.vm.findClass C = some c ∧ U.fieldFound? C n d = some (c, k, i, f) ∧ f.isStatic = true ∧ k.statics = some a ∧ H[a]? = some cell ∧ cell.vm.isStatics = true ∧ cell.cls = c ∧ f.slot < cell.slots.size ∧ k.staticTypes[f.slot]? = some f.type ∧ ¬ A a
theorem vx_L.moved {C n d : String} {A : Nat → Prop} {u U : State} {H : Heap} (hvm : u.vm.Alike U.vm) (h : vx_L C n d A u H) : vx_L C n d A U H := by
  obtain ⟨c, k, i, f, a, cell, h1, h2, h3, h4, h5, h6, h7, h8, h9, h10⟩ := h
  obtain ⟨k', hi', he⟩ := State.fieldFound?_setVm hvm h2
  exact ⟨c, k', i, f, a, cell, by rw [hvm.findClass]; exact h1, hi', h3, by rw [he]; exact h4, h5, h6, h7, h8, by rw [he]; exact h9, h10⟩
theorem vx_L.kept {C n d : String} {A : Nat → Prop} {U : State} {H H1 : Heap} (h : vx_L C n d A U H) (hq : ∀ a : Nat, a < H.size → ¬ A a → H1[a]? = H[a]?) : vx_L C n d A U H1 := by
  obtain ⟨c, k, i, f, a, cell, h1, h2, h3, h4, h5, h6, h7, h8, h9, h10⟩ := h
  exact ⟨c, k, i, f, a, cell, h1, h2, h3, h4, by rw [hq a (Array.getElem?_eq_some_iff.mp h5).1 h10]; exact h5, h6, h7, h8, h9, h10⟩
theorem vx_L.narrow {C n d : String} {A B : Nat → Prop} {U : State} {H : Heap} (h : vx_L C n d A U H) (hAB : ∀ q, B q → A q) : vx_L C n d B U H := by
  obtain ⟨c, k, i, f, a, cell, h1, h2, h3, h4, h5, h6, h7, h8, h9, h10⟩ := h
  exact ⟨c, k, i, f, a, cell, h1, h2, h3, h4, h5, h6, h7, h8, h9, fun z => h10 (hAB _ z)⟩
theorem vx_L.word {C n d : String} {A : Nat → Prop} {s : State} {args : Array Value} (h : vx_L C n d A s s.heap) : (Cond.laysStatic C n d).before args s = true := by
  obtain ⟨c, k, i, f, a, cell, h1, h2, h3, h4, h5, h6, h7, h8, h9, -⟩ := h
  show (Cond.laysStatic C n d).holds args s none s [] = true
  exact Cond.laysStatic_of h1 h2 h3 h4 h5 h6 h7 h8 h9
/-- .. and what it holds: null or some reference -/
def vx_Zq (C n d : String) (A : Nat → Prop) (U : State) (H : Heap) : Prop := va_Zq C n d A U H ∧ vx_L C n d A U H
theorem vx_Zq.moved {C n d : String} {A : Nat → Prop} {u U : State} {H : Heap} (hvm : u.vm.Alike U.vm) (h : vx_Zq C n d A u H) : vx_Zq C n d A U H := ⟨va_Zq.moved hvm h.1, vx_L.moved hvm h.2⟩
theorem vx_Zq.kept {C n d : String} {A : Nat → Prop} {U : State} {H H1 : Heap} (h : vx_Zq C n d A U H) (hq : ∀ a : Nat, a < H.size → ¬ A a → H1[a]? = H[a]?) : vx_Zq C n d A U H1 := ⟨va_Zq.kept h.1 hq, vx_L.kept h.2 hq⟩
theorem vx_Zq.narrow {C n d : String} {A B : Nat → Prop} {U : State} {H : Heap} (h : vx_Zq C n d A U H) (hAB : ∀ q, B q → A q) : vx_Zq C n d B U H := ⟨va_Zq.narrow h.1 hAB, vx_L.narrow h.2 hAB⟩
theorem vx_Zqof {args : Array Value} {s : State} {C n d : String} {A : Nat → Prop} (hl : (Cond.laysStatic C n d).before args s = true) (hini : (Cond.initialized C).before args s = true) (h : (Cond.isRef (.static C n d)).before args s = true) (hA : ∀ a : Nat, a < s.heap.size → ¬ A a) : vx_Zq C n d A s s.heap := by
  refine ⟨va_Zqof hl hini h hA, ?_⟩
  obtain ⟨c, k, i, f, a, cell, h1, h2, h3, h4, h5, h6, h7, h8, h9⟩ := Cond.laysStatic_spec hl
  exact ⟨c, k, i, f, a, cell, h1, h2, h3, h4, h5, h6, h7, h8, h9, hA a (Array.getElem?_eq_some_iff.mp h5).1⟩
theorem vx_isRef {C n d : String} {v : Value} {A : Nat → Prop} {s : State} {args : Array Value} (h : va_Z C n d v A s s.heap) (hv : v.isRef = true) : (Cond.isRef (.static C n d)).before args s = true := by
  obtain ⟨cf, kf, fi, f, a, cell, h1, h2, h3, h4, h5, h6, h7, -⟩ := h
  have he : (Term.static C n d).eval args s none [] s = some v := by
    simp [Term.eval, State.fieldNamed?, h1, h2, h4, h5, h6, h7]
  simp only [Cond.before, Cond.holds, Cond.value, he]
  cases v <;> simp_all [Value.isRef]
theorem vx_isRefq {C n d : String} {A : Nat → Prop} {s : State} {args : Array Value} (h : va_Zq C n d A s s.heap) : (Cond.isRef (.static C n d)).before args s = true := by
  rcases h with h | ⟨t, h⟩
  · exact vx_isRef h rfl
  · exact vx_isRef h rfl
/-- the same frame, seen from here: as if the method were called anew in this heap -/
theorem vx_rebase {T : State} (X : Stand p l e R s m args below meth c T locs cells slots) {R' : Room} (hf : R'.frames ≤ R.frames) (hl : R'.locals ≤ R.locals) (hc : cells + R'.cells ≤ R.cells) (hs : slots + R'.slots ≤ R.slots) :
    Stand p l e R' ((T.setVm s.vm).setFrames (.invoking m args :: below)) m args below meth c T [] 0 0 := by
  have htop : (T.setVm s.vm).topJava?.isSome := X.here.top
  have hF : ((T.setVm s.vm).setFrames (.invoking m args :: below)).frames = .invoking m args :: below := State.frames_setFrames _ (State.cur_lt_of_top htop)
  obtain ⟨g₀, hg0⟩ := Option.isSome_iff_exists.mp htop
  obtain ⟨r, hr⟩ := State.topJava?_eq_some.mp hg0
  have hl9 : e.platform.stackLimits (T.setVm s.vm).me = e.platform.stackLimits s.me := X.limits
  have hb9 : (T.setVm s.vm).me.stackBytes = s.me.stackBytes := X.bytes
  refine ⟨X.admits, X.cas, X.clock, hF, ?_, X.hears, X.method, X.code, X.here, X.tail, X.warmed, ?_, ?_, ?_⟩
  · have h := X.room
    have hU : ((T.setVm s.vm).setFrames (.invoking m args :: below)).localsInUse = s.localsInUse := by
      rw [State.localsInUse_invoking hF (meth := meth) (c := c) X.method X.code, State.localsInUse_invoking X.frames X.method X.code]
    simp only [State.hasRoom, Bool.and_eq_true, decide_eq_true_eq] at h ⊢
    obtain ⟨⟨⟨⟨h1, h2, h3, h4, h5, h6⟩, h7⟩, h8⟩, h9⟩ := h
    rw [X.frames, List.length_cons] at h2 h3
    have q1 := X.heapSize
    have q2 := X.used
    simp only [hF, hU, List.length_cons, State.stackLimits_setFrames, State.stackBytes_setFrames, hl9, hb9]
    refine ⟨⟨⟨⟨by omega, by omega, by omega, by omega, by omega, h6⟩, ?_⟩, ?_⟩, X.book⟩
    · show T.heap.size + R'.cells ≤ e.platform.maxCells
      omega
    · show T.slotsUsed + R'.slots ≤ e.platform.maxSlots
      omega
  · rw [State.stackLimits_setFrames]; rfl
  · rw [State.stackBytes_setFrames]; rfl
  · refine ⟨?_, Nat.le_refl _, Nat.le_refl _, ?_, ?_, fun a c9 h9 => ⟨c9, h9, rfl, rfl, fun _ _ => rfl⟩⟩
    · obtain ⟨t, ht, -⟩ := State.frames_cons hr
      show T.setVm s.vm = { ((T.setVm s.vm).setFrames (.invoking m args :: below)).setFrames (T.setVm s.vm).frames with heap := T.heap, slotsUsed := T.slotsUsed }
      rw [State.setFrames_setFrames, State.setFrames_self ht]
      rfl
    · show T.slotsUsed = T.slotsUsed + ((T.heap.toList.drop T.heap.size).map (·.slots.size)).sum
      rw [List.drop_eq_nil_of_le (Nat.le_of_eq Array.length_toList)]
      rfl
    · show ((T.heap.toList.drop T.heap.size).map (·.slots.size)).sum ≤ 0
      rw [List.drop_eq_nil_of_le (Nat.le_of_eq Array.length_toList)]
      exact Nat.le_refl _
/-- 'throw new E()': new; dup; invokespecial; athrow -/
theorem vx_throw0 {cc : ByteArray} {pc : Nat} (hexec : p.tables.exec = Jvm.exec) (hb : c.code = cc) (hl : l.stackTraces = false) {own cls : String} {names : List String} {ik ic mc ms : Nat} {A : Nat → Prop}
    (hown : s.vm.findClass own = some m.cls) (hcls : Bundle.fit cls = true) (hnames : ∀ n ∈ names, Bundle.fit n = true)
    (hk : (Cond.classLink own ik cls).before args s = true) (hini : (Cond.initialized cls).before args s = true) (hat : ∀ w ∈ vx_at0 own ic cls names, w.before args s = true)
    (hgood : ∀ w ∈ Cond.classLink own ik cls :: Cond.initialized cls :: vx_at0 own ic cls names, vx_ot w = true)
    (hU : vx_Zq Bundle.tN "UNASSIGNED_STACK" Bundle.steD A s s.heap) (hN : vx_Zq Bundle.tN "SUPPRESSED_SENTINEL" Bundle.listD A s s.heap) (hS : va_S A s.heap H locs) (hsize : ls.size = c.maxLocals)
    (d0 : decode cc pc = .ok (.new ik, 3)) (d3 : decode cc (pc + 3) = .ok (.dup, 1)) (d4 : decode cc (pc + 4) = .ok (.invokespecial ic, 3)) (d7 : decode cc (pc + 7) = .ok (.athrow, 1))
    (hout : ∀ x ∈ c.exceptionTable.toList, covers x (pc + 7) = false)
    (hRframes : names.length + 3 < R.frames) (hRlocals : (rest.map fun v => v.category).sum + (13 * (names.length + 1) + 42) ≤ R.locals) (hRcells : cells + 1 ≤ R.cells) (hRslots : slots + 6 ≤ R.slots) (hlocks : meth.locks = false)
    (hx : ∀ t : State, s.vm.Alike t.vm → H.size ≤ t.heap.size → (∀ q : Nat, q < H.size → t.heap[q]? = H[q]?) → XC cls s t)
    (hf : ∀ z ∈ locs, free z.base) (hc : cells + 1 ≤ mc) (hs : slots + 6 ≤ ms) :
    W p l e R s m args below meth c H locs cells slots (vx_MQ below Qc XC args s mc ms free) (F0 m pc ls rest) := by
  intro T hT X
  have htr : e.platform.stackTraces = false := (show e.platform.stackTraces = l.stackTraces by rw [X.admits.platform]).trans hl
  have Y := vx_rebase X (R' := { frames := R.frames, locals := R.locals, cells := 1, slots := 6 }) (Nat.le_refl _) (Nat.le_refl _) hRcells hRslots
  obtain ⟨s', hA⟩ : ∃ z, z = (T.setVm s.vm).setFrames (.invoking m args :: below) := ⟨_, rfl⟩
  rw [← hA] at Y
  have hvm : s'.vm = s.vm := by rw [hA]; rfl
  have hhp : s'.heap = H := by rw [hA]; exact hT
  have hW0 : s.WarmedH s'.vm := by rw [hvm]; exact State.WarmedH.refl s
  have hat' : ∀ w ∈ vx_at0 own ic cls names, w.before args s' = true := fun w hw => vx_ot_at hW0 hvm.symm (hgood w (List.mem_cons_of_mem _ (List.mem_cons_of_mem _ hw))) (hat w hw)
  have hk' : (Cond.classLink own ik cls).before args s' = true := vx_ot_at hW0 hvm.symm (hgood _ List.mem_cons_self) hk
  have hini' : (Cond.initialized cls).before args s' = true := vx_ot_at hW0 hvm.symm (hgood _ (List.mem_cons_of_mem _ List.mem_cons_self)) hini
  have hU' : vx_Zq Bundle.tN "UNASSIGNED_STACK" Bundle.steD A s' s'.heap := by rw [hhp]; exact vx_Zq.moved hW0.alike (hU.kept hS.2.1)
  have hN' : vx_Zq Bundle.tN "SUPPRESSED_SENTINEL" Bundle.listD A s' s'.heap := by rw [hhp]; exact vx_Zq.moved hW0.alike (hN.kept hS.2.1)
  have h : ∀ w ∈ Bundle.ownAtoms0 own ic cls names, w.before args s' = true := vx_own hat' (vx_isRefq hU'.1) (vx_isRefq hN'.1) hU'.2.word hN'.2.word
  have hown' : s'.vm.findClass own = some m.cls := by rw [hvm]; exact hown
  have hins : (Cond.instantiable cls 6).before args s' = true := h _ (by simp [Bundle.ownAtoms0])
  obtain ⟨vm₁, cX, kX, hfX, hkX, -, -, X₁, st1⟩ := Y.newCold hexec (own := own) (C := cls) (index := ik) (n := 6) hown' hk' hins hini'
    (g := F0 m pc ls rest) rfl (by rw [hb]; exact d0) (Nat.le_refl _) (Nat.le_refl _)
  generalize hT1 : (T.setVm vm₁).pushCell { cls := cX, slots := kX.instanceTypes.map defaultValue, vm := .none } = T1 at X₁ st1
  have hcat : (Value.ref T.heap.size).category = 1 := rfl
  have hcellA : T1.heap[T.heap.size]? = some (freshCell cX kX) := by rw [← hT1]; exact State.heap_pushCell_size _ _
  have d3' : decode c.code (pc + 3) = .ok (.dup, 1) := by rw [hb]; exact d3
  obtain ⟨U, hsteps, hrun, hend, hW, hsame, ce, hce, hO⟩ := X₁.ctorThrow0 hexec htr (own := own) (cls := cls) (names := names) (ic := ic) hown' hcls hnames h (fun x hx => nomatch hx) hfX hkX hcellA (by rw [hhp, hT]; exact Nat.le_refl _)
    (g := { method := m, pc := pc + 4, locals := ls, stack := .ref T.heap.size :: .ref T.heap.size :: rest, locked := none }) rfl hsize rfl rfl (rest := rest) rfl
    (by rw [hb]; exact d4) (by rw [hb]; exact d7) hout hRframes (by simp only [List.map_cons, List.sum_cons, hcat]; omega) hlocks
  obtain ⟨f1, f2⟩ := vx_frame hsame
  rw [hhp] at f1 f2
  have hWs : s.WarmedH U.vm := State.WarmedH.trans hW0 hW
  have hcl : s.vm.findClass cls = some ce.cls := by
    have h9 := hO.cls
    rw [hvm] at h9
    exact h9
  have hall : s.sameButNew ({ U with vm := s.vm } : State) locs mc ms := by
    subst hA
    obtain ⟨e1, e2⟩ := hsame
    rw [State.setFrames_setFrames] at e1
    have h2 : (T.setVm s.vm).sameButNew ({ U with vm := s.vm } : State) [] (0 + 1) (0 + 6) := ⟨e1, e2⟩
    have h3 := X.same.trans h2
    rw [List.append_nil] at h3
    exact h3.mono hc hs
  refine ⟨U, ?_, .threw T.heap.size, hrun, hend, Or.inr ⟨T.heap.size, rfl, cls, ce, locs, hx U hWs.alike f1 (fun q hq => f2 q hq (fun z hz => nomatch hz)), hce, hO.vm, hcl, hWs, hall, hf⟩⟩
  refine st1 _ ?_
  show Steps p.tables e below (T1.setTop { method := m, pc := pc + 3, locals := ls, stack := .ref T.heap.size :: rest, locked := none }) _
  jvm_step X₁.here [X₁.here.top, hexec, d3', Value.category]
  exact hsteps
/-- 'throw new E("text")': new; dup; ldc; invokespecial; athrow -/
theorem vx_throwS {cc : ByteArray} {pc : Nat} (hexec : p.tables.exec = Jvm.exec) (hb : c.code = cc) (hl : l.stackTraces = false) {own cls text : String} {names : List String} {ik is ic mc ms sa : Nat} {A : Nat → Prop}
    (hown : s.vm.findClass own = some m.cls) (hcls : Bundle.fit cls = true) (hnames : ∀ n ∈ names, Bundle.fit n = true)
    (hk : (Cond.classLink own ik cls).before args s = true) (hini : (Cond.initialized cls).before args s = true) (hstr : vk_R own is text sa s) (hat : ∀ w ∈ vx_atS own ic cls names, w.before args s = true)
    (hgood : ∀ w ∈ Cond.classLink own ik cls :: Cond.initialized cls :: vx_atS own ic cls names, vx_ot w = true)
    (hU : vx_Zq Bundle.tN "UNASSIGNED_STACK" Bundle.steD A s s.heap) (hN : vx_Zq Bundle.tN "SUPPRESSED_SENTINEL" Bundle.listD A s s.heap) (hS : va_S A s.heap H locs) (hsize : ls.size = c.maxLocals)
    (d0 : decode cc pc = .ok (.new ik, 3)) (d3 : decode cc (pc + 3) = .ok (.dup, 1)) (d4 : decode cc (pc + 4) = .ok (.ldc is, 2)) (d6 : decode cc (pc + 6) = .ok (.invokespecial ic, 3)) (d9 : decode cc (pc + 9) = .ok (.athrow, 1))
    (hout : ∀ x ∈ c.exceptionTable.toList, covers x (pc + 9) = false)
    (hRframes : names.length + 3 < R.frames) (hRlocals : (rest.map fun v => v.category).sum + (13 * (names.length + 1) + 43) ≤ R.locals) (hRcells : cells + 1 ≤ R.cells) (hRslots : slots + 6 ≤ R.slots) (hlocks : meth.locks = false)
    (hx : ∀ t : State, s.vm.Alike t.vm → H.size ≤ t.heap.size → (∀ q : Nat, q < H.size → t.heap[q]? = H[q]?) → XC cls s t)
    (hf : ∀ z ∈ locs, free z.base) (hc : cells + 1 ≤ mc) (hs : slots + 6 ≤ ms) :
    W p l e R s m args below meth c H locs cells slots (vx_MQ below Qc XC args s mc ms free) (F0 m pc ls rest) := by
  intro T hT X
  have htr : e.platform.stackTraces = false := (show e.platform.stackTraces = l.stackTraces by rw [X.admits.platform]).trans hl
  have Y := vx_rebase X (R' := { frames := R.frames, locals := R.locals, cells := 1, slots := 6 }) (Nat.le_refl _) (Nat.le_refl _) hRcells hRslots
  obtain ⟨s', hA⟩ : ∃ z, z = (T.setVm s.vm).setFrames (.invoking m args :: below) := ⟨_, rfl⟩
  rw [← hA] at Y
  have hvm : s'.vm = s.vm := by rw [hA]; rfl
  have hhp : s'.heap = H := by rw [hA]; exact hT
  have hW0 : s.WarmedH s'.vm := by rw [hvm]; exact State.WarmedH.refl s
  have hat' : ∀ w ∈ vx_atS own ic cls names, w.before args s' = true := fun w hw => vx_ot_at hW0 hvm.symm (hgood w (List.mem_cons_of_mem _ (List.mem_cons_of_mem _ hw))) (hat w hw)
  have hk' : (Cond.classLink own ik cls).before args s' = true := vx_ot_at hW0 hvm.symm (hgood _ List.mem_cons_self) hk
  have hini' : (Cond.initialized cls).before args s' = true := vx_ot_at hW0 hvm.symm (hgood _ (List.mem_cons_of_mem _ List.mem_cons_self)) hini
  have hU' : vx_Zq Bundle.tN "UNASSIGNED_STACK" Bundle.steD A s' s'.heap := by rw [hhp]; exact vx_Zq.moved hW0.alike (hU.kept hS.2.1)
  have hN' : vx_Zq Bundle.tN "SUPPRESSED_SENTINEL" Bundle.listD A s' s'.heap := by rw [hhp]; exact vx_Zq.moved hW0.alike (hN.kept hS.2.1)
  have h : ∀ w ∈ Bundle.ownAtoms own ic cls names, w.before args s' = true := vx_own hat' (vx_isRefq hU'.1) (vx_isRefq hN'.1) hU'.2.word hN'.2.word
  have hown' : s'.vm.findClass own = some m.cls := by rw [hvm]; exact hown
  have hins : (Cond.instantiable cls 6).before args s' = true := h _ (by simp [Bundle.ownAtoms])
  obtain ⟨vm₁, cX, kX, hfX, hkX, -, -, X₁, st1⟩ := Y.newCold hexec (own := own) (C := cls) (index := ik) (n := 6) hown' hk' hins hini'
    (g := F0 m pc ls rest) rfl (by rw [hb]; exact d0) (Nat.le_refl _) (Nat.le_refl _)
  generalize hT1 : (T.setVm vm₁).pushCell { cls := cX, slots := kX.instanceTypes.map defaultValue, vm := .none } = T1 at X₁ st1
  have hcat : (Value.ref T.heap.size).category = 1 := rfl
  have hcellA : T1.heap[T.heap.size]? = some (freshCell cX kX) := by rw [← hT1]; exact State.heap_pushCell_size _ _
  have d3' : decode c.code (pc + 3) = .ok (.dup, 1) := by rw [hb]; exact d3
  have d4' : decode c.code (pc + 4) = .ok (.ldc is, 2) := by rw [hb]; exact d4
  have hstr' : vk_R own is text sa s' := vk_R.warm hW0 hstr
  obtain ⟨U, hsteps, hrun, hend, hW, hsame, ce, hce, hO⟩ := X₁.ctorThrowS hexec htr (own := own) (cls := cls) (names := names) (ic := ic) hown' hcls hnames h (fun x hx => nomatch hx) hfX hkX hcellA (by rw [hhp, hT]; exact Nat.le_refl _) (msg := .ref sa) rfl
    (g := { method := m, pc := pc + 6, locals := ls, stack := .ref sa :: .ref T.heap.size :: .ref T.heap.size :: rest, locked := none }) rfl hsize rfl rfl (rest := rest) rfl
    (by rw [hb]; exact d6) (by rw [hb]; exact d9) hout hRframes (by simp only [List.map_cons, List.sum_cons, hcat]; omega) hlocks
  obtain ⟨f1, f2⟩ := vx_frame hsame
  rw [hhp] at f1 f2
  have hWs : s.WarmedH U.vm := State.WarmedH.trans hW0 hW
  have hcl : s.vm.findClass cls = some ce.cls := by
    have h9 := hO.cls
    rw [hvm] at h9
    exact h9
  have hall : s.sameButNew ({ U with vm := s.vm } : State) locs mc ms := by
    subst hA
    obtain ⟨e1, e2⟩ := hsame
    rw [State.setFrames_setFrames] at e1
    have h2 : (T.setVm s.vm).sameButNew ({ U with vm := s.vm } : State) [] (0 + 1) (0 + 6) := ⟨e1, e2⟩
    have h3 := X.same.trans h2
    rw [List.append_nil] at h3
    exact h3.mono hc hs
  refine ⟨U, ?_, .threw T.heap.size, hrun, hend, Or.inr ⟨T.heap.size, rfl, cls, ce, locs, hx U hWs.alike f1 (fun q hq => f2 q hq (fun z hz => nomatch hz)), hce, hO.vm, hcl, hWs, hall, hf⟩⟩
  refine st1 _ ?_
  show Steps p.tables e below (T1.setTop { method := m, pc := pc + 3, locals := ls, stack := .ref T.heap.size :: rest, locked := none }) _
  jvm_step X₁.here [X₁.here.top, hexec, d3', Value.category]
  exact X₁.ldcString hexec (own := own) (text := text) (index := is) (a := sa) hown' hstr'.1 hstr'.2
    (g := { method := m, pc := pc + 4, locals := ls, stack := .ref T.heap.size :: .ref T.heap.size :: rest, locked := none }) rfl d4' _ hsteps
/-- 'throw new E("text")', the text by a wide index -/
theorem vx_throwSW {cc : ByteArray} {pc : Nat} (hexec : p.tables.exec = Jvm.exec) (hb : c.code = cc) (hl : l.stackTraces = false) {own cls text : String} {names : List String} {ik is ic mc ms sa : Nat} {A : Nat → Prop}
    (hown : s.vm.findClass own = some m.cls) (hcls : Bundle.fit cls = true) (hnames : ∀ n ∈ names, Bundle.fit n = true)
    (hk : (Cond.classLink own ik cls).before args s = true) (hini : (Cond.initialized cls).before args s = true) (hstr : vk_R own is text sa s) (hat : ∀ w ∈ vx_atS own ic cls names, w.before args s = true)
    (hgood : ∀ w ∈ Cond.classLink own ik cls :: Cond.initialized cls :: vx_atS own ic cls names, vx_ot w = true)
    (hU : vx_Zq Bundle.tN "UNASSIGNED_STACK" Bundle.steD A s s.heap) (hN : vx_Zq Bundle.tN "SUPPRESSED_SENTINEL" Bundle.listD A s s.heap) (hS : va_S A s.heap H locs) (hsize : ls.size = c.maxLocals)
    (d0 : decode cc pc = .ok (.new ik, 3)) (d3 : decode cc (pc + 3) = .ok (.dup, 1)) (d4 : decode cc (pc + 4) = .ok (.ldc_w is, 3)) (d7 : decode cc (pc + 7) = .ok (.invokespecial ic, 3)) (d10 : decode cc (pc + 10) = .ok (.athrow, 1))
    (hout : ∀ x ∈ c.exceptionTable.toList, covers x (pc + 10) = false)
    (hRframes : names.length + 3 < R.frames) (hRlocals : (rest.map fun v => v.category).sum + (13 * (names.length + 1) + 43) ≤ R.locals) (hRcells : cells + 1 ≤ R.cells) (hRslots : slots + 6 ≤ R.slots) (hlocks : meth.locks = false)
    (hx : ∀ t : State, s.vm.Alike t.vm → H.size ≤ t.heap.size → (∀ q : Nat, q < H.size → t.heap[q]? = H[q]?) → XC cls s t)
    (hf : ∀ z ∈ locs, free z.base) (hc : cells + 1 ≤ mc) (hs : slots + 6 ≤ ms) :
    W p l e R s m args below meth c H locs cells slots (vx_MQ below Qc XC args s mc ms free) (F0 m pc ls rest) := by
  intro T hT X
  have htr : e.platform.stackTraces = false := (show e.platform.stackTraces = l.stackTraces by rw [X.admits.platform]).trans hl
  have Y := vx_rebase X (R' := { frames := R.frames, locals := R.locals, cells := 1, slots := 6 }) (Nat.le_refl _) (Nat.le_refl _) hRcells hRslots
  obtain ⟨s', hA⟩ : ∃ z, z = (T.setVm s.vm).setFrames (.invoking m args :: below) := ⟨_, rfl⟩
  rw [← hA] at Y
  have hvm : s'.vm = s.vm := by rw [hA]; rfl
  have hhp : s'.heap = H := by rw [hA]; exact hT
  have hW0 : s.WarmedH s'.vm := by rw [hvm]; exact State.WarmedH.refl s
  have hat' : ∀ w ∈ vx_atS own ic cls names, w.before args s' = true := fun w hw => vx_ot_at hW0 hvm.symm (hgood w (List.mem_cons_of_mem _ (List.mem_cons_of_mem _ hw))) (hat w hw)
  have hk' : (Cond.classLink own ik cls).before args s' = true := vx_ot_at hW0 hvm.symm (hgood _ List.mem_cons_self) hk
  have hini' : (Cond.initialized cls).before args s' = true := vx_ot_at hW0 hvm.symm (hgood _ (List.mem_cons_of_mem _ List.mem_cons_self)) hini
  have hU' : vx_Zq Bundle.tN "UNASSIGNED_STACK" Bundle.steD A s' s'.heap := by rw [hhp]; exact vx_Zq.moved hW0.alike (hU.kept hS.2.1)
  have hN' : vx_Zq Bundle.tN "SUPPRESSED_SENTINEL" Bundle.listD A s' s'.heap := by rw [hhp]; exact vx_Zq.moved hW0.alike (hN.kept hS.2.1)
  have h : ∀ w ∈ Bundle.ownAtoms own ic cls names, w.before args s' = true := vx_own hat' (vx_isRefq hU'.1) (vx_isRefq hN'.1) hU'.2.word hN'.2.word
  have hown' : s'.vm.findClass own = some m.cls := by rw [hvm]; exact hown
  have hins : (Cond.instantiable cls 6).before args s' = true := h _ (by simp [Bundle.ownAtoms])
  obtain ⟨vm₁, cX, kX, hfX, hkX, -, -, X₁, st1⟩ := Y.newCold hexec (own := own) (C := cls) (index := ik) (n := 6) hown' hk' hins hini'
    (g := F0 m pc ls rest) rfl (by rw [hb]; exact d0) (Nat.le_refl _) (Nat.le_refl _)
  generalize hT1 : (T.setVm vm₁).pushCell { cls := cX, slots := kX.instanceTypes.map defaultValue, vm := .none } = T1 at X₁ st1
  have hcat : (Value.ref T.heap.size).category = 1 := rfl
  have hcellA : T1.heap[T.heap.size]? = some (freshCell cX kX) := by rw [← hT1]; exact State.heap_pushCell_size _ _
  have d3' : decode c.code (pc + 3) = .ok (.dup, 1) := by rw [hb]; exact d3
  have d4' : decode c.code (pc + 4) = .ok (.ldc_w is, 3) := by rw [hb]; exact d4
  have hstr' : vk_R own is text sa s' := vk_R.warm hW0 hstr
  obtain ⟨U, hsteps, hrun, hend, hW, hsame, ce, hce, hO⟩ := X₁.ctorThrowS hexec htr (own := own) (cls := cls) (names := names) (ic := ic) hown' hcls hnames h (fun x hx => nomatch hx) hfX hkX hcellA (by rw [hhp, hT]; exact Nat.le_refl _) (msg := .ref sa) rfl
    (g := { method := m, pc := pc + 7, locals := ls, stack := .ref sa :: .ref T.heap.size :: .ref T.heap.size :: rest, locked := none }) rfl hsize rfl rfl (rest := rest) rfl
    (by rw [hb]; exact d7) (by rw [hb]; exact d10) hout hRframes (by simp only [List.map_cons, List.sum_cons, hcat]; omega) hlocks
  obtain ⟨f1, f2⟩ := vx_frame hsame
  rw [hhp] at f1 f2
  have hWs : s.WarmedH U.vm := State.WarmedH.trans hW0 hW
  have hcl : s.vm.findClass cls = some ce.cls := by
    have h9 := hO.cls
    rw [hvm] at h9
    exact h9
  have hall : s.sameButNew ({ U with vm := s.vm } : State) locs mc ms := by
    subst hA
    obtain ⟨e1, e2⟩ := hsame
    rw [State.setFrames_setFrames] at e1
    have h2 : (T.setVm s.vm).sameButNew ({ U with vm := s.vm } : State) [] (0 + 1) (0 + 6) := ⟨e1, e2⟩
    have h3 := X.same.trans h2
    rw [List.append_nil] at h3
    exact h3.mono hc hs
  refine ⟨U, ?_, .threw T.heap.size, hrun, hend, Or.inr ⟨T.heap.size, rfl, cls, ce, locs, hx U hWs.alike f1 (fun q hq => f2 q hq (fun z hz => nomatch hz)), hce, hO.vm, hcl, hWs, hall, hf⟩⟩
  refine st1 _ ?_
  show Steps p.tables e below (T1.setTop { method := m, pc := pc + 3, locals := ls, stack := .ref T.heap.size :: rest, locked := none }) _
  jvm_step X₁.here [X₁.here.top, hexec, d3', Value.category]
  exact X₁.ldcStringW hexec (own := own) (text := text) (index := is) (a := sa) hown' hstr'.1 hstr'.2
    (g := { method := m, pc := pc + 4, locals := ls, stack := .ref T.heap.size :: .ref T.heap.size :: rest, locked := none }) rfl d4' _ hsteps
end Ends
section Bodies
variable {l : Launch}
theorem vx_ofW {y : MethodName} {ws ws' : List Cond} {rm : Room} {Pc : Array Value → State → Prop} {Qc : Array Value → State → Outcome → State → Prop} {XC : String → State → State → Prop} {mc ms : Nat} {free : Addr → Prop} {cc : ByteArray} {maxL : Nat} {ret : Option FieldType}
    (hy : plainName y.cls = true) (hw : ws = Cond.code y cc maxL ret :: ws')
    (body : ∀ p e s m args below meth c s₁, BodyLoose p l y (headSpec ws rm) cc maxL ret e s m args below meth c s₁ → c.maxLocals = maxL → (∀ x ∈ c.exceptionTable.toList, False) → Pc args s →
      W p l e (headSpec ws rm).room s m args below meth c s.heap [] 0 0 (vx_MQ below Qc XC args s mc ms free) (entryFrame m args maxL)) : vx_Met l y ws rm Pc Qc XC mc ms free := by
  refine MetFree.of_bodyS (code := cc) (maxLocals := maxL) (ret := ret) hy ?_ ?_
  · intro args s m h hn
    obtain ⟨meth, c, h1, h2, h3, h4, h5, h6, -, -⟩ := Cond.code_spec hn (atoms_spec (ws := ws) h _ (by rw [hw]; exact List.mem_cons_self))
    exact ⟨meth, c, h1, h2, h3, h4, h5, h6⟩
  · intro p e s m args below meth c s₁ B hml hP _
    have hh0 : s₁.heap = s.heap := by rw [B.state]; rfl
    have ht : ∀ x ∈ c.exceptionTable.toList, False := by
      obtain ⟨meth9, c9, h1, h2, -, -, -, -, h7, -⟩ := Cond.code_spec B.named (atoms_spec (ws := ws) B.pre _ (by rw [hw]; exact List.mem_cons_self))
      cases Option.some.inj (h1.symm.trans B.method)
      cases Option.some.inj (h2.symm.trans (Stand.of_body B).code)
      intro x hx
      rw [Array.isEmpty_iff.mp h7] at hx
      cases hx
    obtain ⟨t, a1, o, b1, b2, b3⟩ := body p e s m args below meth c s₁ B hml ht hP s₁ hh0 (Stand.of_body B)
    exact ⟨t, o, a1, b1, b2, b3⟩
/-- the table of a body with handlers -/
theorem vx_table {p : Program} {x y : MethodName} {S : Spec} {cc bytes : ByteArray} {maxL maxL' : Nat} {ret ret' : Option FieldType} {e : Env} {s s₁ : State} {m : MethodId} {args : Array Value} {below : List Frame} {meth : Method} {c : Code} {hh : List (Nat × Nat × Nat × Nat)}
    (B : BodyLoose p l y S cc maxL ret e s m args below meth c s₁) (h : (Cond.codeWith y bytes maxL' ret' hh).before args s = true) : c.exceptionTable.toList = tableOf hh := by
  obtain ⟨m9, meth9, c9, hn9, h1, h2, -, -, h6, -⟩ := Cond.codeWith_spec h
  cases Option.some.inj (hn9.symm.trans B.named)
  cases Option.some.inj (h1.symm.trans B.method)
  cases Option.some.inj (h2.symm.trans (Stand.of_body B).code)
  rw [← h6, table_eq]
end Bodies
end VXA
/-! ===== END ===== -/
/-! ===== BEGIN a static call of a method with an exception table ===== -/
section VXS
variable {p : Program} {l : Launch} {e : Env} {R : Room} {s : State} {m : MethodId} {args : Array Value} {below : List Frame} {meth : Method} {c : Code} {T : State} {H : Heap} {locs : List Loc} {cells slots : Nat}
abbrev vx_CSW (R : Room) (s : State) (args : Array Value) (own : String) (index : Nat) (y : MethodName) (bytes : ByteArray) (maxL : Nat) (ret : Option FieldType) (hh : List (Nat × Nat × Nat × Nat)) (ws : List Cond) (rm : Room) (mc ms n : Nat) : Prop :=
  (rm.cells = mc ∧ rm.slots = ms ∧ rm.frames + 1 ≤ R.frames ∧ 8 + (maxL + 11) + rm.locals ≤ R.locals ∧ (∀ w ∈ ws, ∀ (a' : Array Value) (U : State), s.WarmedH U.vm → w.before a' U = true) ∧ Cond.codeWith y bytes maxL ret hh ∈ ws) ∧
  (Cond.codeWith y bytes maxL ret hh).before args s = true ∧ (Cond.initialized y.cls).before args s = true ∧ (y.cls ≠ "java/lang/invoke/MethodHandle" ∧ y.cls ≠ "java/lang/invoke/VarHandle") ∧
  (∀ sig, parseMethodDescriptor y.desc = some sig → n = sig.parameters.length) ∧ (Cond.methodLink own index y).before args s = true ∧ (Cond.static y).before args s = true
theorem vx_cwSW {own : String} {index maxL mc ms : Nat} {y : MethodName} {bytes : ByteArray} {ret : Option FieldType} {hh : List (Nat × Nat × Nat × Nat)} {Ts ws ws' : List Cond} {rm : Room} (n : Nat) (ht : ∀ w ∈ Ts, w.before args s = true) (hT : GoodIn Ts (va_wsS own index y ws)) (hw : ws = Cond.codeWith y bytes maxL ret hh :: ws') (hrc : rm.cells = mc) (hrs : rm.slots = ms)
    (hd : y.cls ≠ "java/lang/invoke/MethodHandle" ∧ y.cls ≠ "java/lang/invoke/VarHandle" ∧ (parseMethodDescriptor y.desc).map (fun d => d.parameters.length) = some n) (hR : rm.frames + 1 ≤ R.frames ∧ 8 + (maxL + 11) + rm.locals ≤ R.locals) :
    vx_CSW R s args own index y bytes maxL ret hh ws rm mc ms n := by
  have ok : ∀ w ∈ va_wsS own index y ws, w.before args s = true := fun w h => ht w (hT w h).1
  have hG : GoodIn Ts ws := fun w h => hT w (by unfold va_wsS; exact List.mem_append_right _ h)
  have hc : Cond.codeWith y bytes maxL ret hh ∈ ws := by rw [hw]; exact List.mem_cons_self
  refine ⟨⟨hrc, hrs, hR.1, hR.2, pay_in ht hG, hc⟩, ht _ (hG _ hc).1, ok _ (by simp [va_wsS]), ⟨hd.1, hd.2.1⟩, fun sig h => ?_, ok _ (by simp [va_wsS]), ok _ (by simp [va_wsS])⟩
  have h2 := hd.2.2
  rw [h] at h2
  exact (Option.some.inj h2).symm
theorem vx_callSW (X : Stand p l e R s m args below meth c T locs cells slots) (hexec : p.tables.exec = Jvm.exec) {own : String} {index : Nat} {y : MethodName} {bytes : ByteArray} {maxL : Nat} {ret : Option FieldType} {hh : List (Nat × Nat × Nat × Nat)}
    (hown : s.vm.findClass own = some m.cls) (hlink : (Cond.methodLink own index y).before args s = true) (hstat : (Cond.static y).before args s = true) (hinit : (Cond.initialized y.cls).before args s = true)
    (hcode : (Cond.codeWith y bytes maxL ret hh).before args s = true) (hy : y.cls ≠ "java/lang/invoke/MethodHandle" ∧ y.cls ≠ "java/lang/invoke/VarHandle")
    {W9 : Nat} {Pre : Pt → Array Value → Prop} {Post : Pt → Array Value → Option Value → Pt → Prop} (hK : Back l R p e below s args y 3 W9 Pre Post)
    {g : JFrame} (hg : g.method = m) (hsize : g.locals.size = c.maxLocals) {argsL rest : List Value} (hlen : ∀ sig, parseMethodDescriptor y.desc = some sig → argsL.length = sig.parameters.length)
    (hstack : g.stack = argsL.reverse ++ rest) (hW : 2 * g.monitorRoom + (rest.map fun v => v.category).sum ≤ W9) (hdg : decode c.code g.pc = .ok (.invokestatic index, 3))
    (hpre : ∀ vm₁, s.WarmedH vm₁ → Pre ⟨T.setVm vm₁, locs, cells, slots⟩ argsL.toArray) :
    ∃ (v : Option Value) (vm₁ : Vm) (B : Pt), s.WarmedH vm₁ ∧ Stand p l e R s m args below meth c B.U B.locs B.cells B.slots ∧ Post ⟨T.setVm vm₁, locs, cells, slots⟩ argsL.toArray v B ∧
      ∀ target, Steps p.tables e below (B.U.setTop { g with pc := g.pc + 3, stack := v.toList ++ rest }) target → Steps p.tables e below (T.setTop g) target := by
  obtain ⟨mk, methM, cM, hnamed, hmethM, -, -, -, -, -, -, hsigM⟩ := Cond.codeWith_spec hcode
  have hstatic : methM.isStatic = true := Cond.static_spec hnamed hmethM hstat
  obtain ⟨kP, hkP, -⟩ := className_of_methodNamed hnamed
  have hinitP : kP.init = .initialized := Cond.initialized_spec (findClass_of_methodNamed hnamed) hkP hinit
  obtain ⟨vm₁, X₁, hstep₁⟩ := X.invokestatic hexec hown hlink hnamed hmethM hstatic hkP hinitP hy (g := g) hg (argsL := argsL) (rest := rest) (hlen _ hsigM) hstack hdg
  obtain ⟨v, B, X', hpost, hsteps⟩ := hK m meth c ⟨T.setVm vm₁, locs, cells, slots⟩ { g with stack := rest } (.invokestatic index) mk argsL.toArray X₁ hg hsize hdg hW (X₁.named hnamed) (hpre vm₁ X₁.warmed)
  exact ⟨v, vm₁, B, X₁.warmed, X', hpost, fun target h => hstep₁ _ fun acts => by rw [doInvoke_state]; exact hsteps.trans h⟩
theorem vx_runSW {y : MethodName} {bytes cc : ByteArray} {maxL nL mc ms n index : Nat} {ret : Option FieldType} {hh : List (Nat × Nat × Nat × Nat)} {ws : List Cond} {rm : Room} {Pc : Array Value → State → Prop} {Qc : Array Value → State → Outcome → State → Prop} {free : Addr → Prop} {Ts : List Cond} {own : String} {As rest : List Value} {g : JFrame}
    (S : CallFix p m c cc nL s args Ts own) (hM : Met l y ws rm Pc Qc mc ms free) (cw : vx_CSW R s args own index y bytes maxL ret hh ws rm mc ms n) (hp : PreS s H Pc As)
    (hg : g.method = m) (hn : As.length = n) (hsize : g.locals.size = nL) (hstack : g.stack = As.reverse ++ rest) (hW : 2 * g.monitorRoom + (rest.map fun v => v.category).sum ≤ 8) (hdg : decode cc g.pc = .ok (.invokestatic index, 3)) (hf : cells + mc ≤ R.cells ∧ slots + ms ≤ R.slots) :
    va_Run p l e R s m args below meth c H locs cells slots mc ms g rest (Qc As.toArray) (free) := by
  obtain ⟨⟨hrc, hrs, hfr, hlo, hws, hcw⟩, hcode, hini, hy, hlen, hl, hstt⟩ := cw
  have hK : Back l R p e below s args y 3 8 (PreOf R mc ms Pc) (PostOf Qc mc ms free) := va_backW (hh := hh) (bytes := bytes) (maxL := maxL) (ret := ret) hM hp.1 hrc hrs hfr hlo hws hcw (fun a' U hW => word_at hW (Or.inl (by first | rfl | simp [Cond.onTables, Cond.keeps, Cond.steady])) hini)
  obtain ⟨hx, hb, hml, ho, -⟩ := S
  intro T hT X
  obtain ⟨v, vm₁, ⟨U', l2, c2, s2⟩, hW₁, X', ⟨g', mk, t, L, e1, e2, hq, h1, hL, h2, h3⟩, st⟩ := vx_callSW X hx (hh := hh) (bytes := bytes) (maxL := maxL) (ret := ret) ho hl hstt hini hcode hy hK hg (hsize.trans hml.symm) (argsL := As) (rest := rest) (fun sig h => hn.trans (hlen sig h)) hstack hW (by rw [hb]; exact hdg)
    (fun vm₁ hW₁ => ⟨hf.1, hf.2, hp.2 (T.setVm vm₁) hT hW₁⟩)
  dsimp only [Pt.U, Pt.locs, Pt.cells, Pt.slots] at X' e1 e2 h1 h2 h3 st
  subst h1; subst h2; subst h3
  exact ⟨v, (T.setVm vm₁).calling g' mk As.toArray, t, U', L, hT, X', hL, e1, e2, hq, st⟩
/-- not caught here, past rows that name other classes: it goes on to the caller -/
theorem vx_outP {p : Program} {l : Launch} {e : Env} {R : Room} {s : State} {m : MethodId} {args : Array Value} {below : List Frame} {meth : Method} {c : Code} {H : Heap} {locs : List Loc} {cells slots : Nat} {free : Addr → Prop} {ls : Array Slot} {rest : List Value} {Qc : Array Value → State → Outcome → State → Prop} {XC : String → State → State → Prop}
    {pc : Nat} {own E : String} {ce : Cell} {q : Addr} {mc ms : Nat} (hown : s.vm.findClass own = some m.cls) (hlocks : meth.locks = false)
    (hpass : ∀ z ∈ c.exceptionTable.toList, covers z pc = false ∨ (z.catchType ≠ 0 ∧ ∃ nm : String, (Cond.classLink own z.catchType nm).before args s = true ∧ va_Nc E nm s)) (hcell : H[q]? = some ce) (hv : ce.vm = .none) (hcl : s.vm.findClass E = some ce.cls)
    (hx : ∀ t : State, t.heap = H → s.vm.Alike t.vm → XC E s t) (hf : ∀ z ∈ locs, free z.base) (hc : cells ≤ mc) (hs : slots ≤ ms) :
    vx_W p l e R s m args below meth c H locs cells slots (vx_MQ below Qc XC args s mc ms free) (F0 m pc ls rest) q := by
  intro T hT X
  have hpl : e.platform.magicAccessors = ({} : Platform).magicAccessors := by rw [X.admits.platform]
  obtain ⟨vm', hW', X', st⟩ := X.outThrough hlocks q (g := F0 m pc ls rest) rfl rfl rfl (cell := ce) (by rw [hT]; exact hcell) (by rw [hv]; rfl)
    (by obtain ⟨k9, h9, -⟩ := Vm.findClass_spec hcl; exact ⟨k9, h9⟩) (fun z hz => by
      rcases hpass z hz with h | ⟨hz0, nm, hl1, hn1⟩
      · exact Or.inl h
      · obtain ⟨c6, hc6, hcl6⟩ := Cond.classLink_spec hown hl1 e.platform hpl
        obtain ⟨a8, b8, h1, h2, h3⟩ := hn1
        cases Option.some.inj (h1.symm.trans hcl)
        cases Option.some.inj (h2.symm.trans hc6)
        exact Or.inr ⟨hz0, _, hcl6, h3⟩)
  obtain ⟨g₀, hfr⟩ := X'.frames_eq
  have hcell9 : ((T.setVm vm').setFrames (.throwing q :: below)).heap[q]? = some ce := by
    show T.heap[q]? = some ce
    rw [hT]; exact hcell
  have hend : Ended ((T.setVm vm').setFrames (.throwing q :: below)) below (.threw q) := State.frames_setFrames _ (State.cur_lt_of_frames hfr)
  refine ⟨(T.setVm vm').setFrames (.throwing q :: below), ?_, .threw q, X'.here.running, hend, Or.inr ⟨q, rfl, E, ce, locs, hx _ hT (X'.ends _).1.alike, hcell9, hv, hcl, (X'.ends _).1, (X'.ends _).2.mono hc hs, hf⟩⟩
  rw [X.pushThrowing_eq]
  exact st
/-- a thing of a world lies in the heap -/
theorem vx_lt {D : va_G} {cl : List vw_C} {ws : va_W} {H1 : Heap} (h : va_P D cl ws H1) {k : Nat} {q : Nat × va_E} (hk : ws[k]? = some q) : q.1 < H1.size := (h k q hk).lt
end VXS
/-! ===== END ===== -/
/-! ===== BEGIN methods with a table of their own: called by a name, returning or throwing ===== -/
section VXH
/-! vx_backW, vx_callVX, vx_callSX, vx_callVW, vx_runVW, vx_runVX, vx_runSX, vx_ofWH follow the same proofs as their sisters above (Free/Laws.lean, Shelf42/LK1.lean); vx_outP calls Shelf42/NT130.lean (outThrough). -/
section
variable {l : Launch} {R : Room} {p : Program} {e : Env} {below : List Frame} {s : State} {sargs : Array Value} {y : MethodName} {len W9 : Nat}
theorem vx_backW {ws : List Cond} {rm : Room} {Pc : Array Value → State → Prop} {Qc : Array Value → State → Outcome → State → Prop} {XC : String → State → State → Prop} {mc ms : Nat} {free : Addr → Prop} {bytes : ByteArray} {maxL : Nat} {ret : Option FieldType} {hh : List (Nat × Nat × Nat × Nat)}
    (hM : vx_Met l y ws rm Pc Qc XC mc ms free) (hblind : FrameBlind Pc) (hrc : rm.cells = mc) (hrs : rm.slots = ms)
    (hframes : rm.frames + 1 ≤ R.frames) (hlocals : W9 + (maxL + 11) + rm.locals ≤ R.locals)
    (hws : ∀ w ∈ ws, ∀ a' U, s.WarmedH U.vm → w.before a' U = true) (hcode : Cond.codeWith y bytes maxL ret hh ∈ ws) (hinit : ∀ a' U, s.WarmedH U.vm → (Cond.initialized y.cls).before a' U = true) :
    vx_Back l R p e below s sargs y len W9 (PreOf R mc ms Pc) (PostOf Qc mc ms free) (vx_Post XC mc ms free) := by
  intro m meth c A g ig mk a X hg hsize hdg hW hn hp
  have h1 : (headSpec ws rm).pre.before a A.U = true := atoms_intro fun w hw => hws w hw _ _ X.warmed
  have h2 : (Cond.codeWith y bytes maxL ret hh).before a A.U = true := hws _ hcode _ _ X.warmed
  have h3 : (Cond.initialized y.cls).before a A.U = true := hinit _ _ X.warmed
  have h4 : A.cells + (headSpec ws rm).room.cells ≤ R.cells := by rw [show (headSpec ws rm).room.cells = mc from hrc]; exact hp.1
  have h5 : A.slots + (headSpec ws rm).room.slots ≤ R.slots := by rw [show (headSpec ws rm).room.slots = ms from hrs]; exact hp.2.1
  have hPc : Pc a (A.U.calling g mk a) := hblind _ _ _ _ hp.2.2
  obtain ⟨U, Ls, c0, s0⟩ := A
  dsimp only [Pt.U, Pt.locs, Pt.cells, Pt.slots] at h1 h2 h3 h4 h5 X hn hPc ⊢
  obtain ⟨m9, methY, cY, hn9, hmY, hcY, -, hlY, -⟩ := Cond.codeWith_spec h2
  cases Option.some.inj (hn9.symm.trans hn)
  obtain ⟨kY, hkY, -⟩ := className_of_methodNamed hn
  have hinitY : kY.init = .initialized := Cond.initialized_spec (findClass_of_methodNamed hn) hkY h3
  have h : At U g.method c below := by rw [hg]; exact X.here
  have hlocals9 : W9 + (maxL + 11) + (headSpec ws rm).room.locals ≤ R.locals := hlocals
  have happ : (headSpec ws rm).appliesLoose y e.platform (U.calling g mk a) = true :=
    Spec.appliesLoose_calling (g := g) h hdg hn hkY hinitY
      (X.room_calling (g := g) (R' := (headSpec ws rm).room) hsize hmY hcY hframes (by rw [hlY]; omega) h4 h5) h1
  obtain ⟨mid, hmid⟩ := h.above
  have hfr : (U.setTop g).frames = (.java g :: mid) ++ below := by rw [State.frames_setTop' g h.top, hmid]; rfl
  obtain ⟨o, s₂, hsteps, -, hend, hq⟩ := Steps.callFree hM p X.admits X.cas X.clock (acts := []) hfr happ hPc trivial
  have hq' : vx_Q Qc XC mc ms free a (U.calling g mk a) o s₂ := hq
  rw [State.frames_setTop' g h.top] at hend
  obtain ⟨g₀, hg0⟩ := Option.isSome_iff_exists.mp h.top
  obtain ⟨r, hr⟩ := State.topJava?_eq_some.mp hg0
  have hr' : (({ U with heap := s₂.heap, slotsUsed := s₂.slotsUsed } : State).setVm s₂.vm).frames = .java g₀ :: r := hr
  rcases hq' with ⟨hqc, L, hfe, hL⟩ | ⟨q, rfl, E, ce, L, hx, hce, hcv, hcl, hW₂, hsm, hL⟩
  · obtain ⟨⟨v, rfl⟩, hW₂, e2, q2, q3, q4, q5, q6⟩ := id hfe
    have e3 : s₂ = ({ (U.calling g mk a).setFrames s₂.frames with heap := s₂.heap, slotsUsed := s₂.slotsUsed } : State).setVm s₂.vm := by
      have : s₂ = ({ s₂ with vm := (U.calling g mk a).vm } : State).setVm s₂.vm := rfl
      rw [e2] at this
      exact this
    obtain ⟨c₂, i₂, len₂, hc₂, hd₂, hf₂⟩ := hend
    have hW' : U.WarmedH s₂.vm := hW₂
    have hcc : c₂ = c := by
      have h1 : s₂.code? g.method = U.code? g.method := by
        rw [State.code?_eq, State.code?_eq, hW'.alike.method?]
      exact Option.some.inj (hc₂.symm.trans (h1.trans h.code))
    subst hcc
    have hlen : len₂ = len := by rw [hdg] at hd₂; cases hd₂; rfl
    subst hlen
    have hs₂ : s₂ = (({ U with heap := s₂.heap, slotsUsed := s₂.slotsUsed } : State).setVm s₂.vm).setTop { g with pc := g.pc + len₂, stack := v.toList ++ g.stack } := by
      refine e3.trans ?_
      rw [hf₂, State.calling_eq h.top, State.setFrames_setFrames, State.setTop_of_frames _ hr', hr]
      rfl
    have hsame : U.sameButNew ({ U with heap := s₂.heap, slotsUsed := s₂.slotsUsed } : State) L mc ms := by
      refine ⟨?_, q2, q3, q4, q5, q6⟩
      obtain ⟨t, ht, -⟩ := State.frames_cons hr
      show ({ U with heap := s₂.heap, slotsUsed := s₂.slotsUsed } : State) = { U.setFrames U.frames with heap := s₂.heap, slotsUsed := s₂.slotsUsed }
      rw [State.setFrames_self ht]
    subst hg
    refine Or.inl ⟨v, ⟨(({ U with heap := s₂.heap, slotsUsed := s₂.slotsUsed } : State).setVm s₂.vm), Ls ++ L, c0 + mc, s0 + ms⟩,
      ⟨X.admits, X.cas, X.clock, X.frames, X.room, X.hears, X.method, X.code, (X.here.setHeapUsed s₂.heap s₂.slotsUsed).setVm hW'.alike, X.tail, State.WarmedH.trans X.warmed hW', X.limits, X.bytes, X.same.trans (hsame.setVm s.vm)⟩,
      ⟨g, mk, s₂, L, rfl, rfl, hqc, rfl, hL, rfl, rfl⟩, ?_⟩
    show Steps p.tables e below _ ((({ U with heap := s₂.heap, slotsUsed := s₂.slotsUsed } : State).setVm s₂.vm).setTop { g with pc := g.pc + len₂, stack := v.toList ++ g.stack })
    rw [← hs₂]
    exact hsteps
  · obtain ⟨e2, q2, q3, q4, q5, q6⟩ := id hsm
    have e3 : s₂ = ({ (U.calling g mk a).setFrames s₂.frames with heap := s₂.heap, slotsUsed := s₂.slotsUsed } : State).setVm s₂.vm := by
      have : s₂ = ({ s₂ with vm := (U.calling g mk a).vm } : State).setVm s₂.vm := rfl
      rw [e2] at this
      exact this
    have hf₂ : s₂.frames = .throwing q :: .java g :: U.frames.tail := hend
    have hW' : U.WarmedH s₂.vm := hW₂
    have hs₂ : s₂ = ((({ U with heap := s₂.heap, slotsUsed := s₂.slotsUsed } : State).setVm s₂.vm).setTop g).pushFrame (.throwing q) := by
      refine e3.trans ?_
      rw [hf₂, State.calling_eq h.top, State.setFrames_setFrames, State.pushFrame, State.frames_setTop _ hr', State.setTop_of_frames _ hr', State.setFrames_setFrames, hr]
      rfl
    have hsame : U.sameButNew ({ U with heap := s₂.heap, slotsUsed := s₂.slotsUsed } : State) L mc ms := by
      refine ⟨?_, q2, q3, q4, q5, q6⟩
      obtain ⟨t, ht, -⟩ := State.frames_cons hr
      show ({ U with heap := s₂.heap, slotsUsed := s₂.slotsUsed } : State) = { U.setFrames U.frames with heap := s₂.heap, slotsUsed := s₂.slotsUsed }
      rw [State.setFrames_self ht]
    subst hg
    refine Or.inr ⟨q, ⟨(({ U with heap := s₂.heap, slotsUsed := s₂.slotsUsed } : State).setVm s₂.vm), Ls ++ L, c0 + mc, s0 + ms⟩,
      ⟨X.admits, X.cas, X.clock, X.frames, X.room, X.hears, X.method, X.code, (X.here.setHeapUsed s₂.heap s₂.slotsUsed).setVm hW'.alike, X.tail, State.WarmedH.trans X.warmed hW', X.limits, X.bytes, X.same.trans (hsame.setVm s.vm)⟩,
      ⟨g, mk, s₂, L, E, ce, rfl, rfl, hx, hce, hcv, hcl, rfl, hL, rfl, rfl⟩, ?_⟩
    show Steps p.tables e below _ (((({ U with heap := s₂.heap, slotsUsed := s₂.slotsUsed } : State).setVm s₂.vm).setTop g).pushFrame (.throwing q))
    rw [← hs₂]
    exact hsteps
end
variable {p : Program} {l : Launch} {e : Env} {R : Room} {s : State} {m : MethodId} {args : Array Value} {below : List Frame} {meth : Method} {c : Code} {T : State} {H : Heap} {locs : List Loc} {cells slots : Nat}
theorem vx_callVX (X : Stand p l e R s m args below meth c T locs cells slots) (hexec : p.tables.exec = Jvm.exec) {own C : String} {index : Nat} {y : MethodName} {bytes : ByteArray} {maxL : Nat} {ret : Option FieldType} {hh : List (Nat × Nat × Nat × Nat)}
    (hown : s.vm.findClass own = some m.cls) (hlink : (Cond.methodLink own index y).before args s = true) (hinst : (Cond.instanceMethod y).before args s = true) (hsel : (Cond.selects C y y).before args s = true)
    (hcode : (Cond.codeWith y bytes maxL ret hh).before args s = true) (hy : y.cls ≠ "java/lang/invoke/MethodHandle" ∧ y.cls ≠ "java/lang/invoke/VarHandle")
    {W9 : Nat} {Pre : Pt → Array Value → Prop} {Post : Pt → Array Value → Option Value → Pt → Prop} {PostX : Pt → Array Value → Addr → Pt → Prop} (hK : vx_Back l R p e below s args y 3 W9 Pre Post PostX)
    {b : Addr} {cellB : Cell} (hcell : T.heap[b]? = some cellB) (hobj : cellB.vm.isStatics = false) (hcls : s.vm.findClass C = some cellB.cls)
    {g : JFrame} (hg : g.method = m) (hsize : g.locals.size = c.maxLocals) {argsL rest : List Value} (hlen : ∀ sig, parseMethodDescriptor y.desc = some sig → argsL.length = sig.parameters.length)
    (hstack : g.stack = argsL.reverse ++ .ref b :: rest) (hW : 2 * g.monitorRoom + (rest.map fun v => v.category).sum ≤ W9) (hdg : decode c.code g.pc = .ok (.invokevirtual index, 3))
    (hpre : ∀ vm₁, s.WarmedH vm₁ → Pre ⟨T.setVm vm₁, locs, cells, slots⟩ (Value.ref b :: argsL).toArray) :
    (∃ (v : Option Value) (vm₁ : Vm) (B : Pt), s.WarmedH vm₁ ∧ Stand p l e R s m args below meth c B.U B.locs B.cells B.slots ∧ Post ⟨T.setVm vm₁, locs, cells, slots⟩ (Value.ref b :: argsL).toArray v B ∧
      ∀ target, Steps p.tables e below (B.U.setTop { g with pc := g.pc + 3, stack := v.toList ++ rest }) target → Steps p.tables e below (T.setTop g) target) ∨
    (∃ (q : Addr) (vm₁ : Vm) (B : Pt), s.WarmedH vm₁ ∧ Stand p l e R s m args below meth c B.U B.locs B.cells B.slots ∧ PostX ⟨T.setVm vm₁, locs, cells, slots⟩ (Value.ref b :: argsL).toArray q B ∧
      Steps p.tables e below (T.setTop g) ((B.U.setTop { g with stack := rest }).pushFrame (.throwing q))) := by
  obtain ⟨mk, methM, hnamed, hmethM, hstM, habM⟩ := Cond.instanceMethod_spec hinst
  obtain ⟨m8, methM', cM, hn8, hmethM', -, -, -, -, -, -, hsigM⟩ := Cond.codeWith_spec hcode
  cases Option.some.inj (hn8.symm.trans hnamed)
  cases hmethM.symm.trans hmethM'
  obtain ⟨c2, r2, m2, q1, q2, q3, q4, kP, hkP, hkPi⟩ := Cond.selects_spec hsel
  cases hcls.symm.trans q1
  cases (State.methodFound?_of_named hnamed hy).symm.trans q2
  cases hnamed.symm.trans q3
  have hselP : selectMethod e.platform s.vm cellB.cls mk = .method mk := by rw [Launch.admits_selectMethod X.admits]; exact q4
  obtain ⟨vm₁, X₁, hstep₁⟩ := X.invokevirtual hexec hown hlink hnamed hmethM hstM hkP hkPi hy (a := b) (cell := cellB) hcell
    (fun z h => by rw [h] at hobj; cases hobj) hselP hmethM habM hkP hkPi (g := g) hg (argsL := argsL) (rest := rest) (hlen _ hsigM) hstack hdg
  rcases hK m meth c ⟨T.setVm vm₁, locs, cells, slots⟩ { g with stack := rest } (.invokevirtual index) mk (Value.ref b :: argsL).toArray X₁ hg hsize hdg hW (X₁.named hnamed) (hpre vm₁ X₁.warmed) with ⟨v, B, X', hpost, hsteps⟩ | ⟨q, B, X', hpost, hsteps⟩
  · exact Or.inl ⟨v, vm₁, B, X₁.warmed, X', hpost, fun target h => hstep₁ _ fun acts => by rw [doInvoke_state]; exact hsteps.trans h⟩
  · exact Or.inr ⟨q, vm₁, B, X₁.warmed, X', hpost, hstep₁ _ fun acts => by rw [doInvoke_state]; exact hsteps⟩
theorem vx_callSX (X : Stand p l e R s m args below meth c T locs cells slots) (hexec : p.tables.exec = Jvm.exec) {own : String} {index : Nat} {y : MethodName} {bytes : ByteArray} {maxL : Nat} {ret : Option FieldType} {hh : List (Nat × Nat × Nat × Nat)}
    (hown : s.vm.findClass own = some m.cls) (hlink : (Cond.methodLink own index y).before args s = true) (hstat : (Cond.static y).before args s = true) (hinit : (Cond.initialized y.cls).before args s = true)
    (hcode : (Cond.codeWith y bytes maxL ret hh).before args s = true) (hy : y.cls ≠ "java/lang/invoke/MethodHandle" ∧ y.cls ≠ "java/lang/invoke/VarHandle")
    {W9 : Nat} {Pre : Pt → Array Value → Prop} {Post : Pt → Array Value → Option Value → Pt → Prop} {PostX : Pt → Array Value → Addr → Pt → Prop} (hK : vx_Back l R p e below s args y 3 W9 Pre Post PostX)
    {g : JFrame} (hg : g.method = m) (hsize : g.locals.size = c.maxLocals) {argsL rest : List Value} (hlen : ∀ sig, parseMethodDescriptor y.desc = some sig → argsL.length = sig.parameters.length)
    (hstack : g.stack = argsL.reverse ++ rest) (hW : 2 * g.monitorRoom + (rest.map fun v => v.category).sum ≤ W9) (hdg : decode c.code g.pc = .ok (.invokestatic index, 3))
    (hpre : ∀ vm₁, s.WarmedH vm₁ → Pre ⟨T.setVm vm₁, locs, cells, slots⟩ argsL.toArray) :
    (∃ (v : Option Value) (vm₁ : Vm) (B : Pt), s.WarmedH vm₁ ∧ Stand p l e R s m args below meth c B.U B.locs B.cells B.slots ∧ Post ⟨T.setVm vm₁, locs, cells, slots⟩ argsL.toArray v B ∧
      ∀ target, Steps p.tables e below (B.U.setTop { g with pc := g.pc + 3, stack := v.toList ++ rest }) target → Steps p.tables e below (T.setTop g) target) ∨
    (∃ (q : Addr) (vm₁ : Vm) (B : Pt), s.WarmedH vm₁ ∧ Stand p l e R s m args below meth c B.U B.locs B.cells B.slots ∧ PostX ⟨T.setVm vm₁, locs, cells, slots⟩ argsL.toArray q B ∧
      Steps p.tables e below (T.setTop g) ((B.U.setTop { g with stack := rest }).pushFrame (.throwing q))) := by
  obtain ⟨mk, methM, cM, hnamed, hmethM, -, -, -, -, -, -, hsigM⟩ := Cond.codeWith_spec hcode
  have hstatic : methM.isStatic = true := Cond.static_spec hnamed hmethM hstat
  obtain ⟨kP, hkP, -⟩ := className_of_methodNamed hnamed
  have hinitP : kP.init = .initialized := Cond.initialized_spec (findClass_of_methodNamed hnamed) hkP hinit
  obtain ⟨vm₁, X₁, hstep₁⟩ := X.invokestatic hexec hown hlink hnamed hmethM hstatic hkP hinitP hy (g := g) hg (argsL := argsL) (rest := rest) (hlen _ hsigM) hstack hdg
  rcases hK m meth c ⟨T.setVm vm₁, locs, cells, slots⟩ { g with stack := rest } (.invokestatic index) mk argsL.toArray X₁ hg hsize hdg hW (X₁.named hnamed) (hpre vm₁ X₁.warmed) with ⟨v, B, X', hpost, hsteps⟩ | ⟨q, B, X', hpost, hsteps⟩
  · exact Or.inl ⟨v, vm₁, B, X₁.warmed, X', hpost, fun target h => hstep₁ _ fun acts => by rw [doInvoke_state]; exact hsteps.trans h⟩
  · exact Or.inr ⟨q, vm₁, B, X₁.warmed, X', hpost, hstep₁ _ fun acts => by rw [doInvoke_state]; exact hsteps⟩
theorem vx_callVW (X : Stand p l e R s m args below meth c T locs cells slots) (hexec : p.tables.exec = Jvm.exec) {own C : String} {index : Nat} {y : MethodName} {bytes : ByteArray} {maxL : Nat} {ret : Option FieldType} {hh : List (Nat × Nat × Nat × Nat)}
    (hown : s.vm.findClass own = some m.cls) (hlink : (Cond.methodLink own index y).before args s = true) (hinst : (Cond.instanceMethod y).before args s = true) (hsel : (Cond.selects C y y).before args s = true)
    (hcode : (Cond.codeWith y bytes maxL ret hh).before args s = true) (hy : y.cls ≠ "java/lang/invoke/MethodHandle" ∧ y.cls ≠ "java/lang/invoke/VarHandle")
    {W9 : Nat} {Pre : Pt → Array Value → Prop} {Post : Pt → Array Value → Option Value → Pt → Prop} (hK : Back l R p e below s args y 3 W9 Pre Post)
    {b : Addr} {cellB : Cell} (hcell : T.heap[b]? = some cellB) (hobj : cellB.vm.isStatics = false) (hcls : s.vm.findClass C = some cellB.cls)
    {g : JFrame} (hg : g.method = m) (hsize : g.locals.size = c.maxLocals) {argsL rest : List Value} (hlen : ∀ sig, parseMethodDescriptor y.desc = some sig → argsL.length = sig.parameters.length)
    (hstack : g.stack = argsL.reverse ++ .ref b :: rest) (hW : 2 * g.monitorRoom + (rest.map fun v => v.category).sum ≤ W9) (hdg : decode c.code g.pc = .ok (.invokevirtual index, 3))
    (hpre : ∀ vm₁, s.WarmedH vm₁ → Pre ⟨T.setVm vm₁, locs, cells, slots⟩ (Value.ref b :: argsL).toArray) :
    ∃ (v : Option Value) (vm₁ : Vm) (B : Pt), s.WarmedH vm₁ ∧ Stand p l e R s m args below meth c B.U B.locs B.cells B.slots ∧ Post ⟨T.setVm vm₁, locs, cells, slots⟩ (Value.ref b :: argsL).toArray v B ∧
      ∀ target, Steps p.tables e below (B.U.setTop { g with pc := g.pc + 3, stack := v.toList ++ rest }) target → Steps p.tables e below (T.setTop g) target := by
  obtain ⟨mk, methM, hnamed, hmethM, hstM, habM⟩ := Cond.instanceMethod_spec hinst
  obtain ⟨m8, methM', cM, hn8, hmethM', -, -, -, -, -, -, hsigM⟩ := Cond.codeWith_spec hcode
  cases Option.some.inj (hn8.symm.trans hnamed)
  cases hmethM.symm.trans hmethM'
  obtain ⟨c2, r2, m2, q1, q2, q3, q4, kP, hkP, hkPi⟩ := Cond.selects_spec hsel
  cases hcls.symm.trans q1
  cases (State.methodFound?_of_named hnamed hy).symm.trans q2
  cases hnamed.symm.trans q3
  have hselP : selectMethod e.platform s.vm cellB.cls mk = .method mk := by rw [Launch.admits_selectMethod X.admits]; exact q4
  obtain ⟨vm₁, X₁, hstep₁⟩ := X.invokevirtual hexec hown hlink hnamed hmethM hstM hkP hkPi hy (a := b) (cell := cellB) hcell
    (fun z h => by rw [h] at hobj; cases hobj) hselP hmethM habM hkP hkPi (g := g) hg (argsL := argsL) (rest := rest) (hlen _ hsigM) hstack hdg
  obtain ⟨v, B, X', hpost, hsteps⟩ := hK m meth c ⟨T.setVm vm₁, locs, cells, slots⟩ { g with stack := rest } (.invokevirtual index) mk (Value.ref b :: argsL).toArray X₁ hg hsize hdg hW (X₁.named hnamed) (hpre vm₁ X₁.warmed)
  exact ⟨v, vm₁, B, X₁.warmed, X', hpost, fun target h => hstep₁ _ fun acts => by rw [doInvoke_state]; exact hsteps.trans h⟩
abbrev vx_CVW (R : Room) (s : State) (args : Array Value) (own C : String) (index : Nat) (y : MethodName) (bytes : ByteArray) (maxL : Nat) (ret : Option FieldType) (hh : List (Nat × Nat × Nat × Nat)) (ws : List Cond) (rm : Room) (mc ms n : Nat) : Prop :=
  (rm.cells = mc ∧ rm.slots = ms ∧ rm.frames + 1 ≤ R.frames ∧ 8 + (maxL + 11) + rm.locals ≤ R.locals ∧ (∀ w ∈ ws, ∀ (a' : Array Value) (U : State), s.WarmedH U.vm → w.before a' U = true) ∧ Cond.codeWith y bytes maxL ret hh ∈ ws) ∧
  (Cond.codeWith y bytes maxL ret hh).before args s = true ∧ (Cond.initialized y.cls).before args s = true ∧ (y.cls ≠ "java/lang/invoke/MethodHandle" ∧ y.cls ≠ "java/lang/invoke/VarHandle") ∧
  (∀ sig, parseMethodDescriptor y.desc = some sig → n = sig.parameters.length) ∧ (Cond.methodLink own index y).before args s = true ∧ (Cond.instanceMethod y).before args s = true ∧ (Cond.selects C y y).before args s = true
theorem vx_cwVW {own C : String} {index maxL mc ms : Nat} {y : MethodName} {bytes : ByteArray} {ret : Option FieldType} {hh : List (Nat × Nat × Nat × Nat)} {Ts ws ws' : List Cond} {rm : Room} (n : Nat) (ht : ∀ w ∈ Ts, w.before args s = true) (hT : GoodIn Ts (wsV own index C y ws)) (hw : ws = Cond.codeWith y bytes maxL ret hh :: ws') (hrc : rm.cells = mc) (hrs : rm.slots = ms)
    (hd : y.cls = C ∧ y.cls ≠ "java/lang/invoke/MethodHandle" ∧ y.cls ≠ "java/lang/invoke/VarHandle" ∧ (parseMethodDescriptor y.desc).map (fun d => d.parameters.length) = some n) (hR : rm.frames + 1 ≤ R.frames ∧ 8 + (maxL + 11) + rm.locals ≤ R.locals) :
    vx_CVW R s args own C index y bytes maxL ret hh ws rm mc ms n := by
  obtain ⟨hC, hd⟩ := hd
  subst hC
  have ok : ∀ w ∈ wsV own index y.cls y ws, w.before args s = true := fun w h => ht w (hT w h).1
  have hG : GoodIn Ts ws := fun w h => hT w (by unfold wsV; exact List.mem_append_right _ h)
  have hc : Cond.codeWith y bytes maxL ret hh ∈ ws := by rw [hw]; exact List.mem_cons_self
  refine ⟨⟨hrc, hrs, hR.1, hR.2, pay_in ht hG, hc⟩, ht _ (hG _ hc).1, ok _ (by simp [wsV]), ⟨hd.1, hd.2.1⟩, fun sig h => ?_, ok _ (by simp [wsV]), ok _ (by simp [wsV]), ok _ (by simp [wsV])⟩
  have h2 := hd.2.2
  rw [h] at h2
  exact (Option.some.inj h2).symm
theorem vx_runVW {y : MethodName} {bytes cc : ByteArray} {maxL nL mc ms n index : Nat} {ret : Option FieldType} {hh : List (Nat × Nat × Nat × Nat)} {ws : List Cond} {rm : Room} {Pc : Array Value → State → Prop} {Qc : Array Value → State → Outcome → State → Prop} {free : Addr → Prop} {Ts : List Cond} {own C : String} {b : Addr} {As rest : List Value} {g : JFrame}
    (S : CallFix p m c cc nL s args Ts own) (hM : Met l y ws rm Pc Qc mc ms free) (cw : vx_CVW R s args own C index y bytes maxL ret hh ws rm mc ms n) (hp : PreV s H C b Pc As)
    (hg : g.method = m) (hn : As.length = n) (hsize : g.locals.size = nL) (hstack : g.stack = As.reverse ++ .ref b :: rest) (hW : 2 * g.monitorRoom + (rest.map fun v => v.category).sum ≤ 8) (hdg : decode cc g.pc = .ok (.invokevirtual index, 3)) (hf : cells + mc ≤ R.cells ∧ slots + ms ≤ R.slots) :
    va_Run p l e R s m args below meth c H locs cells slots mc ms g rest (Qc (Value.ref b :: As).toArray) free := by
  obtain ⟨⟨hrc, hrs, hfr, hlo, hws, hcw⟩, hcode, hini, hy, hlen, hl, hin, hse⟩ := cw
  have hK : Back l R p e below s args y 3 8 (PreOf R mc ms Pc) (PostOf Qc mc ms free) := va_backW (hh := hh) (bytes := bytes) (maxL := maxL) (ret := ret) hM hp.1 hrc hrs hfr hlo hws hcw (fun a' U hW => word_at hW (Or.inl (by first | rfl | simp [Cond.onTables, Cond.keeps, Cond.steady])) hini)
  obtain ⟨hx, hb, hml, ho, -⟩ := S
  obtain ⟨-, ⟨cellB, hcB, hoB, hclB⟩, hPc⟩ := hp
  intro T hT X
  obtain ⟨v, vm₁, ⟨U', l2, c2, s2⟩, hW₁, X', ⟨g', mk, t, L, e1, e2, hq, h1, hL, h2, h3⟩, st⟩ := vx_callVW X hx (C := C) (hh := hh) (bytes := bytes) (maxL := maxL) (ret := ret) ho hl hin hse hcode hy hK (by rw [hT]; exact hcB) hoB hclB hg (hsize.trans hml.symm) (argsL := As) (rest := rest) (fun sig h => hn.trans (hlen sig h)) hstack hW (by rw [hb]; exact hdg)
    (fun vm₁ hW₁ => ⟨hf.1, hf.2, hPc (T.setVm vm₁) hT hW₁⟩)
  dsimp only [Pt.U, Pt.locs, Pt.cells, Pt.slots] at X' e1 e2 h1 h2 h3 st
  subst h1; subst h2; subst h3
  exact ⟨v, (T.setVm vm₁).calling g' mk (Value.ref b :: As).toArray, t, U', L, hT, X', hL, e1, e2, hq, st⟩
section
variable {y : MethodName} {bytes cc : ByteArray} {maxL nL mc ms n index : Nat} {ret : Option FieldType} {ws : List Cond} {rm : Room} {Pc : Array Value → State → Prop} {Qc : Array Value → State → Outcome → State → Prop} {XC : String → State → State → Prop} {free : Addr → Prop} {Ts : List Cond} {own C : String} {b : Addr} {As rest : List Value} {g : JFrame}
theorem vx_runVX {hh : List (Nat × Nat × Nat × Nat)} (S : CallFix p m c cc nL s args Ts own) (hM : vx_Met l y ws rm Pc Qc XC mc ms free) (cw : vx_CVW R s args own C index y bytes maxL ret hh ws rm mc ms n) (hp : PreV s H C b Pc As)
    (hg : g.method = m) (hn : As.length = n) (hsize : g.locals.size = nL) (hstack : g.stack = As.reverse ++ .ref b :: rest) (hW : 2 * g.monitorRoom + (rest.map fun v => v.category).sum ≤ 8) (hdg : decode cc g.pc = .ok (.invokevirtual index, 3)) (hf : cells + mc ≤ R.cells ∧ slots + ms ≤ R.slots) :
    vx_Run p l e R s m args below meth c H locs cells slots mc ms g rest (Qc (Value.ref b :: As).toArray) XC free := by
  obtain ⟨⟨hrc, hrs, hfr, hlo, hws, hcw⟩, hcode, hini, hy, hlen, hl, hin, hse⟩ := cw
  have hK : vx_Back l R p e below s args y 3 8 (PreOf R mc ms Pc) (PostOf Qc mc ms free) (vx_Post XC mc ms free) := vx_backW (hh := hh) (bytes := bytes) (maxL := maxL) (ret := ret) hM hp.1 hrc hrs hfr hlo hws hcw (fun a' U hW => word_at hW (Or.inl (by first | rfl | simp [Cond.onTables, Cond.keeps, Cond.steady])) hini)
  obtain ⟨hx, hb, hml, ho, -⟩ := S
  obtain ⟨-, ⟨cellB, hcB, hoB, hclB⟩, hPc⟩ := hp
  intro T hT X
  rcases vx_callVX X hx (C := C) (hh := hh) (bytes := bytes) (maxL := maxL) (ret := ret) ho hl hin hse hcode hy hK (by rw [hT]; exact hcB) hoB hclB hg (hsize.trans hml.symm) (argsL := As) (rest := rest) (fun sig h => hn.trans (hlen sig h)) hstack hW (by rw [hb]; exact hdg)
    (fun vm₁ hW₁ => ⟨hf.1, hf.2, hPc (T.setVm vm₁) hT hW₁⟩) with ⟨v, vm₁, ⟨U', l2, c2, s2⟩, hW₁, X', ⟨g', mk, t, L, e1, e2, hq, h1, hL, h2, h3⟩, st⟩ | ⟨q, vm₁, ⟨U', l2, c2, s2⟩, hW₁, X', ⟨g', mk, t, L, E, ce, e1, e2, hq, hce, hcv, hcl, h1, hL, h2, h3⟩, st⟩
  · dsimp only [Pt.U, Pt.locs, Pt.cells, Pt.slots] at X' e1 e2 h1 h2 h3 st
    subst h1; subst h2; subst h3
    exact Or.inl ⟨v, (T.setVm vm₁).calling g' mk (Value.ref b :: As).toArray, t, U', L, hT, X', hL, e1, e2, hq, st⟩
  · dsimp only [Pt.U, Pt.locs, Pt.cells, Pt.slots] at X' e1 e2 h1 h2 h3 st hcl
    subst h1; subst h2; subst h3
    exact Or.inr ⟨q, (T.setVm vm₁).calling g' mk (Value.ref b :: As).toArray, t, U', L, E, ce, hT, X', hL, e1, e2, hq, hce, hcv, vx_cls hW₁ hcl, st⟩
theorem vx_runSX {hh : List (Nat × Nat × Nat × Nat)} (S : CallFix p m c cc nL s args Ts own) (hM : vx_Met l y ws rm Pc Qc XC mc ms free) (cw : vx_CSW R s args own index y bytes maxL ret hh ws rm mc ms n) (hp : PreS s H Pc As)
    (hg : g.method = m) (hn : As.length = n) (hsize : g.locals.size = nL) (hstack : g.stack = As.reverse ++ rest) (hW : 2 * g.monitorRoom + (rest.map fun v => v.category).sum ≤ 8) (hdg : decode cc g.pc = .ok (.invokestatic index, 3)) (hf : cells + mc ≤ R.cells ∧ slots + ms ≤ R.slots) :
    vx_Run p l e R s m args below meth c H locs cells slots mc ms g rest (Qc As.toArray) XC free := by
  obtain ⟨⟨hrc, hrs, hfr, hlo, hws, hcw⟩, hcode, hini, hy, hlen, hl, hstt⟩ := cw
  have hK : vx_Back l R p e below s args y 3 8 (PreOf R mc ms Pc) (PostOf Qc mc ms free) (vx_Post XC mc ms free) := vx_backW (hh := hh) (bytes := bytes) (maxL := maxL) (ret := ret) hM hp.1 hrc hrs hfr hlo hws hcw (fun a' U hW => word_at hW (Or.inl (by first | rfl | simp [Cond.onTables, Cond.keeps, Cond.steady])) hini)
  obtain ⟨hx, hb, hml, ho, -⟩ := S
  intro T hT X
  rcases vx_callSX X hx (hh := hh) (bytes := bytes) (maxL := maxL) (ret := ret) ho hl hstt hini hcode hy hK hg (hsize.trans hml.symm) (argsL := As) (rest := rest) (fun sig h => hn.trans (hlen sig h)) hstack hW (by rw [hb]; exact hdg)
    (fun vm₁ hW₁ => ⟨hf.1, hf.2, hp.2 (T.setVm vm₁) hT hW₁⟩) with ⟨v, vm₁, ⟨U', l2, c2, s2⟩, hW₁, X', ⟨g', mk, t, L, e1, e2, hq, h1, hL, h2, h3⟩, st⟩ | ⟨q, vm₁, ⟨U', l2, c2, s2⟩, hW₁, X', ⟨g', mk, t, L, E, ce, e1, e2, hq, hce, hcv, hcl, h1, hL, h2, h3⟩, st⟩
  · dsimp only [Pt.U, Pt.locs, Pt.cells, Pt.slots] at X' e1 e2 h1 h2 h3 st
    subst h1; subst h2; subst h3
    exact Or.inl ⟨v, (T.setVm vm₁).calling g' mk As.toArray, t, U', L, hT, X', hL, e1, e2, hq, st⟩
  · dsimp only [Pt.U, Pt.locs, Pt.cells, Pt.slots] at X' e1 e2 h1 h2 h3 st hcl
    subst h1; subst h2; subst h3
    exact Or.inr ⟨q, (T.setVm vm₁).calling g' mk As.toArray, t, U', L, E, ce, hT, X', hL, e1, e2, hq, hce, hcv, vx_cls hW₁ hcl, st⟩
end
end VXH
theorem vx_ofWH {l : Launch} {y : MethodName} {ws ws' : List Cond} {rm : Room} {Pc : Array Value → State → Prop} {Qc : Array Value → State → Outcome → State → Prop} {XC : String → State → State → Prop} {mc ms : Nat} {free : Addr → Prop} {cc : ByteArray} {maxL : Nat} {ret : Option FieldType} {hh : List (Nat × Nat × Nat × Nat)}
    (hy : plainName y.cls = true) (hw : ws = Cond.codeWith y cc maxL ret hh :: ws')
    (body : ∀ p e s m args below meth c s₁, BodyLoose p l y (headSpec ws rm) cc maxL ret e s m args below meth c s₁ → c.maxLocals = maxL → Pc args s →
      W p l e (headSpec ws rm).room s m args below meth c s.heap [] 0 0 (vx_MQ below Qc XC args s mc ms free) (entryFrame m args maxL)) : vx_Met l y ws rm Pc Qc XC mc ms free := by
  refine MetFree.of_bodyS (code := cc) (maxLocals := maxL) (ret := ret) hy ?_ ?_
  · intro args s m h hn
    obtain ⟨m9, meth, c, hn9, h1, h2, h3, h4, -, h5, h6, -⟩ := Cond.codeWith_spec (atoms_spec (ws := ws) h _ (by rw [hw]; exact List.mem_cons_self))
    cases hn.symm.trans hn9
    exact ⟨meth, c, h1, h2, h3, h4, h5, h6⟩
  · intro p e s m args below meth c s₁ B hml hP _
    have hh0 : s₁.heap = s.heap := by rw [B.state]; rfl
    obtain ⟨t, a1, o, b1, b2, b3⟩ := body p e s m args below meth c s₁ B hml hP s₁ hh0 (Stand.of_body B)
    exact ⟨t, o, a1, b1, b2, b3⟩
/-! ===== END ===== -/

/-! ===== BEGIN a constructor that throws (launches without stack traces) ===== -/
section VXIA
variable {p : Program} {l : Launch} {e : Env} {R : Room} {s : State} {m : MethodId} {args : Array Value} {below : List Frame} {meth : Method} {c : Code} {T : State} {locs : List Loc} {cells slots : Nat}
theorem vx_callI (X : Stand p l e R s m args below meth c T locs cells slots) (hexec : p.tables.exec = Jvm.exec) {own : String} {index : Nat} {y : MethodName} {bytes : ByteArray} {maxL : Nat}
    (hown : s.vm.findClass own = some m.cls) (hy1 : y.name = "<init>") (hlink : (Cond.methodLink own index y).before args s = true) (hinst : (Cond.instanceMethod y).before args s = true)
    (hcode : (Cond.code y bytes maxL none).before args s = true) (hy : y.cls ≠ "java/lang/invoke/MethodHandle" ∧ y.cls ≠ "java/lang/invoke/VarHandle")
    {W9 : Nat} {Pre : Pt → Array Value → Prop} {Post : Pt → Array Value → Option Value → Pt → Prop} {PostX : Pt → Array Value → Addr → Pt → Prop} (hK : vx_Back l R p e below s args y 3 W9 Pre Post PostX)
    {g : JFrame} (hg : g.method = m) (hsize : g.locals.size = c.maxLocals) {a : Addr} {argsL rest : List Value} (hlen : ∀ sig, parseMethodDescriptor y.desc = some sig → argsL.length = sig.parameters.length)
    (hstack : g.stack = argsL.reverse ++ .ref a :: rest) (hW : 2 * g.monitorRoom + (rest.map fun v => v.category).sum ≤ W9) (hdg : decode c.code g.pc = .ok (.invokespecial index, 3))
    (hpre : ∀ vm₁, s.WarmedH vm₁ → Pre ⟨T.setVm vm₁, locs, cells, slots⟩ (Value.ref a :: argsL).toArray) :
    (∃ (v : Option Value) (vm₁ : Vm) (B : Pt), s.WarmedH vm₁ ∧ Stand p l e R s m args below meth c B.U B.locs B.cells B.slots ∧ Post ⟨T.setVm vm₁, locs, cells, slots⟩ (Value.ref a :: argsL).toArray v B ∧
      ∀ target, Steps p.tables e below (B.U.setTop { g with pc := g.pc + 3, stack := v.toList ++ rest }) target → Steps p.tables e below (T.setTop g) target) ∨
    (∃ (q : Addr) (vm₁ : Vm) (B : Pt), s.WarmedH vm₁ ∧ Stand p l e R s m args below meth c B.U B.locs B.cells B.slots ∧ PostX ⟨T.setVm vm₁, locs, cells, slots⟩ (Value.ref a :: argsL).toArray q B ∧
      Steps p.tables e below (T.setTop g) ((B.U.setTop { g with stack := rest }).pushFrame (.throwing q))) := by
  subst hg
  have hpl : e.platform.magicAccessors = ({} : Platform).magicAccessors := by rw [X.admits.platform]
  obtain ⟨mk, methM, cM, kP, vm₁, hnamed, hmethM, hcodeM, -, hlocalsM, -, hkP, -, hW₁, hstep₁⟩ := Steps.initColdArgs (e := e) X.here hexec X.warmed hpl hown hy1 hy hlink hinst hcode (f := g) rfl hlen hstack hdg
  have X₁ := X.noted hW₁
  rcases hK g.method meth c ⟨T.setVm vm₁, locs, cells, slots⟩ { g with stack := rest } (.invokespecial index) mk (Value.ref a :: argsL).toArray X₁ rfl hsize hdg hW (X₁.named hnamed) (hpre vm₁ X₁.warmed) with ⟨v, B, X', hpost, hsteps⟩ | ⟨q, B, X', hpost, hsteps⟩
  · exact Or.inl ⟨v, vm₁, B, X₁.warmed, X', hpost, fun target h => hstep₁ _ fun acts => by rw [doInvoke_state]; exact hsteps.trans h⟩
  · exact Or.inr ⟨q, vm₁, B, X₁.warmed, X', hpost, hstep₁ _ fun acts => by rw [doInvoke_state]; exact hsteps⟩
end VXIA
section VXIB
variable {p : Program} {l : Launch} {e : Env} {R : Room} {s : State} {m : MethodId} {args : Array Value} {below : List Frame} {meth : Method} {c : Code} {H : Heap} {locs : List Loc} {cells slots : Nat}
variable {y : MethodName} {bytes cc : ByteArray} {maxL nL mc ms n index : Nat} {ret : Option FieldType} {ws : List Cond} {rm : Room} {Pc : Array Value → State → Prop} {Qc : Array Value → State → Outcome → State → Prop} {XC : String → State → State → Prop} {free : Addr → Prop} {Ts : List Cond} {own C : String} {b : Addr} {As rest : List Value} {g : JFrame}
theorem vx_runI (S : CallFix p m c cc nL s args Ts own) (hM : vx_Met l y ws rm Pc Qc XC mc ms free) (cw : CallB R s args own index y bytes maxL none ws rm mc ms n ∧ y.name = "<init>" ∧ (Cond.instanceMethod y).before args s = true) (hp : PreS s H Pc (.ref b :: As))
    (hg : g.method = m) (hn : As.length = n) (hsize : g.locals.size = nL) (hstack : g.stack = As.reverse ++ .ref b :: rest) (hW : 2 * g.monitorRoom + (rest.map fun v => v.category).sum ≤ 8) (hdg : decode cc g.pc = .ok (.invokespecial index, 3)) (hf : cells + mc ≤ R.cells ∧ slots + ms ≤ R.slots) :
    vx_Run p l e R s m args below meth c H locs cells slots mc ms g rest (Qc (Value.ref b :: As).toArray) XC free := by
  have hK : vx_Back l R p e below s args y 3 8 (PreOf R mc ms Pc) (PostOf Qc mc ms free) (vx_Post XC mc ms free) := vx_callBack cw.1 hM hp.1
  obtain ⟨⟨-, -, -, -, -, -, hcode, -, hy, hlen, hl⟩, hy1, hin⟩ := cw
  obtain ⟨hx, hb, hml, ho, -⟩ := S
  have hPc := hp.2
  intro T hT X
  rcases vx_callI X hx (bytes := bytes) (maxL := maxL) ho hy1 hl hin hcode hy hK hg (hsize.trans hml.symm) (a := b) (argsL := As) (rest := rest) (fun sig h => hn.trans (hlen sig h)) hstack hW (by rw [hb]; exact hdg)
    (fun vm₁ hW₁ => ⟨hf.1, hf.2, hPc (T.setVm vm₁) hT hW₁⟩) with ⟨v, vm₁, ⟨U', l2, c2, s2⟩, hW₁, X', ⟨g', mk, t, L, e1, e2, hq, h1, hL, h2, h3⟩, st⟩ | ⟨q, vm₁, ⟨U', l2, c2, s2⟩, hW₁, X', ⟨g', mk, t, L, E, ce, e1, e2, hq, hce, hcv, hcl, h1, hL, h2, h3⟩, st⟩
  · dsimp only [Pt.U, Pt.locs, Pt.cells, Pt.slots] at X' e1 e2 h1 h2 h3 st
    subst h1; subst h2; subst h3
    exact Or.inl ⟨v, (T.setVm vm₁).calling g' mk (Value.ref b :: As).toArray, t, U', L, hT, X', hL, e1, e2, hq, st⟩
  · dsimp only [Pt.U, Pt.locs, Pt.cells, Pt.slots] at X' e1 e2 h1 h2 h3 st hcl
    subst h1; subst h2; subst h3
    exact Or.inr ⟨q, (T.setVm vm₁).calling g' mk (Value.ref b :: As).toArray, t, U', L, E, ce, hT, X', hL, e1, e2, hq, hce, hcv, vx_cls hW₁ hcl, st⟩
end VXIB
/-! ===== END ===== -/
/-! ===== BEGIN a private constructor of a nest mate that throws ===== -/
section VXIC
variable {p : Program} {l : Launch} {e : Env} {R : Room} {s : State} {m : MethodId} {args : Array Value} {below : List Frame} {meth : Method} {c : Code} {T : State} {locs : List Loc} {cells slots : Nat}
theorem vx_callIN (X : Stand p l e R s m args below meth c T locs cells slots) (hexec : p.tables.exec = Jvm.exec) {own : String} {index : Nat} {host : String} {y : MethodName} {bytes : ByteArray} {maxL : Nat}
    (hown : s.vm.findClass own = some m.cls) (hy1 : y.name = "<init>") (hlink : (Cond.methodLinkNest own index y host).before args s = true) (hinst : (Cond.instanceMethod y).before args s = true)
    (hcode : (Cond.code y bytes maxL none).before args s = true) (hy : y.cls ≠ "java/lang/invoke/MethodHandle" ∧ y.cls ≠ "java/lang/invoke/VarHandle")
    {W9 : Nat} {Pre : Pt → Array Value → Prop} {Post : Pt → Array Value → Option Value → Pt → Prop} {PostX : Pt → Array Value → Addr → Pt → Prop} (hK : vx_Back l R p e below s args y 3 W9 Pre Post PostX)
    {g : JFrame} (hg : g.method = m) (hsize : g.locals.size = c.maxLocals) {a : Addr} {argsL rest : List Value} (hlen : ∀ sig, parseMethodDescriptor y.desc = some sig → argsL.length = sig.parameters.length)
    (hstack : g.stack = argsL.reverse ++ .ref a :: rest) (hW : 2 * g.monitorRoom + (rest.map fun v => v.category).sum ≤ W9) (hdg : decode c.code g.pc = .ok (.invokespecial index, 3))
    (hpre : ∀ vm₁, s.WarmedH vm₁ → Pre ⟨T.setVm vm₁, locs, cells, slots⟩ (Value.ref a :: argsL).toArray) :
    (∃ (v : Option Value) (vm₁ : Vm) (B : Pt), s.WarmedH vm₁ ∧ Stand p l e R s m args below meth c B.U B.locs B.cells B.slots ∧ Post ⟨T.setVm vm₁, locs, cells, slots⟩ (Value.ref a :: argsL).toArray v B ∧
      ∀ target, Steps p.tables e below (B.U.setTop { g with pc := g.pc + 3, stack := v.toList ++ rest }) target → Steps p.tables e below (T.setTop g) target) ∨
    (∃ (q : Addr) (vm₁ : Vm) (B : Pt), s.WarmedH vm₁ ∧ Stand p l e R s m args below meth c B.U B.locs B.cells B.slots ∧ PostX ⟨T.setVm vm₁, locs, cells, slots⟩ (Value.ref a :: argsL).toArray q B ∧
      Steps p.tables e below (T.setTop g) ((B.U.setTop { g with stack := rest }).pushFrame (.throwing q))) := by
  subst hg
  have hpl : e.platform.magicAccessors = ({} : Platform).magicAccessors := by rw [X.admits.platform]
  obtain ⟨mk, methM, cM, kP, vm₁, hnamed, hmethM, hcodeM, -, hlocalsM, -, hkP, -, hW₁, hstep₁⟩ := Steps.initColdArgsNest (e := e) X.here hexec X.warmed hpl hown hy1 hy hlink hinst hcode (f := g) rfl hlen hstack hdg
  have X₁ := X.noted hW₁
  rcases hK g.method meth c ⟨T.setVm vm₁, locs, cells, slots⟩ { g with stack := rest } (.invokespecial index) mk (Value.ref a :: argsL).toArray X₁ rfl hsize hdg hW (X₁.named hnamed) (hpre vm₁ X₁.warmed) with ⟨v, B, X', hpost, hsteps⟩ | ⟨q, B, X', hpost, hsteps⟩
  · exact Or.inl ⟨v, vm₁, B, X₁.warmed, X', hpost, fun target h => hstep₁ _ fun acts => by rw [doInvoke_state]; exact hsteps.trans h⟩
  · exact Or.inr ⟨q, vm₁, B, X₁.warmed, X', hpost, hstep₁ _ fun acts => by rw [doInvoke_state]; exact hsteps⟩
end VXIC
section VXID
variable {p : Program} {l : Launch} {e : Env} {R : Room} {s : State} {m : MethodId} {args : Array Value} {below : List Frame} {meth : Method} {c : Code} {H : Heap} {locs : List Loc} {cells slots : Nat}
theorem vx_runIN {y : MethodName} {bytes cc : ByteArray} {maxL nL mc ms n index : Nat} {ws : List Cond} {rm : Room} {Pc : Array Value → State → Prop} {Qc : Array Value → State → Outcome → State → Prop} {XC : String → State → State → Prop} {free : Addr → Prop} {Ts : List Cond} {own host : String} {b : Addr} {As rest : List Value} {g : JFrame}
    (S : CallFix p m c cc nL s args Ts own) (hM : vx_Met l y ws rm Pc Qc XC mc ms free) (cw : va_CN R s args own index y host bytes maxL none ws rm mc ms n ∧ y.name = "<init>" ∧ (Cond.instanceMethod y).before args s = true) (hp : PreS s H Pc (.ref b :: As))
    (hg : g.method = m) (hn : As.length = n) (hsize : g.locals.size = nL) (hstack : g.stack = As.reverse ++ .ref b :: rest) (hW : 2 * g.monitorRoom + (rest.map fun v => v.category).sum ≤ 8) (hdg : decode cc g.pc = .ok (.invokespecial index, 3)) (hf : cells + mc ≤ R.cells ∧ slots + ms ≤ R.slots) :
    vx_Run p l e R s m args below meth c H locs cells slots mc ms g rest (Qc (Value.ref b :: As).toArray) XC free := by
  obtain ⟨⟨⟨hrc, hrs, hfr, hlo, hws, hcw⟩, hcode, hini, hy, hlen, hl⟩, hx1, hx2⟩ := cw
  have hK : vx_Back l R p e below s args y 3 8 (PreOf R mc ms Pc) (PostOf Qc mc ms free) (vx_Post XC mc ms free) := vx_back (bytes := bytes) (maxL := maxL) (ret := none) hM hp.1 hrc hrs hfr hlo hws hcw (fun a' U hW => word_at hW (Or.inl (by first | rfl | simp [Cond.onTables, Cond.keeps, Cond.steady])) hini)
  obtain ⟨hx, hb, hml, ho, -⟩ := S
  have hPc := hp.2
  intro T hT X
  rcases vx_callIN X hx (bytes := bytes) (maxL := maxL) ho hx1 hl hx2 hcode hy hK hg (hsize.trans hml.symm) (a := b) (argsL := As) (rest := rest) (fun sig h => hn.trans (hlen sig h)) hstack hW (by rw [hb]; exact hdg)
    (fun vm₁ hW₁ => ⟨hf.1, hf.2, hPc (T.setVm vm₁) hT hW₁⟩) with ⟨v, vm₁, ⟨U', l2, c2, s2⟩, hW₁, X', ⟨g', mk, t, L, e1, e2, hq, h1, hL, h2, h3⟩, st⟩ | ⟨q, vm₁, ⟨U', l2, c2, s2⟩, hW₁, X', ⟨g', mk, t, L, E, ce, e1, e2, hq, hce, hcv, hcl, h1, hL, h2, h3⟩, st⟩
  · dsimp only [Pt.U, Pt.locs, Pt.cells, Pt.slots] at X' e1 e2 h1 h2 h3 st
    subst h1; subst h2; subst h3
    exact Or.inl ⟨v, (T.setVm vm₁).calling g' mk (Value.ref b :: As).toArray, t, U', L, hT, X', hL, e1, e2, hq, st⟩
  · dsimp only [Pt.U, Pt.locs, Pt.cells, Pt.slots] at X' e1 e2 h1 h2 h3 st hcl
    subst h1; subst h2; subst h3
    exact Or.inr ⟨q, (T.setVm vm₁).calling g' mk (Value.ref b :: As).toArray, t, U', L, E, ce, hT, X', hL, e1, e2, hq, hce, hcv, vx_cls hW₁ hcl, st⟩
end VXID
/-! ===== END ===== -/
end
section
def RX0 : String := "GhostCandles$Grid"
def TX0 : u_T := fun k => match k with
  | _ => ("", "", "", false)
def tyX0 : Nat → FieldType := fun k => match k with
  | _ => .int
theorem nmX0 : ∀ a, a < 0 → ∀ b, b < 0 → a ≠ b → (TX0 a).2.1 ≠ (TX0 b).2.1 := by decide +kernel
theorem tyX0_ok : ∀ k, k < 0 → parseFieldDescriptor (TX0 k).2.2.1 = some (tyX0 k) := by decide +kernel
abbrev cX0_only : ByteArray := prog_2_method_2_code
def yX0_only : MethodName := ⟨RX0, "only", "(I)J"⟩
abbrev cX0_holds : ByteArray := prog_2_method_3_code
def yX0_holds : MethodName := ⟨RX0, "holds", "(JI)Z"⟩
abbrev cX0_moved : ByteArray := prog_2_method_4_code
def yX0_moved : MethodName := ⟨RX0, "moved", "(JI)J"⟩
abbrev cX0_isRim : ByteArray := prog_2_method_5_code
def yX0_isRim : MethodName := ⟨RX0, "isRim", "(II)Z"⟩
abbrev cX0_neighbour : ByteArray := prog_2_method_6_code
def yX0_neighbour : MethodName := ⟨RX0, "neighbour", "(II)I"⟩
def RX1 : String := "GhostCandles$House"
def TX1 : u_T := fun k => match k with
  | 0 => ("GhostCandles$House", "candles", "J", false)
  | 1 => ("GhostCandles$House", "burning", "J", false)
  | 2 => ("GhostCandles$House", "mirrorsToRight", "J", false)
  | 3 => ("GhostCandles$House", "mirrorsToLeft", "J", false)
  | 4 => ("GhostCandles$House", "tallies", "J", false)
  | 5 => ("GhostCandles$House", "wallsToRight", "J", false)
  | 6 => ("GhostCandles$House", "wallsBelow", "J", false)
  | 7 => ("GhostCandles$House", "lit", "J", false)
  | _ => ("GhostCandles$House", "amounts", "LGhostCandles$Row;", true)
def tyX1 : Nat → FieldType := fun k => match k with
  | 0 => .long
  | 1 => .long
  | 2 => .long
  | 3 => .long
  | 4 => .long
  | 5 => .long
  | 6 => .long
  | 7 => .long
  | _ => .object "GhostCandles$Row"
theorem nmX1 : ∀ a, a < 9 → ∀ b, b < 9 → a ≠ b → (TX1 a).2.1 ≠ (TX1 b).2.1 := by decide +kernel
theorem tyX1_ok : ∀ k, k < 9 → parseFieldDescriptor (TX1 k).2.2.1 = some (tyX1 k) := by decide +kernel
abbrev cX1_init : ByteArray := prog_3_method_1_code
def yX1_init : MethodName := ⟨RX1, "<init>", "()V"⟩
abbrev cX1_copyFrom : ByteArray := prog_3_method_2_code
def yX1_copyFrom : MethodName := ⟨RX1, "copyFrom", "(LGhostCandles$House;)V"⟩
abbrev cX1_candleCount : ByteArray := prog_3_method_3_code
def yX1_candleCount : MethodName := ⟨RX1, "candleCount", "()I"⟩
abbrev cX1_burningCount : ByteArray := prog_3_method_4_code
def yX1_burningCount : MethodName := ⟨RX1, "burningCount", "()I"⟩
abbrev cX1_mirrorCount : ByteArray := prog_3_method_5_code
def yX1_mirrorCount : MethodName := ⟨RX1, "mirrorCount", "()I"⟩
abbrev cX1_tallyCount : ByteArray := prog_3_method_6_code
def yX1_tallyCount : MethodName := ⟨RX1, "tallyCount", "()I"⟩
abbrev cX1_wallCount : ByteArray := prog_3_method_7_code
def yX1_wallCount : MethodName := ⟨RX1, "wallCount", "()I"⟩
abbrev cX1_litCount : ByteArray := prog_3_method_8_code
def yX1_litCount : MethodName := ⟨RX1, "litCount", "()I"⟩
abbrev cX1_sumOfMarks : ByteArray := prog_3_method_9_code
def yX1_sumOfMarks : MethodName := ⟨RX1, "sumOfMarks", "()I"⟩
abbrev cX1_isBurning : ByteArray := prog_3_method_10_code
def yX1_isBurning : MethodName := ⟨RX1, "isBurning", "(I)Z"⟩
abbrev cX1_isLit : ByteArray := prog_3_method_11_code
def yX1_isLit : MethodName := ⟨RX1, "isLit", "(I)Z"⟩
abbrev cX1_hasTally : ByteArray := prog_3_method_12_code
def yX1_hasTally : MethodName := ⟨RX1, "hasTally", "(I)Z"⟩
abbrev cX1_hasCandleWithWax : ByteArray := prog_3_method_13_code
def yX1_hasCandleWithWax : MethodName := ⟨RX1, "hasCandleWithWax", "(I)Z"⟩
abbrev cX1_amountIn : ByteArray := prog_3_method_14_code
def yX1_amountIn : MethodName := ⟨RX1, "amountIn", "(I)I"⟩
abbrev cX1_thingIn : ByteArray := prog_3_method_15_code
def yX1_thingIn : MethodName := ⟨RX1, "thingIn", "(I)I"⟩
abbrev cX1_addCandle : ByteArray := prog_3_method_16_code
def yX1_addCandle : MethodName := ⟨RX1, "addCandle", "(II)V"⟩
abbrev cX1_addMirror : ByteArray := prog_3_method_17_code
def yX1_addMirror : MethodName := ⟨RX1, "addMirror", "(IZ)V"⟩
abbrev cX1_addTally : ByteArray := prog_3_method_18_code
def yX1_addTally : MethodName := ⟨RX1, "addTally", "(I)V"⟩
abbrev cX1_clear : ByteArray := prog_3_method_19_code
def yX1_clear : MethodName := ⟨RX1, "clear", "(I)V"⟩
abbrev cX1_switchCandle : ByteArray := prog_3_method_20_code
def yX1_switchCandle : MethodName := ⟨RX1, "switchCandle", "(I)V"⟩
abbrev cX1_walledCells : ByteArray := prog_3_method_21_code
def yX1_walledCells : MethodName := ⟨RX1, "walledCells", "(I)J"⟩
abbrev cX1_hasWall : ByteArray := prog_3_method_22_code
def yX1_hasWall : MethodName := ⟨RX1, "hasWall", "(II)Z"⟩
abbrev cX1_switchWall : ByteArray := prog_3_method_23_code
def yX1_switchWall : MethodName := ⟨RX1, "switchWall", "(II)V"⟩
abbrev cX1_neighbours : ByteArray := prog_3_method_24_code
def yX1_neighbours : MethodName := ⟨RX1, "neighbours", "(JZ)J"⟩
abbrev cX1_cellsLitFrom : ByteArray := prog_3_method_25_code
def yX1_cellsLitFrom : MethodName := ⟨RX1, "cellsLitFrom", "(I)J"⟩
abbrev cX1_turned : ByteArray := prog_3_method_26_code
def yX1_turned : MethodName := ⟨RX1, "turned", "(JI)I"⟩
abbrev cX1_relight : ByteArray := prog_3_method_27_code
def yX1_relight : MethodName := ⟨RX1, "relight", "()V"⟩
abbrev cX1_burnDown : ByteArray := prog_3_method_28_code
def yX1_burnDown : MethodName := ⟨RX1, "burnDown", "()V"⟩
abbrev cX1_blowOutAround : ByteArray := prog_3_method_29_code
def yX1_blowOutAround : MethodName := ⟨RX1, "blowOutAround", "(I)V"⟩
abbrev cX1_addMark : ByteArray := prog_3_method_30_code
def yX1_addMark : MethodName := ⟨RX1, "addMark", "(I)V"⟩
def RX2 : String := "GhostCandles$Night"
def TX2 : u_T := fun k => match k with
  | 0 => ("GhostCandles$Night", "house", "LGhostCandles$House;", true)
  | 1 => ("GhostCandles$Night", "ways", "LGhostCandles$Ways;", true)
  | 2 => ("GhostCandles$Night", "traits", "LGhostCandles$Row;", true)
  | 3 => ("GhostCandles$Night", "ghostCount", "I", false)
  | _ => ("GhostCandles$Night", "hour", "I", false)
def tyX2 : Nat → FieldType := fun k => match k with
  | 0 => .object "GhostCandles$House"
  | 1 => .object "GhostCandles$Ways"
  | 2 => .object "GhostCandles$Row"
  | 3 => .int
  | _ => .int
theorem nmX2 : ∀ a, a < 5 → ∀ b, b < 5 → a ≠ b → (TX2 a).2.1 ≠ (TX2 b).2.1 := by decide +kernel
theorem tyX2_ok : ∀ k, k < 5 → parseFieldDescriptor (TX2 k).2.2.1 = some (tyX2 k) := by decide +kernel
abbrev cX2_init : ByteArray := prog_4_method_1_code
def yX2_init : MethodName := ⟨RX2, "<init>", "()V"⟩
abbrev cX2_copyFrom : ByteArray := prog_4_method_2_code
def yX2_copyFrom : MethodName := ⟨RX2, "copyFrom", "(LGhostCandles$Night;)V"⟩
abbrev cX2_trait : ByteArray := prog_4_method_3_code
def yX2_trait : MethodName := ⟨RX2, "trait", "(II)I"⟩
abbrev cX2_setTrait : ByteArray := prog_4_method_4_code
def yX2_setTrait : MethodName := ⟨RX2, "setTrait", "(III)V"⟩
abbrev cX2_sumOfTrait : ByteArray := prog_4_method_5_code
def yX2_sumOfTrait : MethodName := ⟨RX2, "sumOfTrait", "(I)I"⟩
abbrev cX2_mayPass : ByteArray := prog_4_method_6_code
def yX2_mayPass : MethodName := ⟨RX2, "mayPass", "(I)Z"⟩
abbrev cX2_cellOf : ByteArray := prog_4_method_7_code
def yX2_cellOf : MethodName := ⟨RX2, "cellOf", "(I)I"⟩
abbrev cX2_goalOf : ByteArray := prog_4_method_8_code
def yX2_goalOf : MethodName := ⟨RX2, "goalOf", "(I)I"⟩
abbrev cX2_setCell : ByteArray := prog_4_method_9_code
def yX2_setCell : MethodName := ⟨RX2, "setCell", "(II)V"⟩
abbrev cX2_setGoal : ByteArray := prog_4_method_10_code
def yX2_setGoal : MethodName := ⟨RX2, "setGoal", "(II)V"⟩
abbrev cX2_addGhost : ByteArray := prog_4_method_11_code
def yX2_addGhost : MethodName := ⟨RX2, "addGhost", "(II)I"⟩
abbrev cX2_ghostsIn : ByteArray := prog_4_method_12_code
def yX2_ghostsIn : MethodName := ⟨RX2, "ghostsIn", "(I)I"⟩
abbrev cX2_ghostsAtGoals : ByteArray := prog_4_method_13_code
def yX2_ghostsAtGoals : MethodName := ⟨RX2, "ghostsAtGoals", "()I"⟩
abbrev cX2_aboutCell : ByteArray := prog_4_method_14_code
def yX2_aboutCell : MethodName := ⟨RX2, "aboutCell", "(II)I"⟩
abbrev cX2_aboutAll : ByteArray := prog_4_method_15_code
def yX2_aboutAll : MethodName := ⟨RX2, "aboutAll", "(I)I"⟩
abbrev cX2_stepsTo : ByteArray := prog_4_method_16_code
def yX2_stepsTo : MethodName := ⟨RX2, "stepsTo", "(II)I"⟩
abbrev cX2_nextDirection : ByteArray := prog_4_method_17_code
def yX2_nextDirection : MethodName := ⟨RX2, "nextDirection", "(I)I"⟩
abbrev cX2_passHour : ByteArray := prog_4_method_18_code
def yX2_passHour : MethodName := ⟨RX2, "passHour", "()I"⟩
abbrev cX2_takeStep : ByteArray := prog_4_method_19_code
def yX2_takeStep : MethodName := ⟨RX2, "takeStep", "(I)V"⟩
abbrev cX2_hauntsOrFears : ByteArray := prog_4_method_20_code
def yX2_hauntsOrFears : MethodName := ⟨RX2, "hauntsOrFears", "(I)Z"⟩
def RX3 : String := "GhostCandles$Row"
def TX3 : u_T := fun k => match k with
  | _ => ("GhostCandles$Row", "numbers", "[I", true)
def tyX3 : Nat → FieldType := fun k => match k with
  | _ => .array .int
theorem nmX3 : ∀ a, a < 1 → ∀ b, b < 1 → a ≠ b → (TX3 a).2.1 ≠ (TX3 b).2.1 := by decide +kernel
theorem tyX3_ok : ∀ k, k < 1 → parseFieldDescriptor (TX3 k).2.2.1 = some (tyX3 k) := by decide +kernel
abbrev cX3_init : ByteArray := prog_5_method_1_code
def yX3_init : MethodName := ⟨RX3, "<init>", "(I)V"⟩
abbrev cX3_get : ByteArray := prog_5_method_2_code
def yX3_get : MethodName := ⟨RX3, "get", "(I)I"⟩
abbrev cX3_put : ByteArray := prog_5_method_3_code
def yX3_put : MethodName := ⟨RX3, "put", "(II)V"⟩
abbrev cX3_copyFrom : ByteArray := prog_5_method_4_code
def yX3_copyFrom : MethodName := ⟨RX3, "copyFrom", "(LGhostCandles$Row;)V"⟩
def RX4 : String := "GhostCandles$Ways"
def TX4 : u_T := fun k => match k with
  | 0 => ("GhostCandles$Ways", "own", "J", false)
  | 1 => ("GhostCandles$Ways", "mayPass", "Z", false)
  | 2 => ("GhostCandles$Ways", "plain", "J", false)
  | _ => ("GhostCandles$Ways", "passing", "J", false)
def tyX4 : Nat → FieldType := fun k => match k with
  | 0 => .long
  | 1 => .boolean
  | 2 => .long
  | _ => .long
theorem nmX4 : ∀ a, a < 4 → ∀ b, b < 4 → a ≠ b → (TX4 a).2.1 ≠ (TX4 b).2.1 := by decide +kernel
theorem tyX4_ok : ∀ k, k < 4 → parseFieldDescriptor (TX4 k).2.2.1 = some (tyX4 k) := by decide +kernel
abbrev cX4_init : ByteArray := prog_6_method_1_code
def yX4_init : MethodName := ⟨RX4, "<init>", "()V"⟩
abbrev cX4_fewestSteps : ByteArray := prog_6_method_2_code
def yX4_fewestSteps : MethodName := ⟨RX4, "fewestSteps", "(LGhostCandles$House;IIZ)I"⟩
abbrev cX4_firstDirection : ByteArray := prog_6_method_3_code
def yX4_firstDirection : MethodName := ⟨RX4, "firstDirection", "(LGhostCandles$House;)I"⟩
def RX5 : String := "GhostCandles"
def TX5 : u_T := fun k => match k with
  | 0 => ("GhostCandles", "now", "LGhostCandles$Night;", true)
  | _ => ("GhostCandles", "ahead", "LGhostCandles$Night;", true)
def tyX5 : Nat → FieldType := fun k => match k with
  | 0 => .object "GhostCandles$Night"
  | _ => .object "GhostCandles$Night"
theorem nmX5 : ∀ a, a < 2 → ∀ b, b < 2 → a ≠ b → (TX5 a).2.1 ≠ (TX5 b).2.1 := by decide +kernel
theorem tyX5_ok : ∀ k, k < 2 → parseFieldDescriptor (TX5 k).2.2.1 = some (tyX5 k) := by decide +kernel
abbrev cX5_init : ByteArray := prog_1_method_1_code
def yX5_init : MethodName := ⟨RX5, "<init>", "()V"⟩
abbrev cX5_wall : ByteArray := prog_1_method_2_code
def yX5_wall : MethodName := ⟨RX5, "wall", "(III)Z"⟩
abbrev cX5_candle : ByteArray := prog_1_method_3_code
def yX5_candle : MethodName := ⟨RX5, "candle", "(III)I"⟩
abbrev cX5_mirror : ByteArray := prog_1_method_4_code
def yX5_mirror : MethodName := ⟨RX5, "mirror", "(IIZ)I"⟩
abbrev cX5_tally : ByteArray := prog_1_method_5_code
def yX5_tally : MethodName := ⟨RX5, "tally", "(II)I"⟩
abbrev cX5_remove : ByteArray := prog_1_method_6_code
def yX5_remove : MethodName := ⟨RX5, "remove", "(II)I"⟩
abbrev cX5_light : ByteArray := prog_1_method_7_code
def yX5_light : MethodName := ⟨RX5, "light", "(II)Z"⟩
abbrev cX5_come : ByteArray := prog_1_method_8_code
def yX5_come : MethodName := ⟨RX5, "come", "(III)I"⟩
abbrev cX5_send : ByteArray := prog_1_method_9_code
def yX5_send : MethodName := ⟨RX5, "send", "(III)I"⟩
abbrev cX5_rite : ByteArray := prog_1_method_10_code
def yX5_rite : MethodName := ⟨RX5, "rite", "(I)I"⟩
abbrev cX5_cell : ByteArray := prog_1_method_11_code
def yX5_cell : MethodName := ⟨RX5, "cell", "(III)I"⟩
abbrev cX5_walled : ByteArray := prog_1_method_12_code
def yX5_walled : MethodName := ⟨RX5, "walled", "(III)Z"⟩
abbrev cX5_ghost : ByteArray := prog_1_method_13_code
def yX5_ghost : MethodName := ⟨RX5, "ghost", "(II)I"⟩
abbrev cX5_count : ByteArray := prog_1_method_14_code
def yX5_count : MethodName := ⟨RX5, "count", "(I)I"⟩
abbrev cX5_way : ByteArray := prog_1_method_16_code
def yX5_way : MethodName := ⟨RX5, "way", "(III)I"⟩
abbrev cX5_next : ByteArray := prog_1_method_17_code
def yX5_next : MethodName := ⟨RX5, "next", "(I)I"⟩
abbrev cX5_pass : ByteArray := prog_1_method_18_code
def yX5_pass : MethodName := ⟨RX5, "pass", "(I)I"⟩
abbrev cX5_foresee : ByteArray := prog_1_method_19_code
def yX5_foresee : MethodName := ⟨RX5, "foresee", "(II)I"⟩
abbrev cX5_mean : ByteArray := prog_1_method_22_code
def yX5_mean : MethodName := ⟨RX5, "mean", "()D"⟩
abbrev cX5_hauntsAhead : ByteArray := prog_1_method_24_code
def yX5_hauntsAhead : MethodName := ⟨RX5, "hauntsAhead", "(II)I"⟩
abbrev cX5_checkedCell : ByteArray := prog_1_method_25_code
def yX5_checkedCell : MethodName := ⟨RX5, "checkedCell", "(II)I"⟩
abbrev cX5_checkDirection : ByteArray := prog_1_method_26_code
def yX5_checkDirection : MethodName := ⟨RX5, "checkDirection", "(I)V"⟩
abbrev cX5_checkWhat : ByteArray := prog_1_method_27_code
def yX5_checkWhat : MethodName := ⟨RX5, "checkWhat", "(II)V"⟩
abbrev cX5_checkHours : ByteArray := prog_1_method_28_code
def yX5_checkHours : MethodName := ⟨RX5, "checkHours", "(II)V"⟩
abbrev cX5_checkGhost : ByteArray := prog_1_method_29_code
def yX5_checkGhost : MethodName := ⟨RX5, "checkGhost", "(I)V"⟩
abbrev cX5_checkRoomFor : ByteArray := prog_1_method_30_code
def yX5_checkRoomFor : MethodName := ⟨RX5, "checkRoomFor", "(III)V"⟩
def RX6 : String := "GhostCandlesLaw$Ghost"
def TX6 : u_T := fun k => match k with
  | 0 => ("GhostCandlesLaw$Ghost", "x", "I", false)
  | 1 => ("GhostCandlesLaw$Ghost", "y", "I", false)
  | 2 => ("GhostCandlesLaw$Ghost", "pace", "I", false)
  | 3 => ("GhostCandlesLaw$Ghost", "toX", "I", false)
  | 4 => ("GhostCandlesLaw$Ghost", "toY", "I", false)
  | 5 => ("GhostCandlesLaw$Ghost", "may", "Z", false)
  | 6 => ("GhostCandlesLaw$Ghost", "haunted", "I", false)
  | _ => ("GhostCandlesLaw$Ghost", "afraid", "I", false)
def tyX6 : Nat → FieldType := fun k => match k with
  | 0 => .int
  | 1 => .int
  | 2 => .int
  | 3 => .int
  | 4 => .int
  | 5 => .boolean
  | 6 => .int
  | _ => .int
theorem nmX6 : ∀ a, a < 8 → ∀ b, b < 8 → a ≠ b → (TX6 a).2.1 ≠ (TX6 b).2.1 := by decide +kernel
theorem tyX6_ok : ∀ k, k < 8 → parseFieldDescriptor (TX6 k).2.2.1 = some (tyX6 k) := by decide +kernel
abbrev cX6_init : ByteArray := prog_8_method_1_code
def yX6_init : MethodName := ⟨RX6, "<init>", "()V"⟩
def RX7 : String := "GhostCandlesLaw$Sim"
def TX7 : u_T := fun k => match k with
  | 0 => ("GhostCandlesLaw$Sim", "walls", "[[[Z", false)
  | 1 => ("GhostCandlesLaw$Sim", "thing", "[[I", false)
  | 2 => ("GhostCandlesLaw$Sim", "value", "[[I", false)
  | 3 => ("GhostCandlesLaw$Sim", "burns", "[[Z", false)
  | 4 => ("GhostCandlesLaw$Sim", "ghosts", "[LGhostCandlesLaw$Ghost;", false)
  | 5 => ("GhostCandlesLaw$Sim", "hour", "I", false)
  | 6 => ("GhostCandlesLaw$Sim", "haunts", "I", false)
  | 7 => ("GhostCandlesLaw$Sim", "far", "[I", false)
  | _ => ("GhostCandlesLaw$Sim", "row", "[I", false)
def tyX7 : Nat → FieldType := fun k => match k with
  | 0 => .array (.array (.array .boolean))
  | 1 => .array (.array .int)
  | 2 => .array (.array .int)
  | 3 => .array (.array .boolean)
  | 4 => .array (.object "GhostCandlesLaw$Ghost")
  | 5 => .int
  | 6 => .int
  | 7 => .array .int
  | _ => .array .int
theorem nmX7 : ∀ a, a < 9 → ∀ b, b < 9 → a ≠ b → (TX7 a).2.1 ≠ (TX7 b).2.1 := by decide +kernel
theorem tyX7_ok : ∀ k, k < 9 → parseFieldDescriptor (TX7 k).2.2.1 = some (tyX7 k) := by decide +kernel
abbrev cX7_init : ByteArray := prog_9_method_1_code
def yX7_init : MethodName := ⟨RX7, "<init>", "()V"⟩
abbrev cX7_goX : ByteArray := prog_9_method_3_code
def yX7_goX : MethodName := ⟨RX7, "goX", "(I)I"⟩
abbrev cX7_goY : ByteArray := prog_9_method_4_code
def yX7_goY : MethodName := ⟨RX7, "goY", "(I)I"⟩
abbrev cX7_isIn : ByteArray := prog_9_method_5_code
def yX7_isIn : MethodName := ⟨RX7, "isIn", "(II)Z"⟩
abbrev cX7_turnWall : ByteArray := prog_9_method_6_code
def yX7_turnWall : MethodName := ⟨RX7, "turnWall", "(III)V"⟩
abbrev cX7_things : ByteArray := prog_9_method_7_code
def yX7_things : MethodName := ⟨RX7, "things", "(I)I"⟩
abbrev cX7_shine : ByteArray := prog_9_method_8_code
def yX7_shine : MethodName := ⟨RX7, "shine", "([[ZII)V"⟩
abbrev cX7_lit : ByteArray := prog_9_method_9_code
def yX7_lit : MethodName := ⟨RX7, "lit", "()[[Z"⟩
abbrev cX7_many : ByteArray := prog_9_method_10_code
def yX7_many : MethodName := ⟨RX7, "many", "([[Z)I"⟩
abbrev cX7_way : ByteArray := prog_9_method_11_code
def yX7_way : MethodName := ⟨RX7, "way", "([[ZIIZII)I"⟩
abbrev cX7_next : ByteArray := prog_9_method_12_code
def yX7_next : MethodName := ⟨RX7, "next", "(LGhostCandlesLaw$Ghost;)I"⟩
abbrev cX7_pass : ByteArray := prog_9_method_13_code
def yX7_pass : MethodName := ⟨RX7, "pass", "()I"⟩
abbrev cX7_burning : ByteArray := prog_9_method_14_code
def yX7_burning : MethodName := ⟨RX7, "burning", "()I"⟩
abbrev cX7_isSame : ByteArray := prog_9_method_16_code
def yX7_isSame : MethodName := ⟨RX7, "isSame", "(LGhostCandles;)Z"⟩
def RX8 : String := "GhostCandlesModel"
def TX8 : u_T := fun k => match k with
  | _ => ("", "", "", false)
def tyX8 : Nat → FieldType := fun k => match k with
  | _ => .int
theorem nmX8 : ∀ a, a < 0 → ∀ b, b < 0 → a ≠ b → (TX8 a).2.1 ≠ (TX8 b).2.1 := by decide +kernel
theorem tyX8_ok : ∀ k, k < 0 → parseFieldDescriptor (TX8 k).2.2.1 = some (tyX8 k) := by decide +kernel
def RJ13 : String := "java/lang/Long"
abbrev cJ13_bitCount_95d88 : ByteArray := prog_15_method_50_code
def yJ13_bitCount_95d88 : MethodName := ⟨RJ13, "bitCount", "(J)I"⟩
def RJ9 : String := "java/lang/Math"
abbrev cJ9_abs_0f7a4 : ByteArray := prog_16_method_59_code
def yJ9_abs_0f7a4 : MethodName := ⟨RJ9, "abs", "(I)I"⟩
def RJ0 : String := "java/lang/String"
def RL : String := "GhostCandlesLaw"
abbrev cL_below : ByteArray := method_2_code
def yL_below : MethodName := ⟨RL, "below", "(II)I"⟩
abbrev cL_cell : ByteArray := method_3_code
def yL_cell : MethodName := ⟨RL, "cell", "([II)I"⟩
abbrev cL_act : ByteArray := method_4_code
def yL_act : MethodName := ⟨RL, "act", "(LGhostCandles;LGhostCandlesLaw$Sim;I)Z"⟩
abbrev cL_build : ByteArray := method_5_code
def yL_build : MethodName := ⟨RL, "build", "(LGhostCandles;[I)LGhostCandlesLaw$Sim;"⟩
abbrev cL_law : ByteArray := code
def yL_law : MethodName := ⟨RL, "law", "([I)Z"⟩
abbrev vwCl : List vw_C := [(RX1, TX1, 9), (RX2, TX2, 5), (RX3, TX3, 1), (RX4, TX4, 4), (RX5, TX5, 2), (RX6, TX6, 8), (RX7, TX7, 9)]
end
section
theorem dT_of {cc : ByteArray} {tab : List (Nat × Instr × Nat)} (h : tab.all (fun q => decide (decode cc q.1 = .ok q.2)) = true) : ∀ (k : Nat) (q : Nat × Instr × Nat), tab[k]? = some q → decode cc q.1 = .ok q.2 := fun _ _ hk => of_decide_eq_true (List.all_eq_true.mp h _ (List.mem_of_getElem? hk))
noncomputable def dTX0_only_0 : List (Nat × Instr × Nat) := [(0, .lconst 1, 1), (1, .iload_n 0, 1), (2, .lshl, 1), (3, .lreturn, 1)]
theorem dTX0_only_0_ok : ∀ (k : Nat) (q : Nat × Instr × Nat), dTX0_only_0[k]? = some q → decode cX0_only q.1 = .ok q.2 := dT_of (by decide +kernel)
theorem dX0_only_0 : decode cX0_only 0 = .ok (.lconst 1, 1) := dTX0_only_0_ok 0 (0, .lconst 1, 1) rfl
theorem dX0_only_1 : decode cX0_only 1 = .ok (.iload_n 0, 1) := dTX0_only_0_ok 1 (1, .iload_n 0, 1) rfl
theorem dX0_only_2 : decode cX0_only 2 = .ok (.lshl, 1) := dTX0_only_0_ok 2 (2, .lshl, 1) rfl
theorem dX0_only_3 : decode cX0_only 3 = .ok (.lreturn, 1) := dTX0_only_0_ok 3 (3, .lreturn, 1) rfl
noncomputable def dTX0_holds_0 : List (Nat × Instr × Nat) := [(0, .lload_n 0, 1), (1, .iload_n 2, 1), (2, .lushr, 1), (3, .lconst 1, 1), (4, .land, 1), (5, .lconst 0, 1), (6, .lcmp, 1), (7, .ifCond .eq 7, 3), (10, .iconst 1, 1), (11, .goto 4, 3), (14, .iconst 0, 1), (15, .ireturn, 1)]
theorem dTX0_holds_0_ok : ∀ (k : Nat) (q : Nat × Instr × Nat), dTX0_holds_0[k]? = some q → decode cX0_holds q.1 = .ok q.2 := dT_of (by decide +kernel)
theorem dX0_holds_0 : decode cX0_holds 0 = .ok (.lload_n 0, 1) := dTX0_holds_0_ok 0 (0, .lload_n 0, 1) rfl
theorem dX0_holds_1 : decode cX0_holds 1 = .ok (.iload_n 2, 1) := dTX0_holds_0_ok 1 (1, .iload_n 2, 1) rfl
theorem dX0_holds_2 : decode cX0_holds 2 = .ok (.lushr, 1) := dTX0_holds_0_ok 2 (2, .lushr, 1) rfl
theorem dX0_holds_3 : decode cX0_holds 3 = .ok (.lconst 1, 1) := dTX0_holds_0_ok 3 (3, .lconst 1, 1) rfl
theorem dX0_holds_4 : decode cX0_holds 4 = .ok (.land, 1) := dTX0_holds_0_ok 4 (4, .land, 1) rfl
theorem dX0_holds_5 : decode cX0_holds 5 = .ok (.lconst 0, 1) := dTX0_holds_0_ok 5 (5, .lconst 0, 1) rfl
theorem dX0_holds_6 : decode cX0_holds 6 = .ok (.lcmp, 1) := dTX0_holds_0_ok 6 (6, .lcmp, 1) rfl
theorem dX0_holds_7 : decode cX0_holds 7 = .ok (.ifCond .eq 7, 3) := dTX0_holds_0_ok 7 (7, .ifCond .eq 7, 3) rfl
theorem dX0_holds_10 : decode cX0_holds 10 = .ok (.iconst 1, 1) := dTX0_holds_0_ok 8 (10, .iconst 1, 1) rfl
theorem dX0_holds_11 : decode cX0_holds 11 = .ok (.goto 4, 3) := dTX0_holds_0_ok 9 (11, .goto 4, 3) rfl
theorem dX0_holds_14 : decode cX0_holds 14 = .ok (.iconst 0, 1) := dTX0_holds_0_ok 10 (14, .iconst 0, 1) rfl
theorem dX0_holds_15 : decode cX0_holds 15 = .ok (.ireturn, 1) := dTX0_holds_0_ok 11 (15, .ireturn, 1) rfl
noncomputable def dTX0_moved_0 : List (Nat × Instr × Nat) := [(0, .iload_n 2, 1), (1, .tableswitch 49 0 2 #[27, 32, 40], 27), (28, .lload_n 0, 1), (29, .bipush 9, 2), (31, .lushr, 1), (32, .lreturn, 1), (33, .lload_n 0, 1), (34, .ldc2_w 11, 3), (37, .land, 1), (38, .iconst 1, 1), (39, .lshl, 1), (40, .lreturn, 1), (41, .lload_n 0, 1), (42, .bipush 9, 2), (44, .lshl, 1), (45, .ldc2_w 13, 3), (48, .land, 1), (49, .lreturn, 1), (50, .lload_n 0, 1), (51, .ldc2_w 15, 3), (54, .land, 1), (55, .iconst 1, 1), (56, .lushr, 1), (57, .lreturn, 1)]
theorem dTX0_moved_0_ok : ∀ (k : Nat) (q : Nat × Instr × Nat), dTX0_moved_0[k]? = some q → decode cX0_moved q.1 = .ok q.2 := dT_of (by decide +kernel)
theorem dX0_moved_0 : decode cX0_moved 0 = .ok (.iload_n 2, 1) := dTX0_moved_0_ok 0 (0, .iload_n 2, 1) rfl
theorem dX0_moved_1 : decode cX0_moved 1 = .ok (.tableswitch 49 0 2 #[27, 32, 40], 27) := dTX0_moved_0_ok 1 (1, .tableswitch 49 0 2 #[27, 32, 40], 27) rfl
theorem dX0_moved_28 : decode cX0_moved 28 = .ok (.lload_n 0, 1) := dTX0_moved_0_ok 2 (28, .lload_n 0, 1) rfl
theorem dX0_moved_29 : decode cX0_moved 29 = .ok (.bipush 9, 2) := dTX0_moved_0_ok 3 (29, .bipush 9, 2) rfl
theorem dX0_moved_31 : decode cX0_moved 31 = .ok (.lushr, 1) := dTX0_moved_0_ok 4 (31, .lushr, 1) rfl
theorem dX0_moved_32 : decode cX0_moved 32 = .ok (.lreturn, 1) := dTX0_moved_0_ok 5 (32, .lreturn, 1) rfl
theorem dX0_moved_33 : decode cX0_moved 33 = .ok (.lload_n 0, 1) := dTX0_moved_0_ok 6 (33, .lload_n 0, 1) rfl
theorem dX0_moved_34 : decode cX0_moved 34 = .ok (.ldc2_w 11, 3) := dTX0_moved_0_ok 7 (34, .ldc2_w 11, 3) rfl
theorem dX0_moved_37 : decode cX0_moved 37 = .ok (.land, 1) := dTX0_moved_0_ok 8 (37, .land, 1) rfl
theorem dX0_moved_38 : decode cX0_moved 38 = .ok (.iconst 1, 1) := dTX0_moved_0_ok 9 (38, .iconst 1, 1) rfl
theorem dX0_moved_39 : decode cX0_moved 39 = .ok (.lshl, 1) := dTX0_moved_0_ok 10 (39, .lshl, 1) rfl
theorem dX0_moved_40 : decode cX0_moved 40 = .ok (.lreturn, 1) := dTX0_moved_0_ok 11 (40, .lreturn, 1) rfl
theorem dX0_moved_41 : decode cX0_moved 41 = .ok (.lload_n 0, 1) := dTX0_moved_0_ok 12 (41, .lload_n 0, 1) rfl
theorem dX0_moved_42 : decode cX0_moved 42 = .ok (.bipush 9, 2) := dTX0_moved_0_ok 13 (42, .bipush 9, 2) rfl
theorem dX0_moved_44 : decode cX0_moved 44 = .ok (.lshl, 1) := dTX0_moved_0_ok 14 (44, .lshl, 1) rfl
theorem dX0_moved_45 : decode cX0_moved 45 = .ok (.ldc2_w 13, 3) := dTX0_moved_0_ok 15 (45, .ldc2_w 13, 3) rfl
theorem dX0_moved_48 : decode cX0_moved 48 = .ok (.land, 1) := dTX0_moved_0_ok 16 (48, .land, 1) rfl
theorem dX0_moved_49 : decode cX0_moved 49 = .ok (.lreturn, 1) := dTX0_moved_0_ok 17 (49, .lreturn, 1) rfl
theorem dX0_moved_50 : decode cX0_moved 50 = .ok (.lload_n 0, 1) := dTX0_moved_0_ok 18 (50, .lload_n 0, 1) rfl
theorem dX0_moved_51 : decode cX0_moved 51 = .ok (.ldc2_w 15, 3) := dTX0_moved_0_ok 19 (51, .ldc2_w 15, 3) rfl
theorem dX0_moved_54 : decode cX0_moved 54 = .ok (.land, 1) := dTX0_moved_0_ok 20 (54, .land, 1) rfl
theorem dX0_moved_55 : decode cX0_moved 55 = .ok (.iconst 1, 1) := dTX0_moved_0_ok 21 (55, .iconst 1, 1) rfl
theorem dX0_moved_56 : decode cX0_moved 56 = .ok (.lushr, 1) := dTX0_moved_0_ok 22 (56, .lushr, 1) rfl
theorem dX0_moved_57 : decode cX0_moved 57 = .ok (.lreturn, 1) := dTX0_moved_0_ok 23 (57, .lreturn, 1) rfl
noncomputable def dTX0_isRim_0 : List (Nat × Instr × Nat) := [(0, .iload_n 0, 1), (1, .invokestatic 17, 3), (4, .iload_n 1, 1), (5, .invokestatic 21, 3), (8, .lconst 0, 1), (9, .lcmp, 1), (10, .ifCond .ne 7, 3), (13, .iconst 1, 1), (14, .goto 4, 3), (17, .iconst 0, 1), (18, .ireturn, 1)]
theorem dTX0_isRim_0_ok : ∀ (k : Nat) (q : Nat × Instr × Nat), dTX0_isRim_0[k]? = some q → decode cX0_isRim q.1 = .ok q.2 := dT_of (by decide +kernel)
theorem dX0_isRim_0 : decode cX0_isRim 0 = .ok (.iload_n 0, 1) := dTX0_isRim_0_ok 0 (0, .iload_n 0, 1) rfl
theorem dX0_isRim_1 : decode cX0_isRim 1 = .ok (.invokestatic 17, 3) := dTX0_isRim_0_ok 1 (1, .invokestatic 17, 3) rfl
theorem dX0_isRim_4 : decode cX0_isRim 4 = .ok (.iload_n 1, 1) := dTX0_isRim_0_ok 2 (4, .iload_n 1, 1) rfl
theorem dX0_isRim_5 : decode cX0_isRim 5 = .ok (.invokestatic 21, 3) := dTX0_isRim_0_ok 3 (5, .invokestatic 21, 3) rfl
theorem dX0_isRim_8 : decode cX0_isRim 8 = .ok (.lconst 0, 1) := dTX0_isRim_0_ok 4 (8, .lconst 0, 1) rfl
theorem dX0_isRim_9 : decode cX0_isRim 9 = .ok (.lcmp, 1) := dTX0_isRim_0_ok 5 (9, .lcmp, 1) rfl
theorem dX0_isRim_10 : decode cX0_isRim 10 = .ok (.ifCond .ne 7, 3) := dTX0_isRim_0_ok 6 (10, .ifCond .ne 7, 3) rfl
theorem dX0_isRim_13 : decode cX0_isRim 13 = .ok (.iconst 1, 1) := dTX0_isRim_0_ok 7 (13, .iconst 1, 1) rfl
theorem dX0_isRim_14 : decode cX0_isRim 14 = .ok (.goto 4, 3) := dTX0_isRim_0_ok 8 (14, .goto 4, 3) rfl
theorem dX0_isRim_17 : decode cX0_isRim 17 = .ok (.iconst 0, 1) := dTX0_isRim_0_ok 9 (17, .iconst 0, 1) rfl
theorem dX0_isRim_18 : decode cX0_isRim 18 = .ok (.ireturn, 1) := dTX0_isRim_0_ok 10 (18, .ireturn, 1) rfl
noncomputable def dTX0_neighbour_0 : List (Nat × Instr × Nat) := [(0, .iload_n 1, 1), (1, .tableswitch 41 0 2 #[27, 32, 36], 27), (28, .iload_n 0, 1), (29, .bipush 9, 2), (31, .isub, 1), (32, .ireturn, 1), (33, .iload_n 0, 1), (34, .iconst 1, 1), (35, .iadd, 1), (36, .ireturn, 1), (37, .iload_n 0, 1), (38, .bipush 9, 2), (40, .iadd, 1), (41, .ireturn, 1), (42, .iload_n 0, 1), (43, .iconst 1, 1), (44, .isub, 1), (45, .ireturn, 1)]
theorem dTX0_neighbour_0_ok : ∀ (k : Nat) (q : Nat × Instr × Nat), dTX0_neighbour_0[k]? = some q → decode cX0_neighbour q.1 = .ok q.2 := dT_of (by decide +kernel)
theorem dX0_neighbour_0 : decode cX0_neighbour 0 = .ok (.iload_n 1, 1) := dTX0_neighbour_0_ok 0 (0, .iload_n 1, 1) rfl
theorem dX0_neighbour_1 : decode cX0_neighbour 1 = .ok (.tableswitch 41 0 2 #[27, 32, 36], 27) := dTX0_neighbour_0_ok 1 (1, .tableswitch 41 0 2 #[27, 32, 36], 27) rfl
theorem dX0_neighbour_28 : decode cX0_neighbour 28 = .ok (.iload_n 0, 1) := dTX0_neighbour_0_ok 2 (28, .iload_n 0, 1) rfl
theorem dX0_neighbour_29 : decode cX0_neighbour 29 = .ok (.bipush 9, 2) := dTX0_neighbour_0_ok 3 (29, .bipush 9, 2) rfl
theorem dX0_neighbour_31 : decode cX0_neighbour 31 = .ok (.isub, 1) := dTX0_neighbour_0_ok 4 (31, .isub, 1) rfl
theorem dX0_neighbour_32 : decode cX0_neighbour 32 = .ok (.ireturn, 1) := dTX0_neighbour_0_ok 5 (32, .ireturn, 1) rfl
theorem dX0_neighbour_33 : decode cX0_neighbour 33 = .ok (.iload_n 0, 1) := dTX0_neighbour_0_ok 6 (33, .iload_n 0, 1) rfl
theorem dX0_neighbour_34 : decode cX0_neighbour 34 = .ok (.iconst 1, 1) := dTX0_neighbour_0_ok 7 (34, .iconst 1, 1) rfl
theorem dX0_neighbour_35 : decode cX0_neighbour 35 = .ok (.iadd, 1) := dTX0_neighbour_0_ok 8 (35, .iadd, 1) rfl
theorem dX0_neighbour_36 : decode cX0_neighbour 36 = .ok (.ireturn, 1) := dTX0_neighbour_0_ok 9 (36, .ireturn, 1) rfl
theorem dX0_neighbour_37 : decode cX0_neighbour 37 = .ok (.iload_n 0, 1) := dTX0_neighbour_0_ok 10 (37, .iload_n 0, 1) rfl
theorem dX0_neighbour_38 : decode cX0_neighbour 38 = .ok (.bipush 9, 2) := dTX0_neighbour_0_ok 11 (38, .bipush 9, 2) rfl
theorem dX0_neighbour_40 : decode cX0_neighbour 40 = .ok (.iadd, 1) := dTX0_neighbour_0_ok 12 (40, .iadd, 1) rfl
theorem dX0_neighbour_41 : decode cX0_neighbour 41 = .ok (.ireturn, 1) := dTX0_neighbour_0_ok 13 (41, .ireturn, 1) rfl
theorem dX0_neighbour_42 : decode cX0_neighbour 42 = .ok (.iload_n 0, 1) := dTX0_neighbour_0_ok 14 (42, .iload_n 0, 1) rfl
theorem dX0_neighbour_43 : decode cX0_neighbour 43 = .ok (.iconst 1, 1) := dTX0_neighbour_0_ok 15 (43, .iconst 1, 1) rfl
theorem dX0_neighbour_44 : decode cX0_neighbour 44 = .ok (.isub, 1) := dTX0_neighbour_0_ok 16 (44, .isub, 1) rfl
theorem dX0_neighbour_45 : decode cX0_neighbour 45 = .ok (.ireturn, 1) := dTX0_neighbour_0_ok 17 (45, .ireturn, 1) rfl
noncomputable def dTX1_init_0 : List (Nat × Instr × Nat) := [(0, .aload_n 0, 1), (1, .invokespecial 3, 3), (4, .aload_n 0, 1), (5, .new 9, 3), (8, .dup, 1), (9, .bipush 63, 2), (11, .invokespecial 11, 3), (14, .putfield 14, 3), (17, .return_, 1)]
theorem dTX1_init_0_ok : ∀ (k : Nat) (q : Nat × Instr × Nat), dTX1_init_0[k]? = some q → decode cX1_init q.1 = .ok q.2 := dT_of (by decide +kernel)
theorem dX1_init_0 : decode cX1_init 0 = .ok (.aload_n 0, 1) := dTX1_init_0_ok 0 (0, .aload_n 0, 1) rfl
theorem dX1_init_1 : decode cX1_init 1 = .ok (.invokespecial 3, 3) := dTX1_init_0_ok 1 (1, .invokespecial 3, 3) rfl
theorem dX1_init_4 : decode cX1_init 4 = .ok (.aload_n 0, 1) := dTX1_init_0_ok 2 (4, .aload_n 0, 1) rfl
theorem dX1_init_5 : decode cX1_init 5 = .ok (.new 9, 3) := dTX1_init_0_ok 3 (5, .new 9, 3) rfl
theorem dX1_init_8 : decode cX1_init 8 = .ok (.dup, 1) := dTX1_init_0_ok 4 (8, .dup, 1) rfl
theorem dX1_init_9 : decode cX1_init 9 = .ok (.bipush 63, 2) := dTX1_init_0_ok 5 (9, .bipush 63, 2) rfl
theorem dX1_init_11 : decode cX1_init 11 = .ok (.invokespecial 11, 3) := dTX1_init_0_ok 6 (11, .invokespecial 11, 3) rfl
theorem dX1_init_14 : decode cX1_init 14 = .ok (.putfield 14, 3) := dTX1_init_0_ok 7 (14, .putfield 14, 3) rfl
theorem dX1_init_17 : decode cX1_init 17 = .ok (.return_, 1) := dTX1_init_0_ok 8 (17, .return_, 1) rfl
noncomputable def dTX1_copyFrom_0 : List (Nat × Instr × Nat) := [(0, .aload_n 0, 1), (1, .aload_n 1, 1), (2, .getfield 20, 3), (5, .putfield 20, 3), (8, .aload_n 0, 1), (9, .aload_n 1, 1), (10, .getfield 24, 3), (13, .putfield 24, 3), (16, .aload_n 0, 1), (17, .aload_n 1, 1), (18, .getfield 27, 3), (21, .putfield 27, 3), (24, .aload_n 0, 1), (25, .aload_n 1, 1), (26, .getfield 30, 3), (29, .putfield 30, 3), (32, .aload_n 0, 1), (33, .aload_n 1, 1), (34, .getfield 33, 3), (37, .putfield 33, 3), (40, .aload_n 0, 1), (41, .aload_n 1, 1), (42, .getfield 36, 3), (45, .putfield 36, 3), (48, .aload_n 0, 1), (49, .aload_n 1, 1), (50, .getfield 39, 3), (53, .putfield 39, 3), (56, .aload_n 0, 1), (57, .aload_n 1, 1), (58, .getfield 42, 3), (61, .putfield 42, 3), (64, .aload_n 0, 1), (65, .getfield 14, 3), (68, .aload_n 1, 1), (69, .getfield 14, 3), (72, .invokevirtual 45, 3), (75, .return_, 1)]
theorem dTX1_copyFrom_0_ok : ∀ (k : Nat) (q : Nat × Instr × Nat), dTX1_copyFrom_0[k]? = some q → decode cX1_copyFrom q.1 = .ok q.2 := dT_of (by decide +kernel)
theorem dX1_copyFrom_0 : decode cX1_copyFrom 0 = .ok (.aload_n 0, 1) := dTX1_copyFrom_0_ok 0 (0, .aload_n 0, 1) rfl
theorem dX1_copyFrom_1 : decode cX1_copyFrom 1 = .ok (.aload_n 1, 1) := dTX1_copyFrom_0_ok 1 (1, .aload_n 1, 1) rfl
theorem dX1_copyFrom_2 : decode cX1_copyFrom 2 = .ok (.getfield 20, 3) := dTX1_copyFrom_0_ok 2 (2, .getfield 20, 3) rfl
theorem dX1_copyFrom_5 : decode cX1_copyFrom 5 = .ok (.putfield 20, 3) := dTX1_copyFrom_0_ok 3 (5, .putfield 20, 3) rfl
theorem dX1_copyFrom_8 : decode cX1_copyFrom 8 = .ok (.aload_n 0, 1) := dTX1_copyFrom_0_ok 4 (8, .aload_n 0, 1) rfl
theorem dX1_copyFrom_9 : decode cX1_copyFrom 9 = .ok (.aload_n 1, 1) := dTX1_copyFrom_0_ok 5 (9, .aload_n 1, 1) rfl
theorem dX1_copyFrom_10 : decode cX1_copyFrom 10 = .ok (.getfield 24, 3) := dTX1_copyFrom_0_ok 6 (10, .getfield 24, 3) rfl
theorem dX1_copyFrom_13 : decode cX1_copyFrom 13 = .ok (.putfield 24, 3) := dTX1_copyFrom_0_ok 7 (13, .putfield 24, 3) rfl
theorem dX1_copyFrom_16 : decode cX1_copyFrom 16 = .ok (.aload_n 0, 1) := dTX1_copyFrom_0_ok 8 (16, .aload_n 0, 1) rfl
theorem dX1_copyFrom_17 : decode cX1_copyFrom 17 = .ok (.aload_n 1, 1) := dTX1_copyFrom_0_ok 9 (17, .aload_n 1, 1) rfl
theorem dX1_copyFrom_18 : decode cX1_copyFrom 18 = .ok (.getfield 27, 3) := dTX1_copyFrom_0_ok 10 (18, .getfield 27, 3) rfl
theorem dX1_copyFrom_21 : decode cX1_copyFrom 21 = .ok (.putfield 27, 3) := dTX1_copyFrom_0_ok 11 (21, .putfield 27, 3) rfl
theorem dX1_copyFrom_24 : decode cX1_copyFrom 24 = .ok (.aload_n 0, 1) := dTX1_copyFrom_0_ok 12 (24, .aload_n 0, 1) rfl
theorem dX1_copyFrom_25 : decode cX1_copyFrom 25 = .ok (.aload_n 1, 1) := dTX1_copyFrom_0_ok 13 (25, .aload_n 1, 1) rfl
theorem dX1_copyFrom_26 : decode cX1_copyFrom 26 = .ok (.getfield 30, 3) := dTX1_copyFrom_0_ok 14 (26, .getfield 30, 3) rfl
theorem dX1_copyFrom_29 : decode cX1_copyFrom 29 = .ok (.putfield 30, 3) := dTX1_copyFrom_0_ok 15 (29, .putfield 30, 3) rfl
theorem dX1_copyFrom_32 : decode cX1_copyFrom 32 = .ok (.aload_n 0, 1) := dTX1_copyFrom_0_ok 16 (32, .aload_n 0, 1) rfl
theorem dX1_copyFrom_33 : decode cX1_copyFrom 33 = .ok (.aload_n 1, 1) := dTX1_copyFrom_0_ok 17 (33, .aload_n 1, 1) rfl
theorem dX1_copyFrom_34 : decode cX1_copyFrom 34 = .ok (.getfield 33, 3) := dTX1_copyFrom_0_ok 18 (34, .getfield 33, 3) rfl
theorem dX1_copyFrom_37 : decode cX1_copyFrom 37 = .ok (.putfield 33, 3) := dTX1_copyFrom_0_ok 19 (37, .putfield 33, 3) rfl
theorem dX1_copyFrom_40 : decode cX1_copyFrom 40 = .ok (.aload_n 0, 1) := dTX1_copyFrom_0_ok 20 (40, .aload_n 0, 1) rfl
theorem dX1_copyFrom_41 : decode cX1_copyFrom 41 = .ok (.aload_n 1, 1) := dTX1_copyFrom_0_ok 21 (41, .aload_n 1, 1) rfl
theorem dX1_copyFrom_42 : decode cX1_copyFrom 42 = .ok (.getfield 36, 3) := dTX1_copyFrom_0_ok 22 (42, .getfield 36, 3) rfl
theorem dX1_copyFrom_45 : decode cX1_copyFrom 45 = .ok (.putfield 36, 3) := dTX1_copyFrom_0_ok 23 (45, .putfield 36, 3) rfl
theorem dX1_copyFrom_48 : decode cX1_copyFrom 48 = .ok (.aload_n 0, 1) := dTX1_copyFrom_0_ok 24 (48, .aload_n 0, 1) rfl
theorem dX1_copyFrom_49 : decode cX1_copyFrom 49 = .ok (.aload_n 1, 1) := dTX1_copyFrom_0_ok 25 (49, .aload_n 1, 1) rfl
theorem dX1_copyFrom_50 : decode cX1_copyFrom 50 = .ok (.getfield 39, 3) := dTX1_copyFrom_0_ok 26 (50, .getfield 39, 3) rfl
theorem dX1_copyFrom_53 : decode cX1_copyFrom 53 = .ok (.putfield 39, 3) := dTX1_copyFrom_0_ok 27 (53, .putfield 39, 3) rfl
theorem dX1_copyFrom_56 : decode cX1_copyFrom 56 = .ok (.aload_n 0, 1) := dTX1_copyFrom_0_ok 28 (56, .aload_n 0, 1) rfl
theorem dX1_copyFrom_57 : decode cX1_copyFrom 57 = .ok (.aload_n 1, 1) := dTX1_copyFrom_0_ok 29 (57, .aload_n 1, 1) rfl
theorem dX1_copyFrom_58 : decode cX1_copyFrom 58 = .ok (.getfield 42, 3) := dTX1_copyFrom_0_ok 30 (58, .getfield 42, 3) rfl
theorem dX1_copyFrom_61 : decode cX1_copyFrom 61 = .ok (.putfield 42, 3) := dTX1_copyFrom_0_ok 31 (61, .putfield 42, 3) rfl
theorem dX1_copyFrom_64 : decode cX1_copyFrom 64 = .ok (.aload_n 0, 1) := dTX1_copyFrom_0_ok 32 (64, .aload_n 0, 1) rfl
theorem dX1_copyFrom_65 : decode cX1_copyFrom 65 = .ok (.getfield 14, 3) := dTX1_copyFrom_0_ok 33 (65, .getfield 14, 3) rfl
theorem dX1_copyFrom_68 : decode cX1_copyFrom 68 = .ok (.aload_n 1, 1) := dTX1_copyFrom_0_ok 34 (68, .aload_n 1, 1) rfl
theorem dX1_copyFrom_69 : decode cX1_copyFrom 69 = .ok (.getfield 14, 3) := dTX1_copyFrom_0_ok 35 (69, .getfield 14, 3) rfl
theorem dX1_copyFrom_72 : decode cX1_copyFrom 72 = .ok (.invokevirtual 45, 3) := dTX1_copyFrom_0_ok 36 (72, .invokevirtual 45, 3) rfl
theorem dX1_copyFrom_75 : decode cX1_copyFrom 75 = .ok (.return_, 1) := dTX1_copyFrom_0_ok 37 (75, .return_, 1) rfl
noncomputable def dTX1_candleCount_0 : List (Nat × Instr × Nat) := [(0, .aload_n 0, 1), (1, .getfield 20, 3), (4, .invokestatic 49, 3), (7, .ireturn, 1)]
theorem dTX1_candleCount_0_ok : ∀ (k : Nat) (q : Nat × Instr × Nat), dTX1_candleCount_0[k]? = some q → decode cX1_candleCount q.1 = .ok q.2 := dT_of (by decide +kernel)
theorem dX1_candleCount_0 : decode cX1_candleCount 0 = .ok (.aload_n 0, 1) := dTX1_candleCount_0_ok 0 (0, .aload_n 0, 1) rfl
theorem dX1_candleCount_1 : decode cX1_candleCount 1 = .ok (.getfield 20, 3) := dTX1_candleCount_0_ok 1 (1, .getfield 20, 3) rfl
theorem dX1_candleCount_4 : decode cX1_candleCount 4 = .ok (.invokestatic 49, 3) := dTX1_candleCount_0_ok 2 (4, .invokestatic 49, 3) rfl
theorem dX1_candleCount_7 : decode cX1_candleCount 7 = .ok (.ireturn, 1) := dTX1_candleCount_0_ok 3 (7, .ireturn, 1) rfl
noncomputable def dTX1_burningCount_0 : List (Nat × Instr × Nat) := [(0, .aload_n 0, 1), (1, .getfield 24, 3), (4, .invokestatic 49, 3), (7, .ireturn, 1)]
theorem dTX1_burningCount_0_ok : ∀ (k : Nat) (q : Nat × Instr × Nat), dTX1_burningCount_0[k]? = some q → decode cX1_burningCount q.1 = .ok q.2 := dT_of (by decide +kernel)
theorem dX1_burningCount_0 : decode cX1_burningCount 0 = .ok (.aload_n 0, 1) := dTX1_burningCount_0_ok 0 (0, .aload_n 0, 1) rfl
theorem dX1_burningCount_1 : decode cX1_burningCount 1 = .ok (.getfield 24, 3) := dTX1_burningCount_0_ok 1 (1, .getfield 24, 3) rfl
theorem dX1_burningCount_4 : decode cX1_burningCount 4 = .ok (.invokestatic 49, 3) := dTX1_burningCount_0_ok 2 (4, .invokestatic 49, 3) rfl
theorem dX1_burningCount_7 : decode cX1_burningCount 7 = .ok (.ireturn, 1) := dTX1_burningCount_0_ok 3 (7, .ireturn, 1) rfl
noncomputable def dTX1_mirrorCount_0 : List (Nat × Instr × Nat) := [(0, .aload_n 0, 1), (1, .getfield 27, 3), (4, .aload_n 0, 1), (5, .getfield 30, 3), (8, .lor, 1), (9, .invokestatic 49, 3), (12, .ireturn, 1)]
theorem dTX1_mirrorCount_0_ok : ∀ (k : Nat) (q : Nat × Instr × Nat), dTX1_mirrorCount_0[k]? = some q → decode cX1_mirrorCount q.1 = .ok q.2 := dT_of (by decide +kernel)
theorem dX1_mirrorCount_0 : decode cX1_mirrorCount 0 = .ok (.aload_n 0, 1) := dTX1_mirrorCount_0_ok 0 (0, .aload_n 0, 1) rfl
theorem dX1_mirrorCount_1 : decode cX1_mirrorCount 1 = .ok (.getfield 27, 3) := dTX1_mirrorCount_0_ok 1 (1, .getfield 27, 3) rfl
theorem dX1_mirrorCount_4 : decode cX1_mirrorCount 4 = .ok (.aload_n 0, 1) := dTX1_mirrorCount_0_ok 2 (4, .aload_n 0, 1) rfl
theorem dX1_mirrorCount_5 : decode cX1_mirrorCount 5 = .ok (.getfield 30, 3) := dTX1_mirrorCount_0_ok 3 (5, .getfield 30, 3) rfl
theorem dX1_mirrorCount_8 : decode cX1_mirrorCount 8 = .ok (.lor, 1) := dTX1_mirrorCount_0_ok 4 (8, .lor, 1) rfl
theorem dX1_mirrorCount_9 : decode cX1_mirrorCount 9 = .ok (.invokestatic 49, 3) := dTX1_mirrorCount_0_ok 5 (9, .invokestatic 49, 3) rfl
theorem dX1_mirrorCount_12 : decode cX1_mirrorCount 12 = .ok (.ireturn, 1) := dTX1_mirrorCount_0_ok 6 (12, .ireturn, 1) rfl
noncomputable def dTX1_tallyCount_0 : List (Nat × Instr × Nat) := [(0, .aload_n 0, 1), (1, .getfield 33, 3), (4, .invokestatic 49, 3), (7, .ireturn, 1)]
theorem dTX1_tallyCount_0_ok : ∀ (k : Nat) (q : Nat × Instr × Nat), dTX1_tallyCount_0[k]? = some q → decode cX1_tallyCount q.1 = .ok q.2 := dT_of (by decide +kernel)
theorem dX1_tallyCount_0 : decode cX1_tallyCount 0 = .ok (.aload_n 0, 1) := dTX1_tallyCount_0_ok 0 (0, .aload_n 0, 1) rfl
theorem dX1_tallyCount_1 : decode cX1_tallyCount 1 = .ok (.getfield 33, 3) := dTX1_tallyCount_0_ok 1 (1, .getfield 33, 3) rfl
theorem dX1_tallyCount_4 : decode cX1_tallyCount 4 = .ok (.invokestatic 49, 3) := dTX1_tallyCount_0_ok 2 (4, .invokestatic 49, 3) rfl
theorem dX1_tallyCount_7 : decode cX1_tallyCount 7 = .ok (.ireturn, 1) := dTX1_tallyCount_0_ok 3 (7, .ireturn, 1) rfl
noncomputable def dTX1_wallCount_0 : List (Nat × Instr × Nat) := [(0, .aload_n 0, 1), (1, .getfield 36, 3), (4, .invokestatic 49, 3), (7, .aload_n 0, 1), (8, .getfield 39, 3), (11, .invokestatic 49, 3), (14, .iadd, 1), (15, .ireturn, 1)]
theorem dTX1_wallCount_0_ok : ∀ (k : Nat) (q : Nat × Instr × Nat), dTX1_wallCount_0[k]? = some q → decode cX1_wallCount q.1 = .ok q.2 := dT_of (by decide +kernel)
theorem dX1_wallCount_0 : decode cX1_wallCount 0 = .ok (.aload_n 0, 1) := dTX1_wallCount_0_ok 0 (0, .aload_n 0, 1) rfl
theorem dX1_wallCount_1 : decode cX1_wallCount 1 = .ok (.getfield 36, 3) := dTX1_wallCount_0_ok 1 (1, .getfield 36, 3) rfl
theorem dX1_wallCount_4 : decode cX1_wallCount 4 = .ok (.invokestatic 49, 3) := dTX1_wallCount_0_ok 2 (4, .invokestatic 49, 3) rfl
theorem dX1_wallCount_7 : decode cX1_wallCount 7 = .ok (.aload_n 0, 1) := dTX1_wallCount_0_ok 3 (7, .aload_n 0, 1) rfl
theorem dX1_wallCount_8 : decode cX1_wallCount 8 = .ok (.getfield 39, 3) := dTX1_wallCount_0_ok 4 (8, .getfield 39, 3) rfl
theorem dX1_wallCount_11 : decode cX1_wallCount 11 = .ok (.invokestatic 49, 3) := dTX1_wallCount_0_ok 5 (11, .invokestatic 49, 3) rfl
theorem dX1_wallCount_14 : decode cX1_wallCount 14 = .ok (.iadd, 1) := dTX1_wallCount_0_ok 6 (14, .iadd, 1) rfl
theorem dX1_wallCount_15 : decode cX1_wallCount 15 = .ok (.ireturn, 1) := dTX1_wallCount_0_ok 7 (15, .ireturn, 1) rfl
noncomputable def dTX1_litCount_0 : List (Nat × Instr × Nat) := [(0, .aload_n 0, 1), (1, .getfield 42, 3), (4, .invokestatic 49, 3), (7, .ireturn, 1)]
theorem dTX1_litCount_0_ok : ∀ (k : Nat) (q : Nat × Instr × Nat), dTX1_litCount_0[k]? = some q → decode cX1_litCount q.1 = .ok q.2 := dT_of (by decide +kernel)
theorem dX1_litCount_0 : decode cX1_litCount 0 = .ok (.aload_n 0, 1) := dTX1_litCount_0_ok 0 (0, .aload_n 0, 1) rfl
theorem dX1_litCount_1 : decode cX1_litCount 1 = .ok (.getfield 42, 3) := dTX1_litCount_0_ok 1 (1, .getfield 42, 3) rfl
theorem dX1_litCount_4 : decode cX1_litCount 4 = .ok (.invokestatic 49, 3) := dTX1_litCount_0_ok 2 (4, .invokestatic 49, 3) rfl
theorem dX1_litCount_7 : decode cX1_litCount 7 = .ok (.ireturn, 1) := dTX1_litCount_0_ok 3 (7, .ireturn, 1) rfl
noncomputable def dTX1_sumOfMarks_0 : List (Nat × Instr × Nat) := [(0, .iconst 0, 1), (1, .istore_n 1, 1), (2, .iconst 0, 1), (3, .istore_n 2, 1), (4, .iload_n 2, 1), (5, .bipush 63, 2), (7, .if_icmp .ge 28, 3), (10, .aload_n 0, 1), (11, .iload_n 2, 1), (12, .invokevirtual 55, 3), (15, .ifCond .eq 14, 3), (18, .iload_n 1, 1), (19, .aload_n 0, 1), (20, .getfield 14, 3), (23, .iload_n 2, 1), (24, .invokevirtual 59, 3), (27, .iadd, 1), (28, .istore_n 1, 1), (29, .iinc 2 1, 3), (32, .goto (-28), 3), (35, .iload_n 1, 1), (36, .ireturn, 1)]
theorem dTX1_sumOfMarks_0_ok : ∀ (k : Nat) (q : Nat × Instr × Nat), dTX1_sumOfMarks_0[k]? = some q → decode cX1_sumOfMarks q.1 = .ok q.2 := dT_of (by decide +kernel)
theorem dX1_sumOfMarks_0 : decode cX1_sumOfMarks 0 = .ok (.iconst 0, 1) := dTX1_sumOfMarks_0_ok 0 (0, .iconst 0, 1) rfl
theorem dX1_sumOfMarks_1 : decode cX1_sumOfMarks 1 = .ok (.istore_n 1, 1) := dTX1_sumOfMarks_0_ok 1 (1, .istore_n 1, 1) rfl
theorem dX1_sumOfMarks_2 : decode cX1_sumOfMarks 2 = .ok (.iconst 0, 1) := dTX1_sumOfMarks_0_ok 2 (2, .iconst 0, 1) rfl
theorem dX1_sumOfMarks_3 : decode cX1_sumOfMarks 3 = .ok (.istore_n 2, 1) := dTX1_sumOfMarks_0_ok 3 (3, .istore_n 2, 1) rfl
theorem dX1_sumOfMarks_4 : decode cX1_sumOfMarks 4 = .ok (.iload_n 2, 1) := dTX1_sumOfMarks_0_ok 4 (4, .iload_n 2, 1) rfl
theorem dX1_sumOfMarks_5 : decode cX1_sumOfMarks 5 = .ok (.bipush 63, 2) := dTX1_sumOfMarks_0_ok 5 (5, .bipush 63, 2) rfl
theorem dX1_sumOfMarks_7 : decode cX1_sumOfMarks 7 = .ok (.if_icmp .ge 28, 3) := dTX1_sumOfMarks_0_ok 6 (7, .if_icmp .ge 28, 3) rfl
theorem dX1_sumOfMarks_10 : decode cX1_sumOfMarks 10 = .ok (.aload_n 0, 1) := dTX1_sumOfMarks_0_ok 7 (10, .aload_n 0, 1) rfl
theorem dX1_sumOfMarks_11 : decode cX1_sumOfMarks 11 = .ok (.iload_n 2, 1) := dTX1_sumOfMarks_0_ok 8 (11, .iload_n 2, 1) rfl
theorem dX1_sumOfMarks_12 : decode cX1_sumOfMarks 12 = .ok (.invokevirtual 55, 3) := dTX1_sumOfMarks_0_ok 9 (12, .invokevirtual 55, 3) rfl
theorem dX1_sumOfMarks_15 : decode cX1_sumOfMarks 15 = .ok (.ifCond .eq 14, 3) := dTX1_sumOfMarks_0_ok 10 (15, .ifCond .eq 14, 3) rfl
theorem dX1_sumOfMarks_18 : decode cX1_sumOfMarks 18 = .ok (.iload_n 1, 1) := dTX1_sumOfMarks_0_ok 11 (18, .iload_n 1, 1) rfl
theorem dX1_sumOfMarks_19 : decode cX1_sumOfMarks 19 = .ok (.aload_n 0, 1) := dTX1_sumOfMarks_0_ok 12 (19, .aload_n 0, 1) rfl
theorem dX1_sumOfMarks_20 : decode cX1_sumOfMarks 20 = .ok (.getfield 14, 3) := dTX1_sumOfMarks_0_ok 13 (20, .getfield 14, 3) rfl
theorem dX1_sumOfMarks_23 : decode cX1_sumOfMarks 23 = .ok (.iload_n 2, 1) := dTX1_sumOfMarks_0_ok 14 (23, .iload_n 2, 1) rfl
theorem dX1_sumOfMarks_24 : decode cX1_sumOfMarks 24 = .ok (.invokevirtual 59, 3) := dTX1_sumOfMarks_0_ok 15 (24, .invokevirtual 59, 3) rfl
theorem dX1_sumOfMarks_27 : decode cX1_sumOfMarks 27 = .ok (.iadd, 1) := dTX1_sumOfMarks_0_ok 16 (27, .iadd, 1) rfl
theorem dX1_sumOfMarks_28 : decode cX1_sumOfMarks 28 = .ok (.istore_n 1, 1) := dTX1_sumOfMarks_0_ok 17 (28, .istore_n 1, 1) rfl
theorem dX1_sumOfMarks_29 : decode cX1_sumOfMarks 29 = .ok (.iinc 2 1, 3) := dTX1_sumOfMarks_0_ok 18 (29, .iinc 2 1, 3) rfl
theorem dX1_sumOfMarks_32 : decode cX1_sumOfMarks 32 = .ok (.goto (-28), 3) := dTX1_sumOfMarks_0_ok 19 (32, .goto (-28), 3) rfl
theorem dX1_sumOfMarks_35 : decode cX1_sumOfMarks 35 = .ok (.iload_n 1, 1) := dTX1_sumOfMarks_0_ok 20 (35, .iload_n 1, 1) rfl
theorem dX1_sumOfMarks_36 : decode cX1_sumOfMarks 36 = .ok (.ireturn, 1) := dTX1_sumOfMarks_0_ok 21 (36, .ireturn, 1) rfl
noncomputable def dTX1_isBurning_0 : List (Nat × Instr × Nat) := [(0, .aload_n 0, 1), (1, .getfield 24, 3), (4, .iload_n 1, 1), (5, .invokestatic 63, 3), (8, .ireturn, 1)]
theorem dTX1_isBurning_0_ok : ∀ (k : Nat) (q : Nat × Instr × Nat), dTX1_isBurning_0[k]? = some q → decode cX1_isBurning q.1 = .ok q.2 := dT_of (by decide +kernel)
theorem dX1_isBurning_0 : decode cX1_isBurning 0 = .ok (.aload_n 0, 1) := dTX1_isBurning_0_ok 0 (0, .aload_n 0, 1) rfl
theorem dX1_isBurning_1 : decode cX1_isBurning 1 = .ok (.getfield 24, 3) := dTX1_isBurning_0_ok 1 (1, .getfield 24, 3) rfl
theorem dX1_isBurning_4 : decode cX1_isBurning 4 = .ok (.iload_n 1, 1) := dTX1_isBurning_0_ok 2 (4, .iload_n 1, 1) rfl
theorem dX1_isBurning_5 : decode cX1_isBurning 5 = .ok (.invokestatic 63, 3) := dTX1_isBurning_0_ok 3 (5, .invokestatic 63, 3) rfl
theorem dX1_isBurning_8 : decode cX1_isBurning 8 = .ok (.ireturn, 1) := dTX1_isBurning_0_ok 4 (8, .ireturn, 1) rfl
noncomputable def dTX1_isLit_0 : List (Nat × Instr × Nat) := [(0, .aload_n 0, 1), (1, .getfield 42, 3), (4, .iload_n 1, 1), (5, .invokestatic 63, 3), (8, .ireturn, 1)]
theorem dTX1_isLit_0_ok : ∀ (k : Nat) (q : Nat × Instr × Nat), dTX1_isLit_0[k]? = some q → decode cX1_isLit q.1 = .ok q.2 := dT_of (by decide +kernel)
theorem dX1_isLit_0 : decode cX1_isLit 0 = .ok (.aload_n 0, 1) := dTX1_isLit_0_ok 0 (0, .aload_n 0, 1) rfl
theorem dX1_isLit_1 : decode cX1_isLit 1 = .ok (.getfield 42, 3) := dTX1_isLit_0_ok 1 (1, .getfield 42, 3) rfl
theorem dX1_isLit_4 : decode cX1_isLit 4 = .ok (.iload_n 1, 1) := dTX1_isLit_0_ok 2 (4, .iload_n 1, 1) rfl
theorem dX1_isLit_5 : decode cX1_isLit 5 = .ok (.invokestatic 63, 3) := dTX1_isLit_0_ok 3 (5, .invokestatic 63, 3) rfl
theorem dX1_isLit_8 : decode cX1_isLit 8 = .ok (.ireturn, 1) := dTX1_isLit_0_ok 4 (8, .ireturn, 1) rfl
noncomputable def dTX1_hasTally_0 : List (Nat × Instr × Nat) := [(0, .aload_n 0, 1), (1, .getfield 33, 3), (4, .iload_n 1, 1), (5, .invokestatic 63, 3), (8, .ireturn, 1)]
theorem dTX1_hasTally_0_ok : ∀ (k : Nat) (q : Nat × Instr × Nat), dTX1_hasTally_0[k]? = some q → decode cX1_hasTally q.1 = .ok q.2 := dT_of (by decide +kernel)
theorem dX1_hasTally_0 : decode cX1_hasTally 0 = .ok (.aload_n 0, 1) := dTX1_hasTally_0_ok 0 (0, .aload_n 0, 1) rfl
theorem dX1_hasTally_1 : decode cX1_hasTally 1 = .ok (.getfield 33, 3) := dTX1_hasTally_0_ok 1 (1, .getfield 33, 3) rfl
theorem dX1_hasTally_4 : decode cX1_hasTally 4 = .ok (.iload_n 1, 1) := dTX1_hasTally_0_ok 2 (4, .iload_n 1, 1) rfl
theorem dX1_hasTally_5 : decode cX1_hasTally 5 = .ok (.invokestatic 63, 3) := dTX1_hasTally_0_ok 3 (5, .invokestatic 63, 3) rfl
theorem dX1_hasTally_8 : decode cX1_hasTally 8 = .ok (.ireturn, 1) := dTX1_hasTally_0_ok 4 (8, .ireturn, 1) rfl
noncomputable def dTX1_hasCandleWithWax_0 : List (Nat × Instr × Nat) := [(0, .aload_n 0, 1), (1, .getfield 20, 3), (4, .iload_n 1, 1), (5, .invokestatic 63, 3), (8, .ifCond .eq 18, 3), (11, .aload_n 0, 1), (12, .getfield 14, 3), (15, .iload_n 1, 1), (16, .invokevirtual 59, 3), (19, .ifCond .le 7, 3), (22, .iconst 1, 1), (23, .goto 4, 3), (26, .iconst 0, 1), (27, .ireturn, 1)]
theorem dTX1_hasCandleWithWax_0_ok : ∀ (k : Nat) (q : Nat × Instr × Nat), dTX1_hasCandleWithWax_0[k]? = some q → decode cX1_hasCandleWithWax q.1 = .ok q.2 := dT_of (by decide +kernel)
theorem dX1_hasCandleWithWax_0 : decode cX1_hasCandleWithWax 0 = .ok (.aload_n 0, 1) := dTX1_hasCandleWithWax_0_ok 0 (0, .aload_n 0, 1) rfl
theorem dX1_hasCandleWithWax_1 : decode cX1_hasCandleWithWax 1 = .ok (.getfield 20, 3) := dTX1_hasCandleWithWax_0_ok 1 (1, .getfield 20, 3) rfl
theorem dX1_hasCandleWithWax_4 : decode cX1_hasCandleWithWax 4 = .ok (.iload_n 1, 1) := dTX1_hasCandleWithWax_0_ok 2 (4, .iload_n 1, 1) rfl
theorem dX1_hasCandleWithWax_5 : decode cX1_hasCandleWithWax 5 = .ok (.invokestatic 63, 3) := dTX1_hasCandleWithWax_0_ok 3 (5, .invokestatic 63, 3) rfl
theorem dX1_hasCandleWithWax_8 : decode cX1_hasCandleWithWax 8 = .ok (.ifCond .eq 18, 3) := dTX1_hasCandleWithWax_0_ok 4 (8, .ifCond .eq 18, 3) rfl
theorem dX1_hasCandleWithWax_11 : decode cX1_hasCandleWithWax 11 = .ok (.aload_n 0, 1) := dTX1_hasCandleWithWax_0_ok 5 (11, .aload_n 0, 1) rfl
theorem dX1_hasCandleWithWax_12 : decode cX1_hasCandleWithWax 12 = .ok (.getfield 14, 3) := dTX1_hasCandleWithWax_0_ok 6 (12, .getfield 14, 3) rfl
theorem dX1_hasCandleWithWax_15 : decode cX1_hasCandleWithWax 15 = .ok (.iload_n 1, 1) := dTX1_hasCandleWithWax_0_ok 7 (15, .iload_n 1, 1) rfl
theorem dX1_hasCandleWithWax_16 : decode cX1_hasCandleWithWax 16 = .ok (.invokevirtual 59, 3) := dTX1_hasCandleWithWax_0_ok 8 (16, .invokevirtual 59, 3) rfl
theorem dX1_hasCandleWithWax_19 : decode cX1_hasCandleWithWax 19 = .ok (.ifCond .le 7, 3) := dTX1_hasCandleWithWax_0_ok 9 (19, .ifCond .le 7, 3) rfl
theorem dX1_hasCandleWithWax_22 : decode cX1_hasCandleWithWax 22 = .ok (.iconst 1, 1) := dTX1_hasCandleWithWax_0_ok 10 (22, .iconst 1, 1) rfl
theorem dX1_hasCandleWithWax_23 : decode cX1_hasCandleWithWax 23 = .ok (.goto 4, 3) := dTX1_hasCandleWithWax_0_ok 11 (23, .goto 4, 3) rfl
theorem dX1_hasCandleWithWax_26 : decode cX1_hasCandleWithWax 26 = .ok (.iconst 0, 1) := dTX1_hasCandleWithWax_0_ok 12 (26, .iconst 0, 1) rfl
theorem dX1_hasCandleWithWax_27 : decode cX1_hasCandleWithWax 27 = .ok (.ireturn, 1) := dTX1_hasCandleWithWax_0_ok 13 (27, .ireturn, 1) rfl
noncomputable def dTX1_amountIn_0 : List (Nat × Instr × Nat) := [(0, .aload_n 0, 1), (1, .getfield 14, 3), (4, .iload_n 1, 1), (5, .invokevirtual 59, 3), (8, .ireturn, 1)]
theorem dTX1_amountIn_0_ok : ∀ (k : Nat) (q : Nat × Instr × Nat), dTX1_amountIn_0[k]? = some q → decode cX1_amountIn q.1 = .ok q.2 := dT_of (by decide +kernel)
theorem dX1_amountIn_0 : decode cX1_amountIn 0 = .ok (.aload_n 0, 1) := dTX1_amountIn_0_ok 0 (0, .aload_n 0, 1) rfl
theorem dX1_amountIn_1 : decode cX1_amountIn 1 = .ok (.getfield 14, 3) := dTX1_amountIn_0_ok 1 (1, .getfield 14, 3) rfl
theorem dX1_amountIn_4 : decode cX1_amountIn 4 = .ok (.iload_n 1, 1) := dTX1_amountIn_0_ok 2 (4, .iload_n 1, 1) rfl
theorem dX1_amountIn_5 : decode cX1_amountIn 5 = .ok (.invokevirtual 59, 3) := dTX1_amountIn_0_ok 3 (5, .invokevirtual 59, 3) rfl
theorem dX1_amountIn_8 : decode cX1_amountIn 8 = .ok (.ireturn, 1) := dTX1_amountIn_0_ok 4 (8, .ireturn, 1) rfl
noncomputable def dTX1_thingIn_0 : List (Nat × Instr × Nat) := [(0, .aload_n 0, 1), (1, .getfield 20, 3), (4, .iload_n 1, 1), (5, .invokestatic 63, 3), (8, .ifCond .eq 5, 3), (11, .iconst 1, 1), (12, .ireturn, 1), (13, .aload_n 0, 1), (14, .getfield 27, 3), (17, .iload_n 1, 1), (18, .invokestatic 63, 3), (21, .ifCond .eq 5, 3), (24, .iconst 2, 1), (25, .ireturn, 1), (26, .aload_n 0, 1), (27, .getfield 30, 3), (30, .iload_n 1, 1), (31, .invokestatic 63, 3), (34, .ifCond .eq 5, 3), (37, .iconst 3, 1), (38, .ireturn, 1), (39, .aload_n 0, 1), (40, .iload_n 1, 1), (41, .invokevirtual 55, 3), (44, .ifCond .eq 7, 3), (47, .iconst 4, 1), (48, .goto 4, 3), (51, .iconst 0, 1), (52, .ireturn, 1)]
theorem dTX1_thingIn_0_ok : ∀ (k : Nat) (q : Nat × Instr × Nat), dTX1_thingIn_0[k]? = some q → decode cX1_thingIn q.1 = .ok q.2 := dT_of (by decide +kernel)
theorem dX1_thingIn_0 : decode cX1_thingIn 0 = .ok (.aload_n 0, 1) := dTX1_thingIn_0_ok 0 (0, .aload_n 0, 1) rfl
theorem dX1_thingIn_1 : decode cX1_thingIn 1 = .ok (.getfield 20, 3) := dTX1_thingIn_0_ok 1 (1, .getfield 20, 3) rfl
theorem dX1_thingIn_4 : decode cX1_thingIn 4 = .ok (.iload_n 1, 1) := dTX1_thingIn_0_ok 2 (4, .iload_n 1, 1) rfl
theorem dX1_thingIn_5 : decode cX1_thingIn 5 = .ok (.invokestatic 63, 3) := dTX1_thingIn_0_ok 3 (5, .invokestatic 63, 3) rfl
theorem dX1_thingIn_8 : decode cX1_thingIn 8 = .ok (.ifCond .eq 5, 3) := dTX1_thingIn_0_ok 4 (8, .ifCond .eq 5, 3) rfl
theorem dX1_thingIn_11 : decode cX1_thingIn 11 = .ok (.iconst 1, 1) := dTX1_thingIn_0_ok 5 (11, .iconst 1, 1) rfl
theorem dX1_thingIn_12 : decode cX1_thingIn 12 = .ok (.ireturn, 1) := dTX1_thingIn_0_ok 6 (12, .ireturn, 1) rfl
theorem dX1_thingIn_13 : decode cX1_thingIn 13 = .ok (.aload_n 0, 1) := dTX1_thingIn_0_ok 7 (13, .aload_n 0, 1) rfl
theorem dX1_thingIn_14 : decode cX1_thingIn 14 = .ok (.getfield 27, 3) := dTX1_thingIn_0_ok 8 (14, .getfield 27, 3) rfl
theorem dX1_thingIn_17 : decode cX1_thingIn 17 = .ok (.iload_n 1, 1) := dTX1_thingIn_0_ok 9 (17, .iload_n 1, 1) rfl
theorem dX1_thingIn_18 : decode cX1_thingIn 18 = .ok (.invokestatic 63, 3) := dTX1_thingIn_0_ok 10 (18, .invokestatic 63, 3) rfl
theorem dX1_thingIn_21 : decode cX1_thingIn 21 = .ok (.ifCond .eq 5, 3) := dTX1_thingIn_0_ok 11 (21, .ifCond .eq 5, 3) rfl
theorem dX1_thingIn_24 : decode cX1_thingIn 24 = .ok (.iconst 2, 1) := dTX1_thingIn_0_ok 12 (24, .iconst 2, 1) rfl
theorem dX1_thingIn_25 : decode cX1_thingIn 25 = .ok (.ireturn, 1) := dTX1_thingIn_0_ok 13 (25, .ireturn, 1) rfl
theorem dX1_thingIn_26 : decode cX1_thingIn 26 = .ok (.aload_n 0, 1) := dTX1_thingIn_0_ok 14 (26, .aload_n 0, 1) rfl
theorem dX1_thingIn_27 : decode cX1_thingIn 27 = .ok (.getfield 30, 3) := dTX1_thingIn_0_ok 15 (27, .getfield 30, 3) rfl
theorem dX1_thingIn_30 : decode cX1_thingIn 30 = .ok (.iload_n 1, 1) := dTX1_thingIn_0_ok 16 (30, .iload_n 1, 1) rfl
theorem dX1_thingIn_31 : decode cX1_thingIn 31 = .ok (.invokestatic 63, 3) := dTX1_thingIn_0_ok 17 (31, .invokestatic 63, 3) rfl
theorem dX1_thingIn_34 : decode cX1_thingIn 34 = .ok (.ifCond .eq 5, 3) := dTX1_thingIn_0_ok 18 (34, .ifCond .eq 5, 3) rfl
theorem dX1_thingIn_37 : decode cX1_thingIn 37 = .ok (.iconst 3, 1) := dTX1_thingIn_0_ok 19 (37, .iconst 3, 1) rfl
theorem dX1_thingIn_38 : decode cX1_thingIn 38 = .ok (.ireturn, 1) := dTX1_thingIn_0_ok 20 (38, .ireturn, 1) rfl
theorem dX1_thingIn_39 : decode cX1_thingIn 39 = .ok (.aload_n 0, 1) := dTX1_thingIn_0_ok 21 (39, .aload_n 0, 1) rfl
theorem dX1_thingIn_40 : decode cX1_thingIn 40 = .ok (.iload_n 1, 1) := dTX1_thingIn_0_ok 22 (40, .iload_n 1, 1) rfl
theorem dX1_thingIn_41 : decode cX1_thingIn 41 = .ok (.invokevirtual 55, 3) := dTX1_thingIn_0_ok 23 (41, .invokevirtual 55, 3) rfl
theorem dX1_thingIn_44 : decode cX1_thingIn 44 = .ok (.ifCond .eq 7, 3) := dTX1_thingIn_0_ok 24 (44, .ifCond .eq 7, 3) rfl
theorem dX1_thingIn_47 : decode cX1_thingIn 47 = .ok (.iconst 4, 1) := dTX1_thingIn_0_ok 25 (47, .iconst 4, 1) rfl
theorem dX1_thingIn_48 : decode cX1_thingIn 48 = .ok (.goto 4, 3) := dTX1_thingIn_0_ok 26 (48, .goto 4, 3) rfl
theorem dX1_thingIn_51 : decode cX1_thingIn 51 = .ok (.iconst 0, 1) := dTX1_thingIn_0_ok 27 (51, .iconst 0, 1) rfl
theorem dX1_thingIn_52 : decode cX1_thingIn 52 = .ok (.ireturn, 1) := dTX1_thingIn_0_ok 28 (52, .ireturn, 1) rfl
noncomputable def dTX1_addCandle_0 : List (Nat × Instr × Nat) := [(0, .aload_n 0, 1), (1, .dup, 1), (2, .getfield 20, 3), (5, .iload_n 1, 1), (6, .invokestatic 69, 3), (9, .lor, 1), (10, .putfield 20, 3), (13, .aload_n 0, 1), (14, .dup, 1), (15, .getfield 24, 3), (18, .iload_n 1, 1), (19, .invokestatic 69, 3), (22, .lor, 1), (23, .putfield 24, 3), (26, .aload_n 0, 1), (27, .getfield 14, 3), (30, .iload_n 1, 1), (31, .iload_n 2, 1), (32, .invokevirtual 73, 3), (35, .aload_n 0, 1), (36, .invokevirtual 77, 3), (39, .return_, 1)]
theorem dTX1_addCandle_0_ok : ∀ (k : Nat) (q : Nat × Instr × Nat), dTX1_addCandle_0[k]? = some q → decode cX1_addCandle q.1 = .ok q.2 := dT_of (by decide +kernel)
theorem dX1_addCandle_0 : decode cX1_addCandle 0 = .ok (.aload_n 0, 1) := dTX1_addCandle_0_ok 0 (0, .aload_n 0, 1) rfl
theorem dX1_addCandle_1 : decode cX1_addCandle 1 = .ok (.dup, 1) := dTX1_addCandle_0_ok 1 (1, .dup, 1) rfl
theorem dX1_addCandle_2 : decode cX1_addCandle 2 = .ok (.getfield 20, 3) := dTX1_addCandle_0_ok 2 (2, .getfield 20, 3) rfl
theorem dX1_addCandle_5 : decode cX1_addCandle 5 = .ok (.iload_n 1, 1) := dTX1_addCandle_0_ok 3 (5, .iload_n 1, 1) rfl
theorem dX1_addCandle_6 : decode cX1_addCandle 6 = .ok (.invokestatic 69, 3) := dTX1_addCandle_0_ok 4 (6, .invokestatic 69, 3) rfl
theorem dX1_addCandle_9 : decode cX1_addCandle 9 = .ok (.lor, 1) := dTX1_addCandle_0_ok 5 (9, .lor, 1) rfl
theorem dX1_addCandle_10 : decode cX1_addCandle 10 = .ok (.putfield 20, 3) := dTX1_addCandle_0_ok 6 (10, .putfield 20, 3) rfl
theorem dX1_addCandle_13 : decode cX1_addCandle 13 = .ok (.aload_n 0, 1) := dTX1_addCandle_0_ok 7 (13, .aload_n 0, 1) rfl
theorem dX1_addCandle_14 : decode cX1_addCandle 14 = .ok (.dup, 1) := dTX1_addCandle_0_ok 8 (14, .dup, 1) rfl
theorem dX1_addCandle_15 : decode cX1_addCandle 15 = .ok (.getfield 24, 3) := dTX1_addCandle_0_ok 9 (15, .getfield 24, 3) rfl
theorem dX1_addCandle_18 : decode cX1_addCandle 18 = .ok (.iload_n 1, 1) := dTX1_addCandle_0_ok 10 (18, .iload_n 1, 1) rfl
theorem dX1_addCandle_19 : decode cX1_addCandle 19 = .ok (.invokestatic 69, 3) := dTX1_addCandle_0_ok 11 (19, .invokestatic 69, 3) rfl
theorem dX1_addCandle_22 : decode cX1_addCandle 22 = .ok (.lor, 1) := dTX1_addCandle_0_ok 12 (22, .lor, 1) rfl
theorem dX1_addCandle_23 : decode cX1_addCandle 23 = .ok (.putfield 24, 3) := dTX1_addCandle_0_ok 13 (23, .putfield 24, 3) rfl
theorem dX1_addCandle_26 : decode cX1_addCandle 26 = .ok (.aload_n 0, 1) := dTX1_addCandle_0_ok 14 (26, .aload_n 0, 1) rfl
theorem dX1_addCandle_27 : decode cX1_addCandle 27 = .ok (.getfield 14, 3) := dTX1_addCandle_0_ok 15 (27, .getfield 14, 3) rfl
theorem dX1_addCandle_30 : decode cX1_addCandle 30 = .ok (.iload_n 1, 1) := dTX1_addCandle_0_ok 16 (30, .iload_n 1, 1) rfl
theorem dX1_addCandle_31 : decode cX1_addCandle 31 = .ok (.iload_n 2, 1) := dTX1_addCandle_0_ok 17 (31, .iload_n 2, 1) rfl
theorem dX1_addCandle_32 : decode cX1_addCandle 32 = .ok (.invokevirtual 73, 3) := dTX1_addCandle_0_ok 18 (32, .invokevirtual 73, 3) rfl
theorem dX1_addCandle_35 : decode cX1_addCandle 35 = .ok (.aload_n 0, 1) := dTX1_addCandle_0_ok 19 (35, .aload_n 0, 1) rfl
theorem dX1_addCandle_36 : decode cX1_addCandle 36 = .ok (.invokevirtual 77, 3) := dTX1_addCandle_0_ok 20 (36, .invokevirtual 77, 3) rfl
theorem dX1_addCandle_39 : decode cX1_addCandle 39 = .ok (.return_, 1) := dTX1_addCandle_0_ok 21 (39, .return_, 1) rfl
noncomputable def dTX1_addMirror_0 : List (Nat × Instr × Nat) := [(0, .iload_n 2, 1), (1, .ifCond .eq 19, 3), (4, .aload_n 0, 1), (5, .dup, 1), (6, .getfield 27, 3), (9, .iload_n 1, 1), (10, .invokestatic 69, 3), (13, .lor, 1), (14, .putfield 27, 3), (17, .goto 16, 3), (20, .aload_n 0, 1), (21, .dup, 1), (22, .getfield 30, 3), (25, .iload_n 1, 1), (26, .invokestatic 69, 3), (29, .lor, 1), (30, .putfield 30, 3), (33, .aload_n 0, 1), (34, .invokevirtual 77, 3), (37, .return_, 1)]
theorem dTX1_addMirror_0_ok : ∀ (k : Nat) (q : Nat × Instr × Nat), dTX1_addMirror_0[k]? = some q → decode cX1_addMirror q.1 = .ok q.2 := dT_of (by decide +kernel)
theorem dX1_addMirror_0 : decode cX1_addMirror 0 = .ok (.iload_n 2, 1) := dTX1_addMirror_0_ok 0 (0, .iload_n 2, 1) rfl
theorem dX1_addMirror_1 : decode cX1_addMirror 1 = .ok (.ifCond .eq 19, 3) := dTX1_addMirror_0_ok 1 (1, .ifCond .eq 19, 3) rfl
theorem dX1_addMirror_4 : decode cX1_addMirror 4 = .ok (.aload_n 0, 1) := dTX1_addMirror_0_ok 2 (4, .aload_n 0, 1) rfl
theorem dX1_addMirror_5 : decode cX1_addMirror 5 = .ok (.dup, 1) := dTX1_addMirror_0_ok 3 (5, .dup, 1) rfl
theorem dX1_addMirror_6 : decode cX1_addMirror 6 = .ok (.getfield 27, 3) := dTX1_addMirror_0_ok 4 (6, .getfield 27, 3) rfl
theorem dX1_addMirror_9 : decode cX1_addMirror 9 = .ok (.iload_n 1, 1) := dTX1_addMirror_0_ok 5 (9, .iload_n 1, 1) rfl
theorem dX1_addMirror_10 : decode cX1_addMirror 10 = .ok (.invokestatic 69, 3) := dTX1_addMirror_0_ok 6 (10, .invokestatic 69, 3) rfl
theorem dX1_addMirror_13 : decode cX1_addMirror 13 = .ok (.lor, 1) := dTX1_addMirror_0_ok 7 (13, .lor, 1) rfl
theorem dX1_addMirror_14 : decode cX1_addMirror 14 = .ok (.putfield 27, 3) := dTX1_addMirror_0_ok 8 (14, .putfield 27, 3) rfl
theorem dX1_addMirror_17 : decode cX1_addMirror 17 = .ok (.goto 16, 3) := dTX1_addMirror_0_ok 9 (17, .goto 16, 3) rfl
theorem dX1_addMirror_20 : decode cX1_addMirror 20 = .ok (.aload_n 0, 1) := dTX1_addMirror_0_ok 10 (20, .aload_n 0, 1) rfl
theorem dX1_addMirror_21 : decode cX1_addMirror 21 = .ok (.dup, 1) := dTX1_addMirror_0_ok 11 (21, .dup, 1) rfl
theorem dX1_addMirror_22 : decode cX1_addMirror 22 = .ok (.getfield 30, 3) := dTX1_addMirror_0_ok 12 (22, .getfield 30, 3) rfl
theorem dX1_addMirror_25 : decode cX1_addMirror 25 = .ok (.iload_n 1, 1) := dTX1_addMirror_0_ok 13 (25, .iload_n 1, 1) rfl
theorem dX1_addMirror_26 : decode cX1_addMirror 26 = .ok (.invokestatic 69, 3) := dTX1_addMirror_0_ok 14 (26, .invokestatic 69, 3) rfl
theorem dX1_addMirror_29 : decode cX1_addMirror 29 = .ok (.lor, 1) := dTX1_addMirror_0_ok 15 (29, .lor, 1) rfl
theorem dX1_addMirror_30 : decode cX1_addMirror 30 = .ok (.putfield 30, 3) := dTX1_addMirror_0_ok 16 (30, .putfield 30, 3) rfl
theorem dX1_addMirror_33 : decode cX1_addMirror 33 = .ok (.aload_n 0, 1) := dTX1_addMirror_0_ok 17 (33, .aload_n 0, 1) rfl
theorem dX1_addMirror_34 : decode cX1_addMirror 34 = .ok (.invokevirtual 77, 3) := dTX1_addMirror_0_ok 18 (34, .invokevirtual 77, 3) rfl
theorem dX1_addMirror_37 : decode cX1_addMirror 37 = .ok (.return_, 1) := dTX1_addMirror_0_ok 19 (37, .return_, 1) rfl
noncomputable def dTX1_addTally_0 : List (Nat × Instr × Nat) := [(0, .aload_n 0, 1), (1, .dup, 1), (2, .getfield 33, 3), (5, .iload_n 1, 1), (6, .invokestatic 69, 3), (9, .lor, 1), (10, .putfield 33, 3), (13, .return_, 1)]
theorem dTX1_addTally_0_ok : ∀ (k : Nat) (q : Nat × Instr × Nat), dTX1_addTally_0[k]? = some q → decode cX1_addTally q.1 = .ok q.2 := dT_of (by decide +kernel)
theorem dX1_addTally_0 : decode cX1_addTally 0 = .ok (.aload_n 0, 1) := dTX1_addTally_0_ok 0 (0, .aload_n 0, 1) rfl
theorem dX1_addTally_1 : decode cX1_addTally 1 = .ok (.dup, 1) := dTX1_addTally_0_ok 1 (1, .dup, 1) rfl
theorem dX1_addTally_2 : decode cX1_addTally 2 = .ok (.getfield 33, 3) := dTX1_addTally_0_ok 2 (2, .getfield 33, 3) rfl
theorem dX1_addTally_5 : decode cX1_addTally 5 = .ok (.iload_n 1, 1) := dTX1_addTally_0_ok 3 (5, .iload_n 1, 1) rfl
theorem dX1_addTally_6 : decode cX1_addTally 6 = .ok (.invokestatic 69, 3) := dTX1_addTally_0_ok 4 (6, .invokestatic 69, 3) rfl
theorem dX1_addTally_9 : decode cX1_addTally 9 = .ok (.lor, 1) := dTX1_addTally_0_ok 5 (9, .lor, 1) rfl
theorem dX1_addTally_10 : decode cX1_addTally 10 = .ok (.putfield 33, 3) := dTX1_addTally_0_ok 6 (10, .putfield 33, 3) rfl
theorem dX1_addTally_13 : decode cX1_addTally 13 = .ok (.return_, 1) := dTX1_addTally_0_ok 7 (13, .return_, 1) rfl
noncomputable def dTX1_clear_0 : List (Nat × Instr × Nat) := [(0, .iload_n 1, 1), (1, .invokestatic 69, 3), (4, .ldc2_w 80, 3), (7, .lxor, 1), (8, .lstore_n 2, 1), (9, .aload_n 0, 1), (10, .dup, 1), (11, .getfield 20, 3), (14, .lload_n 2, 1), (15, .land, 1), (16, .putfield 20, 3), (19, .aload_n 0, 1), (20, .dup, 1), (21, .getfield 24, 3), (24, .lload_n 2, 1), (25, .land, 1), (26, .putfield 24, 3), (29, .aload_n 0, 1), (30, .dup, 1), (31, .getfield 27, 3), (34, .lload_n 2, 1), (35, .land, 1), (36, .putfield 27, 3), (39, .aload_n 0, 1), (40, .dup, 1), (41, .getfield 30, 3), (44, .lload_n 2, 1), (45, .land, 1), (46, .putfield 30, 3), (49, .aload_n 0, 1), (50, .dup, 1), (51, .getfield 33, 3), (54, .lload_n 2, 1), (55, .land, 1), (56, .putfield 33, 3), (59, .aload_n 0, 1), (60, .getfield 14, 3), (63, .iload_n 1, 1), (64, .iconst 0, 1), (65, .invokevirtual 73, 3), (68, .aload_n 0, 1), (69, .invokevirtual 77, 3), (72, .return_, 1)]
theorem dTX1_clear_0_ok : ∀ (k : Nat) (q : Nat × Instr × Nat), dTX1_clear_0[k]? = some q → decode cX1_clear q.1 = .ok q.2 := dT_of (by decide +kernel)
theorem dX1_clear_0 : decode cX1_clear 0 = .ok (.iload_n 1, 1) := dTX1_clear_0_ok 0 (0, .iload_n 1, 1) rfl
theorem dX1_clear_1 : decode cX1_clear 1 = .ok (.invokestatic 69, 3) := dTX1_clear_0_ok 1 (1, .invokestatic 69, 3) rfl
theorem dX1_clear_4 : decode cX1_clear 4 = .ok (.ldc2_w 80, 3) := dTX1_clear_0_ok 2 (4, .ldc2_w 80, 3) rfl
theorem dX1_clear_7 : decode cX1_clear 7 = .ok (.lxor, 1) := dTX1_clear_0_ok 3 (7, .lxor, 1) rfl
theorem dX1_clear_8 : decode cX1_clear 8 = .ok (.lstore_n 2, 1) := dTX1_clear_0_ok 4 (8, .lstore_n 2, 1) rfl
theorem dX1_clear_9 : decode cX1_clear 9 = .ok (.aload_n 0, 1) := dTX1_clear_0_ok 5 (9, .aload_n 0, 1) rfl
theorem dX1_clear_10 : decode cX1_clear 10 = .ok (.dup, 1) := dTX1_clear_0_ok 6 (10, .dup, 1) rfl
theorem dX1_clear_11 : decode cX1_clear 11 = .ok (.getfield 20, 3) := dTX1_clear_0_ok 7 (11, .getfield 20, 3) rfl
theorem dX1_clear_14 : decode cX1_clear 14 = .ok (.lload_n 2, 1) := dTX1_clear_0_ok 8 (14, .lload_n 2, 1) rfl
theorem dX1_clear_15 : decode cX1_clear 15 = .ok (.land, 1) := dTX1_clear_0_ok 9 (15, .land, 1) rfl
theorem dX1_clear_16 : decode cX1_clear 16 = .ok (.putfield 20, 3) := dTX1_clear_0_ok 10 (16, .putfield 20, 3) rfl
theorem dX1_clear_19 : decode cX1_clear 19 = .ok (.aload_n 0, 1) := dTX1_clear_0_ok 11 (19, .aload_n 0, 1) rfl
theorem dX1_clear_20 : decode cX1_clear 20 = .ok (.dup, 1) := dTX1_clear_0_ok 12 (20, .dup, 1) rfl
theorem dX1_clear_21 : decode cX1_clear 21 = .ok (.getfield 24, 3) := dTX1_clear_0_ok 13 (21, .getfield 24, 3) rfl
theorem dX1_clear_24 : decode cX1_clear 24 = .ok (.lload_n 2, 1) := dTX1_clear_0_ok 14 (24, .lload_n 2, 1) rfl
theorem dX1_clear_25 : decode cX1_clear 25 = .ok (.land, 1) := dTX1_clear_0_ok 15 (25, .land, 1) rfl
theorem dX1_clear_26 : decode cX1_clear 26 = .ok (.putfield 24, 3) := dTX1_clear_0_ok 16 (26, .putfield 24, 3) rfl
theorem dX1_clear_29 : decode cX1_clear 29 = .ok (.aload_n 0, 1) := dTX1_clear_0_ok 17 (29, .aload_n 0, 1) rfl
theorem dX1_clear_30 : decode cX1_clear 30 = .ok (.dup, 1) := dTX1_clear_0_ok 18 (30, .dup, 1) rfl
theorem dX1_clear_31 : decode cX1_clear 31 = .ok (.getfield 27, 3) := dTX1_clear_0_ok 19 (31, .getfield 27, 3) rfl
theorem dX1_clear_34 : decode cX1_clear 34 = .ok (.lload_n 2, 1) := dTX1_clear_0_ok 20 (34, .lload_n 2, 1) rfl
theorem dX1_clear_35 : decode cX1_clear 35 = .ok (.land, 1) := dTX1_clear_0_ok 21 (35, .land, 1) rfl
theorem dX1_clear_36 : decode cX1_clear 36 = .ok (.putfield 27, 3) := dTX1_clear_0_ok 22 (36, .putfield 27, 3) rfl
theorem dX1_clear_39 : decode cX1_clear 39 = .ok (.aload_n 0, 1) := dTX1_clear_0_ok 23 (39, .aload_n 0, 1) rfl
theorem dX1_clear_40 : decode cX1_clear 40 = .ok (.dup, 1) := dTX1_clear_0_ok 24 (40, .dup, 1) rfl
theorem dX1_clear_41 : decode cX1_clear 41 = .ok (.getfield 30, 3) := dTX1_clear_0_ok 25 (41, .getfield 30, 3) rfl
theorem dX1_clear_44 : decode cX1_clear 44 = .ok (.lload_n 2, 1) := dTX1_clear_0_ok 26 (44, .lload_n 2, 1) rfl
theorem dX1_clear_45 : decode cX1_clear 45 = .ok (.land, 1) := dTX1_clear_0_ok 27 (45, .land, 1) rfl
theorem dX1_clear_46 : decode cX1_clear 46 = .ok (.putfield 30, 3) := dTX1_clear_0_ok 28 (46, .putfield 30, 3) rfl
theorem dX1_clear_49 : decode cX1_clear 49 = .ok (.aload_n 0, 1) := dTX1_clear_0_ok 29 (49, .aload_n 0, 1) rfl
theorem dX1_clear_50 : decode cX1_clear 50 = .ok (.dup, 1) := dTX1_clear_0_ok 30 (50, .dup, 1) rfl
theorem dX1_clear_51 : decode cX1_clear 51 = .ok (.getfield 33, 3) := dTX1_clear_0_ok 31 (51, .getfield 33, 3) rfl
theorem dX1_clear_54 : decode cX1_clear 54 = .ok (.lload_n 2, 1) := dTX1_clear_0_ok 32 (54, .lload_n 2, 1) rfl
theorem dX1_clear_55 : decode cX1_clear 55 = .ok (.land, 1) := dTX1_clear_0_ok 33 (55, .land, 1) rfl
theorem dX1_clear_56 : decode cX1_clear 56 = .ok (.putfield 33, 3) := dTX1_clear_0_ok 34 (56, .putfield 33, 3) rfl
theorem dX1_clear_59 : decode cX1_clear 59 = .ok (.aload_n 0, 1) := dTX1_clear_0_ok 35 (59, .aload_n 0, 1) rfl
theorem dX1_clear_60 : decode cX1_clear 60 = .ok (.getfield 14, 3) := dTX1_clear_0_ok 36 (60, .getfield 14, 3) rfl
theorem dX1_clear_63 : decode cX1_clear 63 = .ok (.iload_n 1, 1) := dTX1_clear_0_ok 37 (63, .iload_n 1, 1) rfl
theorem dX1_clear_64 : decode cX1_clear 64 = .ok (.iconst 0, 1) := dTX1_clear_0_ok 38 (64, .iconst 0, 1) rfl
theorem dX1_clear_65 : decode cX1_clear 65 = .ok (.invokevirtual 73, 3) := dTX1_clear_0_ok 39 (65, .invokevirtual 73, 3) rfl
theorem dX1_clear_68 : decode cX1_clear 68 = .ok (.aload_n 0, 1) := dTX1_clear_0_ok 40 (68, .aload_n 0, 1) rfl
theorem dX1_clear_69 : decode cX1_clear 69 = .ok (.invokevirtual 77, 3) := dTX1_clear_0_ok 41 (69, .invokevirtual 77, 3) rfl
theorem dX1_clear_72 : decode cX1_clear 72 = .ok (.return_, 1) := dTX1_clear_0_ok 42 (72, .return_, 1) rfl
noncomputable def dTX1_switchCandle_0 : List (Nat × Instr × Nat) := [(0, .aload_n 0, 1), (1, .dup, 1), (2, .getfield 24, 3), (5, .iload_n 1, 1), (6, .invokestatic 69, 3), (9, .lxor, 1), (10, .putfield 24, 3), (13, .aload_n 0, 1), (14, .invokevirtual 77, 3), (17, .return_, 1)]
theorem dTX1_switchCandle_0_ok : ∀ (k : Nat) (q : Nat × Instr × Nat), dTX1_switchCandle_0[k]? = some q → decode cX1_switchCandle q.1 = .ok q.2 := dT_of (by decide +kernel)
theorem dX1_switchCandle_0 : decode cX1_switchCandle 0 = .ok (.aload_n 0, 1) := dTX1_switchCandle_0_ok 0 (0, .aload_n 0, 1) rfl
theorem dX1_switchCandle_1 : decode cX1_switchCandle 1 = .ok (.dup, 1) := dTX1_switchCandle_0_ok 1 (1, .dup, 1) rfl
theorem dX1_switchCandle_2 : decode cX1_switchCandle 2 = .ok (.getfield 24, 3) := dTX1_switchCandle_0_ok 2 (2, .getfield 24, 3) rfl
theorem dX1_switchCandle_5 : decode cX1_switchCandle 5 = .ok (.iload_n 1, 1) := dTX1_switchCandle_0_ok 3 (5, .iload_n 1, 1) rfl
theorem dX1_switchCandle_6 : decode cX1_switchCandle 6 = .ok (.invokestatic 69, 3) := dTX1_switchCandle_0_ok 4 (6, .invokestatic 69, 3) rfl
theorem dX1_switchCandle_9 : decode cX1_switchCandle 9 = .ok (.lxor, 1) := dTX1_switchCandle_0_ok 5 (9, .lxor, 1) rfl
theorem dX1_switchCandle_10 : decode cX1_switchCandle 10 = .ok (.putfield 24, 3) := dTX1_switchCandle_0_ok 6 (10, .putfield 24, 3) rfl
theorem dX1_switchCandle_13 : decode cX1_switchCandle 13 = .ok (.aload_n 0, 1) := dTX1_switchCandle_0_ok 7 (13, .aload_n 0, 1) rfl
theorem dX1_switchCandle_14 : decode cX1_switchCandle 14 = .ok (.invokevirtual 77, 3) := dTX1_switchCandle_0_ok 8 (14, .invokevirtual 77, 3) rfl
theorem dX1_switchCandle_17 : decode cX1_switchCandle 17 = .ok (.return_, 1) := dTX1_switchCandle_0_ok 9 (17, .return_, 1) rfl
noncomputable def dTX1_walledCells_0 : List (Nat × Instr × Nat) := [(0, .iload_n 1, 1), (1, .tableswitch 45 0 2 #[27, 35, 40], 27), (28, .aload_n 0, 1), (29, .getfield 39, 3), (32, .bipush 9, 2), (34, .lshl, 1), (35, .lreturn, 1), (36, .aload_n 0, 1), (37, .getfield 36, 3), (40, .lreturn, 1), (41, .aload_n 0, 1), (42, .getfield 39, 3), (45, .lreturn, 1), (46, .aload_n 0, 1), (47, .getfield 36, 3), (50, .iconst 1, 1), (51, .lshl, 1), (52, .lreturn, 1)]
theorem dTX1_walledCells_0_ok : ∀ (k : Nat) (q : Nat × Instr × Nat), dTX1_walledCells_0[k]? = some q → decode cX1_walledCells q.1 = .ok q.2 := dT_of (by decide +kernel)
theorem dX1_walledCells_0 : decode cX1_walledCells 0 = .ok (.iload_n 1, 1) := dTX1_walledCells_0_ok 0 (0, .iload_n 1, 1) rfl
theorem dX1_walledCells_1 : decode cX1_walledCells 1 = .ok (.tableswitch 45 0 2 #[27, 35, 40], 27) := dTX1_walledCells_0_ok 1 (1, .tableswitch 45 0 2 #[27, 35, 40], 27) rfl
theorem dX1_walledCells_28 : decode cX1_walledCells 28 = .ok (.aload_n 0, 1) := dTX1_walledCells_0_ok 2 (28, .aload_n 0, 1) rfl
theorem dX1_walledCells_29 : decode cX1_walledCells 29 = .ok (.getfield 39, 3) := dTX1_walledCells_0_ok 3 (29, .getfield 39, 3) rfl
theorem dX1_walledCells_32 : decode cX1_walledCells 32 = .ok (.bipush 9, 2) := dTX1_walledCells_0_ok 4 (32, .bipush 9, 2) rfl
theorem dX1_walledCells_34 : decode cX1_walledCells 34 = .ok (.lshl, 1) := dTX1_walledCells_0_ok 5 (34, .lshl, 1) rfl
theorem dX1_walledCells_35 : decode cX1_walledCells 35 = .ok (.lreturn, 1) := dTX1_walledCells_0_ok 6 (35, .lreturn, 1) rfl
theorem dX1_walledCells_36 : decode cX1_walledCells 36 = .ok (.aload_n 0, 1) := dTX1_walledCells_0_ok 7 (36, .aload_n 0, 1) rfl
theorem dX1_walledCells_37 : decode cX1_walledCells 37 = .ok (.getfield 36, 3) := dTX1_walledCells_0_ok 8 (37, .getfield 36, 3) rfl
theorem dX1_walledCells_40 : decode cX1_walledCells 40 = .ok (.lreturn, 1) := dTX1_walledCells_0_ok 9 (40, .lreturn, 1) rfl
theorem dX1_walledCells_41 : decode cX1_walledCells 41 = .ok (.aload_n 0, 1) := dTX1_walledCells_0_ok 10 (41, .aload_n 0, 1) rfl
theorem dX1_walledCells_42 : decode cX1_walledCells 42 = .ok (.getfield 39, 3) := dTX1_walledCells_0_ok 11 (42, .getfield 39, 3) rfl
theorem dX1_walledCells_45 : decode cX1_walledCells 45 = .ok (.lreturn, 1) := dTX1_walledCells_0_ok 12 (45, .lreturn, 1) rfl
theorem dX1_walledCells_46 : decode cX1_walledCells 46 = .ok (.aload_n 0, 1) := dTX1_walledCells_0_ok 13 (46, .aload_n 0, 1) rfl
theorem dX1_walledCells_47 : decode cX1_walledCells 47 = .ok (.getfield 36, 3) := dTX1_walledCells_0_ok 14 (47, .getfield 36, 3) rfl
theorem dX1_walledCells_50 : decode cX1_walledCells 50 = .ok (.iconst 1, 1) := dTX1_walledCells_0_ok 15 (50, .iconst 1, 1) rfl
theorem dX1_walledCells_51 : decode cX1_walledCells 51 = .ok (.lshl, 1) := dTX1_walledCells_0_ok 16 (51, .lshl, 1) rfl
theorem dX1_walledCells_52 : decode cX1_walledCells 52 = .ok (.lreturn, 1) := dTX1_walledCells_0_ok 17 (52, .lreturn, 1) rfl
noncomputable def dTX1_hasWall_0 : List (Nat × Instr × Nat) := [(0, .aload_n 0, 1), (1, .iload_n 2, 1), (2, .invokevirtual 82, 3), (5, .iload_n 1, 1), (6, .invokestatic 63, 3), (9, .ireturn, 1)]
theorem dTX1_hasWall_0_ok : ∀ (k : Nat) (q : Nat × Instr × Nat), dTX1_hasWall_0[k]? = some q → decode cX1_hasWall q.1 = .ok q.2 := dT_of (by decide +kernel)
theorem dX1_hasWall_0 : decode cX1_hasWall 0 = .ok (.aload_n 0, 1) := dTX1_hasWall_0_ok 0 (0, .aload_n 0, 1) rfl
theorem dX1_hasWall_1 : decode cX1_hasWall 1 = .ok (.iload_n 2, 1) := dTX1_hasWall_0_ok 1 (1, .iload_n 2, 1) rfl
theorem dX1_hasWall_2 : decode cX1_hasWall 2 = .ok (.invokevirtual 82, 3) := dTX1_hasWall_0_ok 2 (2, .invokevirtual 82, 3) rfl
theorem dX1_hasWall_5 : decode cX1_hasWall 5 = .ok (.iload_n 1, 1) := dTX1_hasWall_0_ok 3 (5, .iload_n 1, 1) rfl
theorem dX1_hasWall_6 : decode cX1_hasWall 6 = .ok (.invokestatic 63, 3) := dTX1_hasWall_0_ok 4 (6, .invokestatic 63, 3) rfl
theorem dX1_hasWall_9 : decode cX1_hasWall 9 = .ok (.ireturn, 1) := dTX1_hasWall_0_ok 5 (9, .ireturn, 1) rfl
noncomputable def dTX1_switchWall_0 : List (Nat × Instr × Nat) := [(0, .iload_n 1, 1), (1, .invokestatic 69, 3), (4, .lstore_n 3, 1), (5, .lload_n 3, 1), (6, .iload_n 2, 1), (7, .invokestatic 85, 3), (10, .lstore 5, 2), (12, .iload_n 2, 1), (13, .tableswitch 67 0 2 #[27, 41, 54], 27), (40, .aload_n 0, 1), (41, .dup, 1), (42, .getfield 39, 3), (45, .lload 5, 2), (47, .lxor, 1), (48, .putfield 39, 3), (51, .goto 40, 3), (54, .aload_n 0, 1), (55, .dup, 1), (56, .getfield 36, 3), (59, .lload_n 3, 1), (60, .lxor, 1), (61, .putfield 36, 3), (64, .goto 27, 3), (67, .aload_n 0, 1), (68, .dup, 1), (69, .getfield 39, 3), (72, .lload_n 3, 1), (73, .lxor, 1), (74, .putfield 39, 3), (77, .goto 14, 3), (80, .aload_n 0, 1), (81, .dup, 1), (82, .getfield 36, 3), (85, .lload 5, 2), (87, .lxor, 1), (88, .putfield 36, 3), (91, .aload_n 0, 1), (92, .invokevirtual 77, 3), (95, .return_, 1)]
theorem dTX1_switchWall_0_ok : ∀ (k : Nat) (q : Nat × Instr × Nat), dTX1_switchWall_0[k]? = some q → decode cX1_switchWall q.1 = .ok q.2 := dT_of (by decide +kernel)
theorem dX1_switchWall_0 : decode cX1_switchWall 0 = .ok (.iload_n 1, 1) := dTX1_switchWall_0_ok 0 (0, .iload_n 1, 1) rfl
theorem dX1_switchWall_1 : decode cX1_switchWall 1 = .ok (.invokestatic 69, 3) := dTX1_switchWall_0_ok 1 (1, .invokestatic 69, 3) rfl
theorem dX1_switchWall_4 : decode cX1_switchWall 4 = .ok (.lstore_n 3, 1) := dTX1_switchWall_0_ok 2 (4, .lstore_n 3, 1) rfl
theorem dX1_switchWall_5 : decode cX1_switchWall 5 = .ok (.lload_n 3, 1) := dTX1_switchWall_0_ok 3 (5, .lload_n 3, 1) rfl
theorem dX1_switchWall_6 : decode cX1_switchWall 6 = .ok (.iload_n 2, 1) := dTX1_switchWall_0_ok 4 (6, .iload_n 2, 1) rfl
theorem dX1_switchWall_7 : decode cX1_switchWall 7 = .ok (.invokestatic 85, 3) := dTX1_switchWall_0_ok 5 (7, .invokestatic 85, 3) rfl
theorem dX1_switchWall_10 : decode cX1_switchWall 10 = .ok (.lstore 5, 2) := dTX1_switchWall_0_ok 6 (10, .lstore 5, 2) rfl
theorem dX1_switchWall_12 : decode cX1_switchWall 12 = .ok (.iload_n 2, 1) := dTX1_switchWall_0_ok 7 (12, .iload_n 2, 1) rfl
theorem dX1_switchWall_13 : decode cX1_switchWall 13 = .ok (.tableswitch 67 0 2 #[27, 41, 54], 27) := dTX1_switchWall_0_ok 8 (13, .tableswitch 67 0 2 #[27, 41, 54], 27) rfl
theorem dX1_switchWall_40 : decode cX1_switchWall 40 = .ok (.aload_n 0, 1) := dTX1_switchWall_0_ok 9 (40, .aload_n 0, 1) rfl
theorem dX1_switchWall_41 : decode cX1_switchWall 41 = .ok (.dup, 1) := dTX1_switchWall_0_ok 10 (41, .dup, 1) rfl
theorem dX1_switchWall_42 : decode cX1_switchWall 42 = .ok (.getfield 39, 3) := dTX1_switchWall_0_ok 11 (42, .getfield 39, 3) rfl
theorem dX1_switchWall_45 : decode cX1_switchWall 45 = .ok (.lload 5, 2) := dTX1_switchWall_0_ok 12 (45, .lload 5, 2) rfl
theorem dX1_switchWall_47 : decode cX1_switchWall 47 = .ok (.lxor, 1) := dTX1_switchWall_0_ok 13 (47, .lxor, 1) rfl
theorem dX1_switchWall_48 : decode cX1_switchWall 48 = .ok (.putfield 39, 3) := dTX1_switchWall_0_ok 14 (48, .putfield 39, 3) rfl
theorem dX1_switchWall_51 : decode cX1_switchWall 51 = .ok (.goto 40, 3) := dTX1_switchWall_0_ok 15 (51, .goto 40, 3) rfl
theorem dX1_switchWall_54 : decode cX1_switchWall 54 = .ok (.aload_n 0, 1) := dTX1_switchWall_0_ok 16 (54, .aload_n 0, 1) rfl
theorem dX1_switchWall_55 : decode cX1_switchWall 55 = .ok (.dup, 1) := dTX1_switchWall_0_ok 17 (55, .dup, 1) rfl
theorem dX1_switchWall_56 : decode cX1_switchWall 56 = .ok (.getfield 36, 3) := dTX1_switchWall_0_ok 18 (56, .getfield 36, 3) rfl
theorem dX1_switchWall_59 : decode cX1_switchWall 59 = .ok (.lload_n 3, 1) := dTX1_switchWall_0_ok 19 (59, .lload_n 3, 1) rfl
theorem dX1_switchWall_60 : decode cX1_switchWall 60 = .ok (.lxor, 1) := dTX1_switchWall_0_ok 20 (60, .lxor, 1) rfl
theorem dX1_switchWall_61 : decode cX1_switchWall 61 = .ok (.putfield 36, 3) := dTX1_switchWall_0_ok 21 (61, .putfield 36, 3) rfl
theorem dX1_switchWall_64 : decode cX1_switchWall 64 = .ok (.goto 27, 3) := dTX1_switchWall_0_ok 22 (64, .goto 27, 3) rfl
theorem dX1_switchWall_67 : decode cX1_switchWall 67 = .ok (.aload_n 0, 1) := dTX1_switchWall_0_ok 23 (67, .aload_n 0, 1) rfl
theorem dX1_switchWall_68 : decode cX1_switchWall 68 = .ok (.dup, 1) := dTX1_switchWall_0_ok 24 (68, .dup, 1) rfl
theorem dX1_switchWall_69 : decode cX1_switchWall 69 = .ok (.getfield 39, 3) := dTX1_switchWall_0_ok 25 (69, .getfield 39, 3) rfl
theorem dX1_switchWall_72 : decode cX1_switchWall 72 = .ok (.lload_n 3, 1) := dTX1_switchWall_0_ok 26 (72, .lload_n 3, 1) rfl
theorem dX1_switchWall_73 : decode cX1_switchWall 73 = .ok (.lxor, 1) := dTX1_switchWall_0_ok 27 (73, .lxor, 1) rfl
theorem dX1_switchWall_74 : decode cX1_switchWall 74 = .ok (.putfield 39, 3) := dTX1_switchWall_0_ok 28 (74, .putfield 39, 3) rfl
theorem dX1_switchWall_77 : decode cX1_switchWall 77 = .ok (.goto 14, 3) := dTX1_switchWall_0_ok 29 (77, .goto 14, 3) rfl
theorem dX1_switchWall_80 : decode cX1_switchWall 80 = .ok (.aload_n 0, 1) := dTX1_switchWall_0_ok 30 (80, .aload_n 0, 1) rfl
theorem dX1_switchWall_81 : decode cX1_switchWall 81 = .ok (.dup, 1) := dTX1_switchWall_0_ok 31 (81, .dup, 1) rfl
theorem dX1_switchWall_82 : decode cX1_switchWall 82 = .ok (.getfield 36, 3) := dTX1_switchWall_0_ok 32 (82, .getfield 36, 3) rfl
theorem dX1_switchWall_85 : decode cX1_switchWall 85 = .ok (.lload 5, 2) := dTX1_switchWall_0_ok 33 (85, .lload 5, 2) rfl
theorem dX1_switchWall_87 : decode cX1_switchWall 87 = .ok (.lxor, 1) := dTX1_switchWall_0_ok 34 (87, .lxor, 1) rfl
theorem dX1_switchWall_88 : decode cX1_switchWall 88 = .ok (.putfield 36, 3) := dTX1_switchWall_0_ok 35 (88, .putfield 36, 3) rfl
theorem dX1_switchWall_91 : decode cX1_switchWall 91 = .ok (.aload_n 0, 1) := dTX1_switchWall_0_ok 36 (91, .aload_n 0, 1) rfl
theorem dX1_switchWall_92 : decode cX1_switchWall 92 = .ok (.invokevirtual 77, 3) := dTX1_switchWall_0_ok 37 (92, .invokevirtual 77, 3) rfl
theorem dX1_switchWall_95 : decode cX1_switchWall 95 = .ok (.return_, 1) := dTX1_switchWall_0_ok 38 (95, .return_, 1) rfl
noncomputable def dTX1_neighbours_0 : List (Nat × Instr × Nat) := [(0, .lconst 0, 1), (1, .lstore 4, 2), (3, .iconst 0, 1), (4, .istore 6, 2), (6, .iload 6, 2), (8, .iconst 4, 1), (9, .if_icmp .ge 44, 3), (12, .aload_n 0, 1), (13, .iload 6, 2), (15, .invokevirtual 82, 3), (18, .lstore 7, 2), (20, .lload 4, 2), (22, .lload_n 1, 1), (23, .iload_n 3, 1), (24, .ifCond .eq 8, 3), (27, .lload 7, 2), (29, .goto 9, 3), (32, .lload 7, 2), (34, .ldc2_w 80, 3), (37, .lxor, 1), (38, .land, 1), (39, .iload 6, 2), (41, .invokestatic 85, 3), (44, .lor, 1), (45, .lstore 4, 2), (47, .iinc 6 1, 3), (50, .goto (-44), 3), (53, .lload 4, 2), (55, .lreturn, 1)]
theorem dTX1_neighbours_0_ok : ∀ (k : Nat) (q : Nat × Instr × Nat), dTX1_neighbours_0[k]? = some q → decode cX1_neighbours q.1 = .ok q.2 := dT_of (by decide +kernel)
theorem dX1_neighbours_0 : decode cX1_neighbours 0 = .ok (.lconst 0, 1) := dTX1_neighbours_0_ok 0 (0, .lconst 0, 1) rfl
theorem dX1_neighbours_1 : decode cX1_neighbours 1 = .ok (.lstore 4, 2) := dTX1_neighbours_0_ok 1 (1, .lstore 4, 2) rfl
theorem dX1_neighbours_3 : decode cX1_neighbours 3 = .ok (.iconst 0, 1) := dTX1_neighbours_0_ok 2 (3, .iconst 0, 1) rfl
theorem dX1_neighbours_4 : decode cX1_neighbours 4 = .ok (.istore 6, 2) := dTX1_neighbours_0_ok 3 (4, .istore 6, 2) rfl
theorem dX1_neighbours_6 : decode cX1_neighbours 6 = .ok (.iload 6, 2) := dTX1_neighbours_0_ok 4 (6, .iload 6, 2) rfl
theorem dX1_neighbours_8 : decode cX1_neighbours 8 = .ok (.iconst 4, 1) := dTX1_neighbours_0_ok 5 (8, .iconst 4, 1) rfl
theorem dX1_neighbours_9 : decode cX1_neighbours 9 = .ok (.if_icmp .ge 44, 3) := dTX1_neighbours_0_ok 6 (9, .if_icmp .ge 44, 3) rfl
theorem dX1_neighbours_12 : decode cX1_neighbours 12 = .ok (.aload_n 0, 1) := dTX1_neighbours_0_ok 7 (12, .aload_n 0, 1) rfl
theorem dX1_neighbours_13 : decode cX1_neighbours 13 = .ok (.iload 6, 2) := dTX1_neighbours_0_ok 8 (13, .iload 6, 2) rfl
theorem dX1_neighbours_15 : decode cX1_neighbours 15 = .ok (.invokevirtual 82, 3) := dTX1_neighbours_0_ok 9 (15, .invokevirtual 82, 3) rfl
theorem dX1_neighbours_18 : decode cX1_neighbours 18 = .ok (.lstore 7, 2) := dTX1_neighbours_0_ok 10 (18, .lstore 7, 2) rfl
theorem dX1_neighbours_20 : decode cX1_neighbours 20 = .ok (.lload 4, 2) := dTX1_neighbours_0_ok 11 (20, .lload 4, 2) rfl
theorem dX1_neighbours_22 : decode cX1_neighbours 22 = .ok (.lload_n 1, 1) := dTX1_neighbours_0_ok 12 (22, .lload_n 1, 1) rfl
theorem dX1_neighbours_23 : decode cX1_neighbours 23 = .ok (.iload_n 3, 1) := dTX1_neighbours_0_ok 13 (23, .iload_n 3, 1) rfl
theorem dX1_neighbours_24 : decode cX1_neighbours 24 = .ok (.ifCond .eq 8, 3) := dTX1_neighbours_0_ok 14 (24, .ifCond .eq 8, 3) rfl
theorem dX1_neighbours_27 : decode cX1_neighbours 27 = .ok (.lload 7, 2) := dTX1_neighbours_0_ok 15 (27, .lload 7, 2) rfl
theorem dX1_neighbours_29 : decode cX1_neighbours 29 = .ok (.goto 9, 3) := dTX1_neighbours_0_ok 16 (29, .goto 9, 3) rfl
theorem dX1_neighbours_32 : decode cX1_neighbours 32 = .ok (.lload 7, 2) := dTX1_neighbours_0_ok 17 (32, .lload 7, 2) rfl
theorem dX1_neighbours_34 : decode cX1_neighbours 34 = .ok (.ldc2_w 80, 3) := dTX1_neighbours_0_ok 18 (34, .ldc2_w 80, 3) rfl
theorem dX1_neighbours_37 : decode cX1_neighbours 37 = .ok (.lxor, 1) := dTX1_neighbours_0_ok 19 (37, .lxor, 1) rfl
theorem dX1_neighbours_38 : decode cX1_neighbours 38 = .ok (.land, 1) := dTX1_neighbours_0_ok 20 (38, .land, 1) rfl
theorem dX1_neighbours_39 : decode cX1_neighbours 39 = .ok (.iload 6, 2) := dTX1_neighbours_0_ok 21 (39, .iload 6, 2) rfl
theorem dX1_neighbours_41 : decode cX1_neighbours 41 = .ok (.invokestatic 85, 3) := dTX1_neighbours_0_ok 22 (41, .invokestatic 85, 3) rfl
theorem dX1_neighbours_44 : decode cX1_neighbours 44 = .ok (.lor, 1) := dTX1_neighbours_0_ok 23 (44, .lor, 1) rfl
theorem dX1_neighbours_45 : decode cX1_neighbours 45 = .ok (.lstore 4, 2) := dTX1_neighbours_0_ok 24 (45, .lstore 4, 2) rfl
theorem dX1_neighbours_47 : decode cX1_neighbours 47 = .ok (.iinc 6 1, 3) := dTX1_neighbours_0_ok 25 (47, .iinc 6 1, 3) rfl
theorem dX1_neighbours_50 : decode cX1_neighbours 50 = .ok (.goto (-44), 3) := dTX1_neighbours_0_ok 26 (50, .goto (-44), 3) rfl
theorem dX1_neighbours_53 : decode cX1_neighbours 53 = .ok (.lload 4, 2) := dTX1_neighbours_0_ok 27 (53, .lload 4, 2) rfl
theorem dX1_neighbours_55 : decode cX1_neighbours 55 = .ok (.lreturn, 1) := dTX1_neighbours_0_ok 28 (55, .lreturn, 1) rfl
noncomputable def dTX1_cellsLitFrom_0 : List (Nat × Instr × Nat) := [(0, .iload_n 1, 1), (1, .invokestatic 69, 3), (4, .lstore_n 2, 1), (5, .lload_n 2, 1), (6, .lstore 4, 2), (8, .iconst 0, 1), (9, .istore 6, 2), (11, .iload 6, 2), (13, .iconst 4, 1), (14, .if_icmp .ge 75, 3), (17, .lload_n 2, 1), (18, .lstore 7, 2), (20, .iload 6, 2), (22, .istore 9, 2), (24, .iconst 0, 1), (25, .istore 10, 2), (27, .iload 10, 2), (29, .bipush 6, 2), (31, .if_icmp .ge 52, 3), (34, .lload 7, 2), (36, .aload_n 0, 1), (37, .iload 9, 2), (39, .invokevirtual 82, 3), (42, .ldc2_w 80, 3), (45, .lxor, 1), (46, .land, 1), (47, .iload 9, 2), (49, .invokestatic 85, 3), (52, .lstore 7, 2), (54, .lload 4, 2), (56, .lload 7, 2), (58, .lor, 1), (59, .lstore 4, 2), (61, .aload_n 0, 1), (62, .lload 7, 2), (64, .lload_n 2, 1), (65, .ldc2_w 80, 3), (68, .lxor, 1), (69, .land, 1), (70, .iload 9, 2), (72, .invokevirtual 89, 3), (75, .istore 9, 2), (77, .iinc 10 1, 3), (80, .goto (-53), 3), (83, .iinc 6 1, 3), (86, .goto (-75), 3), (89, .lload 4, 2), (91, .lreturn, 1)]
theorem dTX1_cellsLitFrom_0_ok : ∀ (k : Nat) (q : Nat × Instr × Nat), dTX1_cellsLitFrom_0[k]? = some q → decode cX1_cellsLitFrom q.1 = .ok q.2 := dT_of (by decide +kernel)
theorem dX1_cellsLitFrom_0 : decode cX1_cellsLitFrom 0 = .ok (.iload_n 1, 1) := dTX1_cellsLitFrom_0_ok 0 (0, .iload_n 1, 1) rfl
theorem dX1_cellsLitFrom_1 : decode cX1_cellsLitFrom 1 = .ok (.invokestatic 69, 3) := dTX1_cellsLitFrom_0_ok 1 (1, .invokestatic 69, 3) rfl
theorem dX1_cellsLitFrom_4 : decode cX1_cellsLitFrom 4 = .ok (.lstore_n 2, 1) := dTX1_cellsLitFrom_0_ok 2 (4, .lstore_n 2, 1) rfl
theorem dX1_cellsLitFrom_5 : decode cX1_cellsLitFrom 5 = .ok (.lload_n 2, 1) := dTX1_cellsLitFrom_0_ok 3 (5, .lload_n 2, 1) rfl
theorem dX1_cellsLitFrom_6 : decode cX1_cellsLitFrom 6 = .ok (.lstore 4, 2) := dTX1_cellsLitFrom_0_ok 4 (6, .lstore 4, 2) rfl
theorem dX1_cellsLitFrom_8 : decode cX1_cellsLitFrom 8 = .ok (.iconst 0, 1) := dTX1_cellsLitFrom_0_ok 5 (8, .iconst 0, 1) rfl
theorem dX1_cellsLitFrom_9 : decode cX1_cellsLitFrom 9 = .ok (.istore 6, 2) := dTX1_cellsLitFrom_0_ok 6 (9, .istore 6, 2) rfl
theorem dX1_cellsLitFrom_11 : decode cX1_cellsLitFrom 11 = .ok (.iload 6, 2) := dTX1_cellsLitFrom_0_ok 7 (11, .iload 6, 2) rfl
theorem dX1_cellsLitFrom_13 : decode cX1_cellsLitFrom 13 = .ok (.iconst 4, 1) := dTX1_cellsLitFrom_0_ok 8 (13, .iconst 4, 1) rfl
theorem dX1_cellsLitFrom_14 : decode cX1_cellsLitFrom 14 = .ok (.if_icmp .ge 75, 3) := dTX1_cellsLitFrom_0_ok 9 (14, .if_icmp .ge 75, 3) rfl
theorem dX1_cellsLitFrom_17 : decode cX1_cellsLitFrom 17 = .ok (.lload_n 2, 1) := dTX1_cellsLitFrom_0_ok 10 (17, .lload_n 2, 1) rfl
theorem dX1_cellsLitFrom_18 : decode cX1_cellsLitFrom 18 = .ok (.lstore 7, 2) := dTX1_cellsLitFrom_0_ok 11 (18, .lstore 7, 2) rfl
theorem dX1_cellsLitFrom_20 : decode cX1_cellsLitFrom 20 = .ok (.iload 6, 2) := dTX1_cellsLitFrom_0_ok 12 (20, .iload 6, 2) rfl
theorem dX1_cellsLitFrom_22 : decode cX1_cellsLitFrom 22 = .ok (.istore 9, 2) := dTX1_cellsLitFrom_0_ok 13 (22, .istore 9, 2) rfl
theorem dX1_cellsLitFrom_24 : decode cX1_cellsLitFrom 24 = .ok (.iconst 0, 1) := dTX1_cellsLitFrom_0_ok 14 (24, .iconst 0, 1) rfl
theorem dX1_cellsLitFrom_25 : decode cX1_cellsLitFrom 25 = .ok (.istore 10, 2) := dTX1_cellsLitFrom_0_ok 15 (25, .istore 10, 2) rfl
theorem dX1_cellsLitFrom_27 : decode cX1_cellsLitFrom 27 = .ok (.iload 10, 2) := dTX1_cellsLitFrom_0_ok 16 (27, .iload 10, 2) rfl
theorem dX1_cellsLitFrom_29 : decode cX1_cellsLitFrom 29 = .ok (.bipush 6, 2) := dTX1_cellsLitFrom_0_ok 17 (29, .bipush 6, 2) rfl
theorem dX1_cellsLitFrom_31 : decode cX1_cellsLitFrom 31 = .ok (.if_icmp .ge 52, 3) := dTX1_cellsLitFrom_0_ok 18 (31, .if_icmp .ge 52, 3) rfl
theorem dX1_cellsLitFrom_34 : decode cX1_cellsLitFrom 34 = .ok (.lload 7, 2) := dTX1_cellsLitFrom_0_ok 19 (34, .lload 7, 2) rfl
theorem dX1_cellsLitFrom_36 : decode cX1_cellsLitFrom 36 = .ok (.aload_n 0, 1) := dTX1_cellsLitFrom_0_ok 20 (36, .aload_n 0, 1) rfl
theorem dX1_cellsLitFrom_37 : decode cX1_cellsLitFrom 37 = .ok (.iload 9, 2) := dTX1_cellsLitFrom_0_ok 21 (37, .iload 9, 2) rfl
theorem dX1_cellsLitFrom_39 : decode cX1_cellsLitFrom 39 = .ok (.invokevirtual 82, 3) := dTX1_cellsLitFrom_0_ok 22 (39, .invokevirtual 82, 3) rfl
theorem dX1_cellsLitFrom_42 : decode cX1_cellsLitFrom 42 = .ok (.ldc2_w 80, 3) := dTX1_cellsLitFrom_0_ok 23 (42, .ldc2_w 80, 3) rfl
theorem dX1_cellsLitFrom_45 : decode cX1_cellsLitFrom 45 = .ok (.lxor, 1) := dTX1_cellsLitFrom_0_ok 24 (45, .lxor, 1) rfl
theorem dX1_cellsLitFrom_46 : decode cX1_cellsLitFrom 46 = .ok (.land, 1) := dTX1_cellsLitFrom_0_ok 25 (46, .land, 1) rfl
theorem dX1_cellsLitFrom_47 : decode cX1_cellsLitFrom 47 = .ok (.iload 9, 2) := dTX1_cellsLitFrom_0_ok 26 (47, .iload 9, 2) rfl
theorem dX1_cellsLitFrom_49 : decode cX1_cellsLitFrom 49 = .ok (.invokestatic 85, 3) := dTX1_cellsLitFrom_0_ok 27 (49, .invokestatic 85, 3) rfl
theorem dX1_cellsLitFrom_52 : decode cX1_cellsLitFrom 52 = .ok (.lstore 7, 2) := dTX1_cellsLitFrom_0_ok 28 (52, .lstore 7, 2) rfl
theorem dX1_cellsLitFrom_54 : decode cX1_cellsLitFrom 54 = .ok (.lload 4, 2) := dTX1_cellsLitFrom_0_ok 29 (54, .lload 4, 2) rfl
theorem dX1_cellsLitFrom_56 : decode cX1_cellsLitFrom 56 = .ok (.lload 7, 2) := dTX1_cellsLitFrom_0_ok 30 (56, .lload 7, 2) rfl
theorem dX1_cellsLitFrom_58 : decode cX1_cellsLitFrom 58 = .ok (.lor, 1) := dTX1_cellsLitFrom_0_ok 31 (58, .lor, 1) rfl
theorem dX1_cellsLitFrom_59 : decode cX1_cellsLitFrom 59 = .ok (.lstore 4, 2) := dTX1_cellsLitFrom_0_ok 32 (59, .lstore 4, 2) rfl
theorem dX1_cellsLitFrom_61 : decode cX1_cellsLitFrom 61 = .ok (.aload_n 0, 1) := dTX1_cellsLitFrom_0_ok 33 (61, .aload_n 0, 1) rfl
theorem dX1_cellsLitFrom_62 : decode cX1_cellsLitFrom 62 = .ok (.lload 7, 2) := dTX1_cellsLitFrom_0_ok 34 (62, .lload 7, 2) rfl
theorem dX1_cellsLitFrom_64 : decode cX1_cellsLitFrom 64 = .ok (.lload_n 2, 1) := dTX1_cellsLitFrom_0_ok 35 (64, .lload_n 2, 1) rfl
theorem dX1_cellsLitFrom_65 : decode cX1_cellsLitFrom 65 = .ok (.ldc2_w 80, 3) := dTX1_cellsLitFrom_0_ok 36 (65, .ldc2_w 80, 3) rfl
theorem dX1_cellsLitFrom_68 : decode cX1_cellsLitFrom 68 = .ok (.lxor, 1) := dTX1_cellsLitFrom_0_ok 37 (68, .lxor, 1) rfl
theorem dX1_cellsLitFrom_69 : decode cX1_cellsLitFrom 69 = .ok (.land, 1) := dTX1_cellsLitFrom_0_ok 38 (69, .land, 1) rfl
theorem dX1_cellsLitFrom_70 : decode cX1_cellsLitFrom 70 = .ok (.iload 9, 2) := dTX1_cellsLitFrom_0_ok 39 (70, .iload 9, 2) rfl
theorem dX1_cellsLitFrom_72 : decode cX1_cellsLitFrom 72 = .ok (.invokevirtual 89, 3) := dTX1_cellsLitFrom_0_ok 40 (72, .invokevirtual 89, 3) rfl
theorem dX1_cellsLitFrom_75 : decode cX1_cellsLitFrom 75 = .ok (.istore 9, 2) := dTX1_cellsLitFrom_0_ok 41 (75, .istore 9, 2) rfl
theorem dX1_cellsLitFrom_77 : decode cX1_cellsLitFrom 77 = .ok (.iinc 10 1, 3) := dTX1_cellsLitFrom_0_ok 42 (77, .iinc 10 1, 3) rfl
theorem dX1_cellsLitFrom_80 : decode cX1_cellsLitFrom 80 = .ok (.goto (-53), 3) := dTX1_cellsLitFrom_0_ok 43 (80, .goto (-53), 3) rfl
theorem dX1_cellsLitFrom_83 : decode cX1_cellsLitFrom 83 = .ok (.iinc 6 1, 3) := dTX1_cellsLitFrom_0_ok 44 (83, .iinc 6 1, 3) rfl
theorem dX1_cellsLitFrom_86 : decode cX1_cellsLitFrom 86 = .ok (.goto (-75), 3) := dTX1_cellsLitFrom_0_ok 45 (86, .goto (-75), 3) rfl
theorem dX1_cellsLitFrom_89 : decode cX1_cellsLitFrom 89 = .ok (.lload 4, 2) := dTX1_cellsLitFrom_0_ok 46 (89, .lload 4, 2) rfl
theorem dX1_cellsLitFrom_91 : decode cX1_cellsLitFrom 91 = .ok (.lreturn, 1) := dTX1_cellsLitFrom_0_ok 47 (91, .lreturn, 1) rfl
noncomputable def dTX1_turned_0 : List (Nat × Instr × Nat) := [(0, .lload_n 1, 1), (1, .aload_n 0, 1), (2, .getfield 27, 3), (5, .land, 1), (6, .lconst 0, 1), (7, .lcmp, 1), (8, .ifCond .eq 7, 3), (11, .iload_n 3, 1), (12, .iconst 1, 1), (13, .ixor, 1), (14, .ireturn, 1), (15, .lload_n 1, 1), (16, .aload_n 0, 1), (17, .getfield 30, 3), (20, .land, 1), (21, .lconst 0, 1), (22, .lcmp, 1), (23, .ifCond .eq 7, 3), (26, .iconst 3, 1), (27, .iload_n 3, 1), (28, .isub, 1), (29, .ireturn, 1), (30, .iload_n 3, 1), (31, .ireturn, 1)]
theorem dTX1_turned_0_ok : ∀ (k : Nat) (q : Nat × Instr × Nat), dTX1_turned_0[k]? = some q → decode cX1_turned q.1 = .ok q.2 := dT_of (by decide +kernel)
theorem dX1_turned_0 : decode cX1_turned 0 = .ok (.lload_n 1, 1) := dTX1_turned_0_ok 0 (0, .lload_n 1, 1) rfl
theorem dX1_turned_1 : decode cX1_turned 1 = .ok (.aload_n 0, 1) := dTX1_turned_0_ok 1 (1, .aload_n 0, 1) rfl
theorem dX1_turned_2 : decode cX1_turned 2 = .ok (.getfield 27, 3) := dTX1_turned_0_ok 2 (2, .getfield 27, 3) rfl
theorem dX1_turned_5 : decode cX1_turned 5 = .ok (.land, 1) := dTX1_turned_0_ok 3 (5, .land, 1) rfl
theorem dX1_turned_6 : decode cX1_turned 6 = .ok (.lconst 0, 1) := dTX1_turned_0_ok 4 (6, .lconst 0, 1) rfl
theorem dX1_turned_7 : decode cX1_turned 7 = .ok (.lcmp, 1) := dTX1_turned_0_ok 5 (7, .lcmp, 1) rfl
theorem dX1_turned_8 : decode cX1_turned 8 = .ok (.ifCond .eq 7, 3) := dTX1_turned_0_ok 6 (8, .ifCond .eq 7, 3) rfl
theorem dX1_turned_11 : decode cX1_turned 11 = .ok (.iload_n 3, 1) := dTX1_turned_0_ok 7 (11, .iload_n 3, 1) rfl
theorem dX1_turned_12 : decode cX1_turned 12 = .ok (.iconst 1, 1) := dTX1_turned_0_ok 8 (12, .iconst 1, 1) rfl
theorem dX1_turned_13 : decode cX1_turned 13 = .ok (.ixor, 1) := dTX1_turned_0_ok 9 (13, .ixor, 1) rfl
theorem dX1_turned_14 : decode cX1_turned 14 = .ok (.ireturn, 1) := dTX1_turned_0_ok 10 (14, .ireturn, 1) rfl
theorem dX1_turned_15 : decode cX1_turned 15 = .ok (.lload_n 1, 1) := dTX1_turned_0_ok 11 (15, .lload_n 1, 1) rfl
theorem dX1_turned_16 : decode cX1_turned 16 = .ok (.aload_n 0, 1) := dTX1_turned_0_ok 12 (16, .aload_n 0, 1) rfl
theorem dX1_turned_17 : decode cX1_turned 17 = .ok (.getfield 30, 3) := dTX1_turned_0_ok 13 (17, .getfield 30, 3) rfl
theorem dX1_turned_20 : decode cX1_turned 20 = .ok (.land, 1) := dTX1_turned_0_ok 14 (20, .land, 1) rfl
theorem dX1_turned_21 : decode cX1_turned 21 = .ok (.lconst 0, 1) := dTX1_turned_0_ok 15 (21, .lconst 0, 1) rfl
theorem dX1_turned_22 : decode cX1_turned 22 = .ok (.lcmp, 1) := dTX1_turned_0_ok 16 (22, .lcmp, 1) rfl
theorem dX1_turned_23 : decode cX1_turned 23 = .ok (.ifCond .eq 7, 3) := dTX1_turned_0_ok 17 (23, .ifCond .eq 7, 3) rfl
theorem dX1_turned_26 : decode cX1_turned 26 = .ok (.iconst 3, 1) := dTX1_turned_0_ok 18 (26, .iconst 3, 1) rfl
theorem dX1_turned_27 : decode cX1_turned 27 = .ok (.iload_n 3, 1) := dTX1_turned_0_ok 19 (27, .iload_n 3, 1) rfl
theorem dX1_turned_28 : decode cX1_turned 28 = .ok (.isub, 1) := dTX1_turned_0_ok 20 (28, .isub, 1) rfl
theorem dX1_turned_29 : decode cX1_turned 29 = .ok (.ireturn, 1) := dTX1_turned_0_ok 21 (29, .ireturn, 1) rfl
theorem dX1_turned_30 : decode cX1_turned 30 = .ok (.iload_n 3, 1) := dTX1_turned_0_ok 22 (30, .iload_n 3, 1) rfl
theorem dX1_turned_31 : decode cX1_turned 31 = .ok (.ireturn, 1) := dTX1_turned_0_ok 23 (31, .ireturn, 1) rfl
noncomputable def dTX1_relight_0 : List (Nat × Instr × Nat) := [(0, .aload_n 0, 1), (1, .lconst 0, 1), (2, .putfield 42, 3), (5, .iconst 0, 1), (6, .istore_n 1, 1), (7, .iload_n 1, 1), (8, .bipush 63, 2), (10, .if_icmp .ge 34, 3), (13, .aload_n 0, 1), (14, .getfield 24, 3), (17, .iload_n 1, 1), (18, .invokestatic 63, 3), (21, .ifCond .eq 17, 3), (24, .aload_n 0, 1), (25, .dup, 1), (26, .getfield 42, 3), (29, .aload_n 0, 1), (30, .iload_n 1, 1), (31, .invokevirtual 93, 3), (34, .lor, 1), (35, .putfield 42, 3), (38, .iinc 1 1, 3), (41, .goto (-34), 3), (44, .return_, 1)]
theorem dTX1_relight_0_ok : ∀ (k : Nat) (q : Nat × Instr × Nat), dTX1_relight_0[k]? = some q → decode cX1_relight q.1 = .ok q.2 := dT_of (by decide +kernel)
theorem dX1_relight_0 : decode cX1_relight 0 = .ok (.aload_n 0, 1) := dTX1_relight_0_ok 0 (0, .aload_n 0, 1) rfl
theorem dX1_relight_1 : decode cX1_relight 1 = .ok (.lconst 0, 1) := dTX1_relight_0_ok 1 (1, .lconst 0, 1) rfl
theorem dX1_relight_2 : decode cX1_relight 2 = .ok (.putfield 42, 3) := dTX1_relight_0_ok 2 (2, .putfield 42, 3) rfl
theorem dX1_relight_5 : decode cX1_relight 5 = .ok (.iconst 0, 1) := dTX1_relight_0_ok 3 (5, .iconst 0, 1) rfl
theorem dX1_relight_6 : decode cX1_relight 6 = .ok (.istore_n 1, 1) := dTX1_relight_0_ok 4 (6, .istore_n 1, 1) rfl
theorem dX1_relight_7 : decode cX1_relight 7 = .ok (.iload_n 1, 1) := dTX1_relight_0_ok 5 (7, .iload_n 1, 1) rfl
theorem dX1_relight_8 : decode cX1_relight 8 = .ok (.bipush 63, 2) := dTX1_relight_0_ok 6 (8, .bipush 63, 2) rfl
theorem dX1_relight_10 : decode cX1_relight 10 = .ok (.if_icmp .ge 34, 3) := dTX1_relight_0_ok 7 (10, .if_icmp .ge 34, 3) rfl
theorem dX1_relight_13 : decode cX1_relight 13 = .ok (.aload_n 0, 1) := dTX1_relight_0_ok 8 (13, .aload_n 0, 1) rfl
theorem dX1_relight_14 : decode cX1_relight 14 = .ok (.getfield 24, 3) := dTX1_relight_0_ok 9 (14, .getfield 24, 3) rfl
theorem dX1_relight_17 : decode cX1_relight 17 = .ok (.iload_n 1, 1) := dTX1_relight_0_ok 10 (17, .iload_n 1, 1) rfl
theorem dX1_relight_18 : decode cX1_relight 18 = .ok (.invokestatic 63, 3) := dTX1_relight_0_ok 11 (18, .invokestatic 63, 3) rfl
theorem dX1_relight_21 : decode cX1_relight 21 = .ok (.ifCond .eq 17, 3) := dTX1_relight_0_ok 12 (21, .ifCond .eq 17, 3) rfl
theorem dX1_relight_24 : decode cX1_relight 24 = .ok (.aload_n 0, 1) := dTX1_relight_0_ok 13 (24, .aload_n 0, 1) rfl
theorem dX1_relight_25 : decode cX1_relight 25 = .ok (.dup, 1) := dTX1_relight_0_ok 14 (25, .dup, 1) rfl
theorem dX1_relight_26 : decode cX1_relight 26 = .ok (.getfield 42, 3) := dTX1_relight_0_ok 15 (26, .getfield 42, 3) rfl
theorem dX1_relight_29 : decode cX1_relight 29 = .ok (.aload_n 0, 1) := dTX1_relight_0_ok 16 (29, .aload_n 0, 1) rfl
theorem dX1_relight_30 : decode cX1_relight 30 = .ok (.iload_n 1, 1) := dTX1_relight_0_ok 17 (30, .iload_n 1, 1) rfl
theorem dX1_relight_31 : decode cX1_relight 31 = .ok (.invokevirtual 93, 3) := dTX1_relight_0_ok 18 (31, .invokevirtual 93, 3) rfl
theorem dX1_relight_34 : decode cX1_relight 34 = .ok (.lor, 1) := dTX1_relight_0_ok 19 (34, .lor, 1) rfl
theorem dX1_relight_35 : decode cX1_relight 35 = .ok (.putfield 42, 3) := dTX1_relight_0_ok 20 (35, .putfield 42, 3) rfl
theorem dX1_relight_38 : decode cX1_relight 38 = .ok (.iinc 1 1, 3) := dTX1_relight_0_ok 21 (38, .iinc 1 1, 3) rfl
theorem dX1_relight_41 : decode cX1_relight 41 = .ok (.goto (-34), 3) := dTX1_relight_0_ok 22 (41, .goto (-34), 3) rfl
theorem dX1_relight_44 : decode cX1_relight 44 = .ok (.return_, 1) := dTX1_relight_0_ok 23 (44, .return_, 1) rfl
noncomputable def dTX1_burnDown_0 : List (Nat × Instr × Nat) := [(0, .iconst 0, 1), (1, .istore_n 1, 1), (2, .iload_n 1, 1), (3, .bipush 63, 2), (5, .if_icmp .ge 58, 3), (8, .aload_n 0, 1), (9, .iload_n 1, 1), (10, .invokevirtual 96, 3), (13, .ifCond .eq 44, 3), (16, .aload_n 0, 1), (17, .getfield 14, 3), (20, .iload_n 1, 1), (21, .invokevirtual 59, 3), (24, .iconst 1, 1), (25, .isub, 1), (26, .istore_n 2, 1), (27, .aload_n 0, 1), (28, .getfield 14, 3), (31, .iload_n 1, 1), (32, .iload_n 2, 1), (33, .invokevirtual 73, 3), (36, .iload_n 2, 1), (37, .ifCond .gt 20, 3), (40, .aload_n 0, 1), (41, .dup, 1), (42, .getfield 24, 3), (45, .iload_n 1, 1), (46, .invokestatic 69, 3), (49, .ldc2_w 80, 3), (52, .lxor, 1), (53, .land, 1), (54, .putfield 24, 3), (57, .iinc 1 1, 3), (60, .goto (-58), 3), (63, .aload_n 0, 1), (64, .invokevirtual 77, 3), (67, .return_, 1)]
theorem dTX1_burnDown_0_ok : ∀ (k : Nat) (q : Nat × Instr × Nat), dTX1_burnDown_0[k]? = some q → decode cX1_burnDown q.1 = .ok q.2 := dT_of (by decide +kernel)
theorem dX1_burnDown_0 : decode cX1_burnDown 0 = .ok (.iconst 0, 1) := dTX1_burnDown_0_ok 0 (0, .iconst 0, 1) rfl
theorem dX1_burnDown_1 : decode cX1_burnDown 1 = .ok (.istore_n 1, 1) := dTX1_burnDown_0_ok 1 (1, .istore_n 1, 1) rfl
theorem dX1_burnDown_2 : decode cX1_burnDown 2 = .ok (.iload_n 1, 1) := dTX1_burnDown_0_ok 2 (2, .iload_n 1, 1) rfl
theorem dX1_burnDown_3 : decode cX1_burnDown 3 = .ok (.bipush 63, 2) := dTX1_burnDown_0_ok 3 (3, .bipush 63, 2) rfl
theorem dX1_burnDown_5 : decode cX1_burnDown 5 = .ok (.if_icmp .ge 58, 3) := dTX1_burnDown_0_ok 4 (5, .if_icmp .ge 58, 3) rfl
theorem dX1_burnDown_8 : decode cX1_burnDown 8 = .ok (.aload_n 0, 1) := dTX1_burnDown_0_ok 5 (8, .aload_n 0, 1) rfl
theorem dX1_burnDown_9 : decode cX1_burnDown 9 = .ok (.iload_n 1, 1) := dTX1_burnDown_0_ok 6 (9, .iload_n 1, 1) rfl
theorem dX1_burnDown_10 : decode cX1_burnDown 10 = .ok (.invokevirtual 96, 3) := dTX1_burnDown_0_ok 7 (10, .invokevirtual 96, 3) rfl
theorem dX1_burnDown_13 : decode cX1_burnDown 13 = .ok (.ifCond .eq 44, 3) := dTX1_burnDown_0_ok 8 (13, .ifCond .eq 44, 3) rfl
theorem dX1_burnDown_16 : decode cX1_burnDown 16 = .ok (.aload_n 0, 1) := dTX1_burnDown_0_ok 9 (16, .aload_n 0, 1) rfl
theorem dX1_burnDown_17 : decode cX1_burnDown 17 = .ok (.getfield 14, 3) := dTX1_burnDown_0_ok 10 (17, .getfield 14, 3) rfl
theorem dX1_burnDown_20 : decode cX1_burnDown 20 = .ok (.iload_n 1, 1) := dTX1_burnDown_0_ok 11 (20, .iload_n 1, 1) rfl
theorem dX1_burnDown_21 : decode cX1_burnDown 21 = .ok (.invokevirtual 59, 3) := dTX1_burnDown_0_ok 12 (21, .invokevirtual 59, 3) rfl
theorem dX1_burnDown_24 : decode cX1_burnDown 24 = .ok (.iconst 1, 1) := dTX1_burnDown_0_ok 13 (24, .iconst 1, 1) rfl
theorem dX1_burnDown_25 : decode cX1_burnDown 25 = .ok (.isub, 1) := dTX1_burnDown_0_ok 14 (25, .isub, 1) rfl
theorem dX1_burnDown_26 : decode cX1_burnDown 26 = .ok (.istore_n 2, 1) := dTX1_burnDown_0_ok 15 (26, .istore_n 2, 1) rfl
theorem dX1_burnDown_27 : decode cX1_burnDown 27 = .ok (.aload_n 0, 1) := dTX1_burnDown_0_ok 16 (27, .aload_n 0, 1) rfl
theorem dX1_burnDown_28 : decode cX1_burnDown 28 = .ok (.getfield 14, 3) := dTX1_burnDown_0_ok 17 (28, .getfield 14, 3) rfl
theorem dX1_burnDown_31 : decode cX1_burnDown 31 = .ok (.iload_n 1, 1) := dTX1_burnDown_0_ok 18 (31, .iload_n 1, 1) rfl
theorem dX1_burnDown_32 : decode cX1_burnDown 32 = .ok (.iload_n 2, 1) := dTX1_burnDown_0_ok 19 (32, .iload_n 2, 1) rfl
theorem dX1_burnDown_33 : decode cX1_burnDown 33 = .ok (.invokevirtual 73, 3) := dTX1_burnDown_0_ok 20 (33, .invokevirtual 73, 3) rfl
theorem dX1_burnDown_36 : decode cX1_burnDown 36 = .ok (.iload_n 2, 1) := dTX1_burnDown_0_ok 21 (36, .iload_n 2, 1) rfl
theorem dX1_burnDown_37 : decode cX1_burnDown 37 = .ok (.ifCond .gt 20, 3) := dTX1_burnDown_0_ok 22 (37, .ifCond .gt 20, 3) rfl
theorem dX1_burnDown_40 : decode cX1_burnDown 40 = .ok (.aload_n 0, 1) := dTX1_burnDown_0_ok 23 (40, .aload_n 0, 1) rfl
theorem dX1_burnDown_41 : decode cX1_burnDown 41 = .ok (.dup, 1) := dTX1_burnDown_0_ok 24 (41, .dup, 1) rfl
theorem dX1_burnDown_42 : decode cX1_burnDown 42 = .ok (.getfield 24, 3) := dTX1_burnDown_0_ok 25 (42, .getfield 24, 3) rfl
theorem dX1_burnDown_45 : decode cX1_burnDown 45 = .ok (.iload_n 1, 1) := dTX1_burnDown_0_ok 26 (45, .iload_n 1, 1) rfl
theorem dX1_burnDown_46 : decode cX1_burnDown 46 = .ok (.invokestatic 69, 3) := dTX1_burnDown_0_ok 27 (46, .invokestatic 69, 3) rfl
theorem dX1_burnDown_49 : decode cX1_burnDown 49 = .ok (.ldc2_w 80, 3) := dTX1_burnDown_0_ok 28 (49, .ldc2_w 80, 3) rfl
theorem dX1_burnDown_52 : decode cX1_burnDown 52 = .ok (.lxor, 1) := dTX1_burnDown_0_ok 29 (52, .lxor, 1) rfl
theorem dX1_burnDown_53 : decode cX1_burnDown 53 = .ok (.land, 1) := dTX1_burnDown_0_ok 30 (53, .land, 1) rfl
theorem dX1_burnDown_54 : decode cX1_burnDown 54 = .ok (.putfield 24, 3) := dTX1_burnDown_0_ok 31 (54, .putfield 24, 3) rfl
theorem dX1_burnDown_57 : decode cX1_burnDown 57 = .ok (.iinc 1 1, 3) := dTX1_burnDown_0_ok 32 (57, .iinc 1 1, 3) rfl
theorem dX1_burnDown_60 : decode cX1_burnDown 60 = .ok (.goto (-58), 3) := dTX1_burnDown_0_ok 33 (60, .goto (-58), 3) rfl
theorem dX1_burnDown_63 : decode cX1_burnDown 63 = .ok (.aload_n 0, 1) := dTX1_burnDown_0_ok 34 (63, .aload_n 0, 1) rfl
theorem dX1_burnDown_64 : decode cX1_burnDown 64 = .ok (.invokevirtual 77, 3) := dTX1_burnDown_0_ok 35 (64, .invokevirtual 77, 3) rfl
theorem dX1_burnDown_67 : decode cX1_burnDown 67 = .ok (.return_, 1) := dTX1_burnDown_0_ok 36 (67, .return_, 1) rfl
noncomputable def dTX1_blowOutAround_0 : List (Nat × Instr × Nat) := [(0, .iload_n 1, 1), (1, .invokestatic 69, 3), (4, .lstore_n 2, 1), (5, .aload_n 0, 1), (6, .dup, 1), (7, .getfield 24, 3), (10, .aload_n 0, 1), (11, .lload_n 2, 1), (12, .iconst 0, 1), (13, .invokevirtual 99, 3), (16, .aload_n 0, 1), (17, .lload_n 2, 1), (18, .iconst 1, 1), (19, .invokevirtual 99, 3), (22, .lor, 1), (23, .ldc2_w 80, 3), (26, .lxor, 1), (27, .land, 1), (28, .putfield 24, 3), (31, .aload_n 0, 1), (32, .invokevirtual 77, 3), (35, .return_, 1)]
theorem dTX1_blowOutAround_0_ok : ∀ (k : Nat) (q : Nat × Instr × Nat), dTX1_blowOutAround_0[k]? = some q → decode cX1_blowOutAround q.1 = .ok q.2 := dT_of (by decide +kernel)
theorem dX1_blowOutAround_0 : decode cX1_blowOutAround 0 = .ok (.iload_n 1, 1) := dTX1_blowOutAround_0_ok 0 (0, .iload_n 1, 1) rfl
theorem dX1_blowOutAround_1 : decode cX1_blowOutAround 1 = .ok (.invokestatic 69, 3) := dTX1_blowOutAround_0_ok 1 (1, .invokestatic 69, 3) rfl
theorem dX1_blowOutAround_4 : decode cX1_blowOutAround 4 = .ok (.lstore_n 2, 1) := dTX1_blowOutAround_0_ok 2 (4, .lstore_n 2, 1) rfl
theorem dX1_blowOutAround_5 : decode cX1_blowOutAround 5 = .ok (.aload_n 0, 1) := dTX1_blowOutAround_0_ok 3 (5, .aload_n 0, 1) rfl
theorem dX1_blowOutAround_6 : decode cX1_blowOutAround 6 = .ok (.dup, 1) := dTX1_blowOutAround_0_ok 4 (6, .dup, 1) rfl
theorem dX1_blowOutAround_7 : decode cX1_blowOutAround 7 = .ok (.getfield 24, 3) := dTX1_blowOutAround_0_ok 5 (7, .getfield 24, 3) rfl
theorem dX1_blowOutAround_10 : decode cX1_blowOutAround 10 = .ok (.aload_n 0, 1) := dTX1_blowOutAround_0_ok 6 (10, .aload_n 0, 1) rfl
theorem dX1_blowOutAround_11 : decode cX1_blowOutAround 11 = .ok (.lload_n 2, 1) := dTX1_blowOutAround_0_ok 7 (11, .lload_n 2, 1) rfl
theorem dX1_blowOutAround_12 : decode cX1_blowOutAround 12 = .ok (.iconst 0, 1) := dTX1_blowOutAround_0_ok 8 (12, .iconst 0, 1) rfl
theorem dX1_blowOutAround_13 : decode cX1_blowOutAround 13 = .ok (.invokevirtual 99, 3) := dTX1_blowOutAround_0_ok 9 (13, .invokevirtual 99, 3) rfl
theorem dX1_blowOutAround_16 : decode cX1_blowOutAround 16 = .ok (.aload_n 0, 1) := dTX1_blowOutAround_0_ok 10 (16, .aload_n 0, 1) rfl
theorem dX1_blowOutAround_17 : decode cX1_blowOutAround 17 = .ok (.lload_n 2, 1) := dTX1_blowOutAround_0_ok 11 (17, .lload_n 2, 1) rfl
theorem dX1_blowOutAround_18 : decode cX1_blowOutAround 18 = .ok (.iconst 1, 1) := dTX1_blowOutAround_0_ok 12 (18, .iconst 1, 1) rfl
theorem dX1_blowOutAround_19 : decode cX1_blowOutAround 19 = .ok (.invokevirtual 99, 3) := dTX1_blowOutAround_0_ok 13 (19, .invokevirtual 99, 3) rfl
theorem dX1_blowOutAround_22 : decode cX1_blowOutAround 22 = .ok (.lor, 1) := dTX1_blowOutAround_0_ok 14 (22, .lor, 1) rfl
theorem dX1_blowOutAround_23 : decode cX1_blowOutAround 23 = .ok (.ldc2_w 80, 3) := dTX1_blowOutAround_0_ok 15 (23, .ldc2_w 80, 3) rfl
theorem dX1_blowOutAround_26 : decode cX1_blowOutAround 26 = .ok (.lxor, 1) := dTX1_blowOutAround_0_ok 16 (26, .lxor, 1) rfl
theorem dX1_blowOutAround_27 : decode cX1_blowOutAround 27 = .ok (.land, 1) := dTX1_blowOutAround_0_ok 17 (27, .land, 1) rfl
theorem dX1_blowOutAround_28 : decode cX1_blowOutAround 28 = .ok (.putfield 24, 3) := dTX1_blowOutAround_0_ok 18 (28, .putfield 24, 3) rfl
theorem dX1_blowOutAround_31 : decode cX1_blowOutAround 31 = .ok (.aload_n 0, 1) := dTX1_blowOutAround_0_ok 19 (31, .aload_n 0, 1) rfl
theorem dX1_blowOutAround_32 : decode cX1_blowOutAround 32 = .ok (.invokevirtual 77, 3) := dTX1_blowOutAround_0_ok 20 (32, .invokevirtual 77, 3) rfl
theorem dX1_blowOutAround_35 : decode cX1_blowOutAround 35 = .ok (.return_, 1) := dTX1_blowOutAround_0_ok 21 (35, .return_, 1) rfl
noncomputable def dTX1_addMark_0 : List (Nat × Instr × Nat) := [(0, .aload_n 0, 1), (1, .getfield 14, 3), (4, .iload_n 1, 1), (5, .invokevirtual 59, 3), (8, .iconst 1, 1), (9, .iadd, 1), (10, .istore_n 2, 1), (11, .iload_n 2, 1), (12, .bipush 99, 2), (14, .if_icmp .le 5, 3), (17, .iconst 0, 1), (18, .istore_n 2, 1), (19, .iload_n 2, 1), (20, .bipush 13, 2), (22, .irem, 1), (23, .ifCond .ne 16, 3), (26, .iload_n 2, 1), (27, .bipush 10, 2), (29, .irem, 1), (30, .bipush 10, 2), (32, .imul, 1), (33, .iload_n 2, 1), (34, .bipush 10, 2), (36, .idiv, 1), (37, .iadd, 1), (38, .istore_n 2, 1), (39, .aload_n 0, 1), (40, .getfield 14, 3), (43, .iload_n 1, 1), (44, .iload_n 2, 1), (45, .invokevirtual 73, 3), (48, .return_, 1)]
theorem dTX1_addMark_0_ok : ∀ (k : Nat) (q : Nat × Instr × Nat), dTX1_addMark_0[k]? = some q → decode cX1_addMark q.1 = .ok q.2 := dT_of (by decide +kernel)
theorem dX1_addMark_0 : decode cX1_addMark 0 = .ok (.aload_n 0, 1) := dTX1_addMark_0_ok 0 (0, .aload_n 0, 1) rfl
theorem dX1_addMark_1 : decode cX1_addMark 1 = .ok (.getfield 14, 3) := dTX1_addMark_0_ok 1 (1, .getfield 14, 3) rfl
theorem dX1_addMark_4 : decode cX1_addMark 4 = .ok (.iload_n 1, 1) := dTX1_addMark_0_ok 2 (4, .iload_n 1, 1) rfl
theorem dX1_addMark_5 : decode cX1_addMark 5 = .ok (.invokevirtual 59, 3) := dTX1_addMark_0_ok 3 (5, .invokevirtual 59, 3) rfl
theorem dX1_addMark_8 : decode cX1_addMark 8 = .ok (.iconst 1, 1) := dTX1_addMark_0_ok 4 (8, .iconst 1, 1) rfl
theorem dX1_addMark_9 : decode cX1_addMark 9 = .ok (.iadd, 1) := dTX1_addMark_0_ok 5 (9, .iadd, 1) rfl
theorem dX1_addMark_10 : decode cX1_addMark 10 = .ok (.istore_n 2, 1) := dTX1_addMark_0_ok 6 (10, .istore_n 2, 1) rfl
theorem dX1_addMark_11 : decode cX1_addMark 11 = .ok (.iload_n 2, 1) := dTX1_addMark_0_ok 7 (11, .iload_n 2, 1) rfl
theorem dX1_addMark_12 : decode cX1_addMark 12 = .ok (.bipush 99, 2) := dTX1_addMark_0_ok 8 (12, .bipush 99, 2) rfl
theorem dX1_addMark_14 : decode cX1_addMark 14 = .ok (.if_icmp .le 5, 3) := dTX1_addMark_0_ok 9 (14, .if_icmp .le 5, 3) rfl
theorem dX1_addMark_17 : decode cX1_addMark 17 = .ok (.iconst 0, 1) := dTX1_addMark_0_ok 10 (17, .iconst 0, 1) rfl
theorem dX1_addMark_18 : decode cX1_addMark 18 = .ok (.istore_n 2, 1) := dTX1_addMark_0_ok 11 (18, .istore_n 2, 1) rfl
theorem dX1_addMark_19 : decode cX1_addMark 19 = .ok (.iload_n 2, 1) := dTX1_addMark_0_ok 12 (19, .iload_n 2, 1) rfl
theorem dX1_addMark_20 : decode cX1_addMark 20 = .ok (.bipush 13, 2) := dTX1_addMark_0_ok 13 (20, .bipush 13, 2) rfl
theorem dX1_addMark_22 : decode cX1_addMark 22 = .ok (.irem, 1) := dTX1_addMark_0_ok 14 (22, .irem, 1) rfl
theorem dX1_addMark_23 : decode cX1_addMark 23 = .ok (.ifCond .ne 16, 3) := dTX1_addMark_0_ok 15 (23, .ifCond .ne 16, 3) rfl
theorem dX1_addMark_26 : decode cX1_addMark 26 = .ok (.iload_n 2, 1) := dTX1_addMark_0_ok 16 (26, .iload_n 2, 1) rfl
theorem dX1_addMark_27 : decode cX1_addMark 27 = .ok (.bipush 10, 2) := dTX1_addMark_0_ok 17 (27, .bipush 10, 2) rfl
theorem dX1_addMark_29 : decode cX1_addMark 29 = .ok (.irem, 1) := dTX1_addMark_0_ok 18 (29, .irem, 1) rfl
theorem dX1_addMark_30 : decode cX1_addMark 30 = .ok (.bipush 10, 2) := dTX1_addMark_0_ok 19 (30, .bipush 10, 2) rfl
theorem dX1_addMark_32 : decode cX1_addMark 32 = .ok (.imul, 1) := dTX1_addMark_0_ok 20 (32, .imul, 1) rfl
theorem dX1_addMark_33 : decode cX1_addMark 33 = .ok (.iload_n 2, 1) := dTX1_addMark_0_ok 21 (33, .iload_n 2, 1) rfl
theorem dX1_addMark_34 : decode cX1_addMark 34 = .ok (.bipush 10, 2) := dTX1_addMark_0_ok 22 (34, .bipush 10, 2) rfl
theorem dX1_addMark_36 : decode cX1_addMark 36 = .ok (.idiv, 1) := dTX1_addMark_0_ok 23 (36, .idiv, 1) rfl
theorem dX1_addMark_37 : decode cX1_addMark 37 = .ok (.iadd, 1) := dTX1_addMark_0_ok 24 (37, .iadd, 1) rfl
theorem dX1_addMark_38 : decode cX1_addMark 38 = .ok (.istore_n 2, 1) := dTX1_addMark_0_ok 25 (38, .istore_n 2, 1) rfl
theorem dX1_addMark_39 : decode cX1_addMark 39 = .ok (.aload_n 0, 1) := dTX1_addMark_0_ok 26 (39, .aload_n 0, 1) rfl
theorem dX1_addMark_40 : decode cX1_addMark 40 = .ok (.getfield 14, 3) := dTX1_addMark_0_ok 27 (40, .getfield 14, 3) rfl
theorem dX1_addMark_43 : decode cX1_addMark 43 = .ok (.iload_n 1, 1) := dTX1_addMark_0_ok 28 (43, .iload_n 1, 1) rfl
theorem dX1_addMark_44 : decode cX1_addMark 44 = .ok (.iload_n 2, 1) := dTX1_addMark_0_ok 29 (44, .iload_n 2, 1) rfl
theorem dX1_addMark_45 : decode cX1_addMark 45 = .ok (.invokevirtual 73, 3) := dTX1_addMark_0_ok 30 (45, .invokevirtual 73, 3) rfl
theorem dX1_addMark_48 : decode cX1_addMark 48 = .ok (.return_, 1) := dTX1_addMark_0_ok 31 (48, .return_, 1) rfl
noncomputable def dTX2_init_0 : List (Nat × Instr × Nat) := [(0, .aload_n 0, 1), (1, .invokespecial 3, 3), (4, .aload_n 0, 1), (5, .new 9, 3), (8, .dup, 1), (9, .invokespecial 11, 3), (12, .putfield 12, 3), (15, .aload_n 0, 1), (16, .new 18, 3), (19, .dup, 1), (20, .invokespecial 20, 3), (23, .putfield 21, 3), (26, .aload_n 0, 1), (27, .new 25, 3), (30, .dup, 1), (31, .bipush 48, 2), (33, .invokespecial 27, 3), (36, .putfield 30, 3), (39, .return_, 1)]
theorem dTX2_init_0_ok : ∀ (k : Nat) (q : Nat × Instr × Nat), dTX2_init_0[k]? = some q → decode cX2_init q.1 = .ok q.2 := dT_of (by decide +kernel)
theorem dX2_init_0 : decode cX2_init 0 = .ok (.aload_n 0, 1) := dTX2_init_0_ok 0 (0, .aload_n 0, 1) rfl
theorem dX2_init_1 : decode cX2_init 1 = .ok (.invokespecial 3, 3) := dTX2_init_0_ok 1 (1, .invokespecial 3, 3) rfl
theorem dX2_init_4 : decode cX2_init 4 = .ok (.aload_n 0, 1) := dTX2_init_0_ok 2 (4, .aload_n 0, 1) rfl
theorem dX2_init_5 : decode cX2_init 5 = .ok (.new 9, 3) := dTX2_init_0_ok 3 (5, .new 9, 3) rfl
theorem dX2_init_8 : decode cX2_init 8 = .ok (.dup, 1) := dTX2_init_0_ok 4 (8, .dup, 1) rfl
theorem dX2_init_9 : decode cX2_init 9 = .ok (.invokespecial 11, 3) := dTX2_init_0_ok 5 (9, .invokespecial 11, 3) rfl
theorem dX2_init_12 : decode cX2_init 12 = .ok (.putfield 12, 3) := dTX2_init_0_ok 6 (12, .putfield 12, 3) rfl
theorem dX2_init_15 : decode cX2_init 15 = .ok (.aload_n 0, 1) := dTX2_init_0_ok 7 (15, .aload_n 0, 1) rfl
theorem dX2_init_16 : decode cX2_init 16 = .ok (.new 18, 3) := dTX2_init_0_ok 8 (16, .new 18, 3) rfl
theorem dX2_init_19 : decode cX2_init 19 = .ok (.dup, 1) := dTX2_init_0_ok 9 (19, .dup, 1) rfl
theorem dX2_init_20 : decode cX2_init 20 = .ok (.invokespecial 20, 3) := dTX2_init_0_ok 10 (20, .invokespecial 20, 3) rfl
theorem dX2_init_23 : decode cX2_init 23 = .ok (.putfield 21, 3) := dTX2_init_0_ok 11 (23, .putfield 21, 3) rfl
theorem dX2_init_26 : decode cX2_init 26 = .ok (.aload_n 0, 1) := dTX2_init_0_ok 12 (26, .aload_n 0, 1) rfl
theorem dX2_init_27 : decode cX2_init 27 = .ok (.new 25, 3) := dTX2_init_0_ok 13 (27, .new 25, 3) rfl
theorem dX2_init_30 : decode cX2_init 30 = .ok (.dup, 1) := dTX2_init_0_ok 14 (30, .dup, 1) rfl
theorem dX2_init_31 : decode cX2_init 31 = .ok (.bipush 48, 2) := dTX2_init_0_ok 15 (31, .bipush 48, 2) rfl
theorem dX2_init_33 : decode cX2_init 33 = .ok (.invokespecial 27, 3) := dTX2_init_0_ok 16 (33, .invokespecial 27, 3) rfl
theorem dX2_init_36 : decode cX2_init 36 = .ok (.putfield 30, 3) := dTX2_init_0_ok 17 (36, .putfield 30, 3) rfl
theorem dX2_init_39 : decode cX2_init 39 = .ok (.return_, 1) := dTX2_init_0_ok 18 (39, .return_, 1) rfl
noncomputable def dTX2_copyFrom_0 : List (Nat × Instr × Nat) := [(0, .aload_n 0, 1), (1, .getfield 12, 3), (4, .aload_n 1, 1), (5, .getfield 12, 3), (8, .invokevirtual 34, 3), (11, .aload_n 0, 1), (12, .getfield 30, 3), (15, .aload_n 1, 1), (16, .getfield 30, 3), (19, .invokevirtual 38, 3), (22, .aload_n 0, 1), (23, .aload_n 1, 1), (24, .getfield 41, 3), (27, .putfield 41, 3), (30, .aload_n 0, 1), (31, .aload_n 1, 1), (32, .getfield 45, 3), (35, .putfield 45, 3), (38, .return_, 1)]
theorem dTX2_copyFrom_0_ok : ∀ (k : Nat) (q : Nat × Instr × Nat), dTX2_copyFrom_0[k]? = some q → decode cX2_copyFrom q.1 = .ok q.2 := dT_of (by decide +kernel)
theorem dX2_copyFrom_0 : decode cX2_copyFrom 0 = .ok (.aload_n 0, 1) := dTX2_copyFrom_0_ok 0 (0, .aload_n 0, 1) rfl
theorem dX2_copyFrom_1 : decode cX2_copyFrom 1 = .ok (.getfield 12, 3) := dTX2_copyFrom_0_ok 1 (1, .getfield 12, 3) rfl
theorem dX2_copyFrom_4 : decode cX2_copyFrom 4 = .ok (.aload_n 1, 1) := dTX2_copyFrom_0_ok 2 (4, .aload_n 1, 1) rfl
theorem dX2_copyFrom_5 : decode cX2_copyFrom 5 = .ok (.getfield 12, 3) := dTX2_copyFrom_0_ok 3 (5, .getfield 12, 3) rfl
theorem dX2_copyFrom_8 : decode cX2_copyFrom 8 = .ok (.invokevirtual 34, 3) := dTX2_copyFrom_0_ok 4 (8, .invokevirtual 34, 3) rfl
theorem dX2_copyFrom_11 : decode cX2_copyFrom 11 = .ok (.aload_n 0, 1) := dTX2_copyFrom_0_ok 5 (11, .aload_n 0, 1) rfl
theorem dX2_copyFrom_12 : decode cX2_copyFrom 12 = .ok (.getfield 30, 3) := dTX2_copyFrom_0_ok 6 (12, .getfield 30, 3) rfl
theorem dX2_copyFrom_15 : decode cX2_copyFrom 15 = .ok (.aload_n 1, 1) := dTX2_copyFrom_0_ok 7 (15, .aload_n 1, 1) rfl
theorem dX2_copyFrom_16 : decode cX2_copyFrom 16 = .ok (.getfield 30, 3) := dTX2_copyFrom_0_ok 8 (16, .getfield 30, 3) rfl
theorem dX2_copyFrom_19 : decode cX2_copyFrom 19 = .ok (.invokevirtual 38, 3) := dTX2_copyFrom_0_ok 9 (19, .invokevirtual 38, 3) rfl
theorem dX2_copyFrom_22 : decode cX2_copyFrom 22 = .ok (.aload_n 0, 1) := dTX2_copyFrom_0_ok 10 (22, .aload_n 0, 1) rfl
theorem dX2_copyFrom_23 : decode cX2_copyFrom 23 = .ok (.aload_n 1, 1) := dTX2_copyFrom_0_ok 11 (23, .aload_n 1, 1) rfl
theorem dX2_copyFrom_24 : decode cX2_copyFrom 24 = .ok (.getfield 41, 3) := dTX2_copyFrom_0_ok 12 (24, .getfield 41, 3) rfl
theorem dX2_copyFrom_27 : decode cX2_copyFrom 27 = .ok (.putfield 41, 3) := dTX2_copyFrom_0_ok 13 (27, .putfield 41, 3) rfl
theorem dX2_copyFrom_30 : decode cX2_copyFrom 30 = .ok (.aload_n 0, 1) := dTX2_copyFrom_0_ok 14 (30, .aload_n 0, 1) rfl
theorem dX2_copyFrom_31 : decode cX2_copyFrom 31 = .ok (.aload_n 1, 1) := dTX2_copyFrom_0_ok 15 (31, .aload_n 1, 1) rfl
theorem dX2_copyFrom_32 : decode cX2_copyFrom 32 = .ok (.getfield 45, 3) := dTX2_copyFrom_0_ok 16 (32, .getfield 45, 3) rfl
theorem dX2_copyFrom_35 : decode cX2_copyFrom 35 = .ok (.putfield 45, 3) := dTX2_copyFrom_0_ok 17 (35, .putfield 45, 3) rfl
theorem dX2_copyFrom_38 : decode cX2_copyFrom 38 = .ok (.return_, 1) := dTX2_copyFrom_0_ok 18 (38, .return_, 1) rfl
noncomputable def dTX2_trait_0 : List (Nat × Instr × Nat) := [(0, .aload_n 0, 1), (1, .getfield 30, 3), (4, .iload_n 1, 1), (5, .bipush 8, 2), (7, .imul, 1), (8, .iload_n 2, 1), (9, .iadd, 1), (10, .invokevirtual 48, 3), (13, .ireturn, 1)]
theorem dTX2_trait_0_ok : ∀ (k : Nat) (q : Nat × Instr × Nat), dTX2_trait_0[k]? = some q → decode cX2_trait q.1 = .ok q.2 := dT_of (by decide +kernel)
theorem dX2_trait_0 : decode cX2_trait 0 = .ok (.aload_n 0, 1) := dTX2_trait_0_ok 0 (0, .aload_n 0, 1) rfl
theorem dX2_trait_1 : decode cX2_trait 1 = .ok (.getfield 30, 3) := dTX2_trait_0_ok 1 (1, .getfield 30, 3) rfl
theorem dX2_trait_4 : decode cX2_trait 4 = .ok (.iload_n 1, 1) := dTX2_trait_0_ok 2 (4, .iload_n 1, 1) rfl
theorem dX2_trait_5 : decode cX2_trait 5 = .ok (.bipush 8, 2) := dTX2_trait_0_ok 3 (5, .bipush 8, 2) rfl
theorem dX2_trait_7 : decode cX2_trait 7 = .ok (.imul, 1) := dTX2_trait_0_ok 4 (7, .imul, 1) rfl
theorem dX2_trait_8 : decode cX2_trait 8 = .ok (.iload_n 2, 1) := dTX2_trait_0_ok 5 (8, .iload_n 2, 1) rfl
theorem dX2_trait_9 : decode cX2_trait 9 = .ok (.iadd, 1) := dTX2_trait_0_ok 6 (9, .iadd, 1) rfl
theorem dX2_trait_10 : decode cX2_trait 10 = .ok (.invokevirtual 48, 3) := dTX2_trait_0_ok 7 (10, .invokevirtual 48, 3) rfl
theorem dX2_trait_13 : decode cX2_trait 13 = .ok (.ireturn, 1) := dTX2_trait_0_ok 8 (13, .ireturn, 1) rfl
noncomputable def dTX2_setTrait_0 : List (Nat × Instr × Nat) := [(0, .aload_n 0, 1), (1, .getfield 30, 3), (4, .iload_n 1, 1), (5, .bipush 8, 2), (7, .imul, 1), (8, .iload_n 2, 1), (9, .iadd, 1), (10, .iload_n 3, 1), (11, .invokevirtual 52, 3), (14, .return_, 1)]
theorem dTX2_setTrait_0_ok : ∀ (k : Nat) (q : Nat × Instr × Nat), dTX2_setTrait_0[k]? = some q → decode cX2_setTrait q.1 = .ok q.2 := dT_of (by decide +kernel)
theorem dX2_setTrait_0 : decode cX2_setTrait 0 = .ok (.aload_n 0, 1) := dTX2_setTrait_0_ok 0 (0, .aload_n 0, 1) rfl
theorem dX2_setTrait_1 : decode cX2_setTrait 1 = .ok (.getfield 30, 3) := dTX2_setTrait_0_ok 1 (1, .getfield 30, 3) rfl
theorem dX2_setTrait_4 : decode cX2_setTrait 4 = .ok (.iload_n 1, 1) := dTX2_setTrait_0_ok 2 (4, .iload_n 1, 1) rfl
theorem dX2_setTrait_5 : decode cX2_setTrait 5 = .ok (.bipush 8, 2) := dTX2_setTrait_0_ok 3 (5, .bipush 8, 2) rfl
theorem dX2_setTrait_7 : decode cX2_setTrait 7 = .ok (.imul, 1) := dTX2_setTrait_0_ok 4 (7, .imul, 1) rfl
theorem dX2_setTrait_8 : decode cX2_setTrait 8 = .ok (.iload_n 2, 1) := dTX2_setTrait_0_ok 5 (8, .iload_n 2, 1) rfl
theorem dX2_setTrait_9 : decode cX2_setTrait 9 = .ok (.iadd, 1) := dTX2_setTrait_0_ok 6 (9, .iadd, 1) rfl
theorem dX2_setTrait_10 : decode cX2_setTrait 10 = .ok (.iload_n 3, 1) := dTX2_setTrait_0_ok 7 (10, .iload_n 3, 1) rfl
theorem dX2_setTrait_11 : decode cX2_setTrait 11 = .ok (.invokevirtual 52, 3) := dTX2_setTrait_0_ok 8 (11, .invokevirtual 52, 3) rfl
theorem dX2_setTrait_14 : decode cX2_setTrait 14 = .ok (.return_, 1) := dTX2_setTrait_0_ok 9 (14, .return_, 1) rfl
noncomputable def dTX2_sumOfTrait_0 : List (Nat × Instr × Nat) := [(0, .iconst 0, 1), (1, .istore_n 2, 1), (2, .iconst 0, 1), (3, .istore_n 3, 1), (4, .iload_n 3, 1), (5, .aload_n 0, 1), (6, .getfield 41, 3), (9, .if_icmp .ge 18, 3), (12, .iload_n 2, 1), (13, .aload_n 0, 1), (14, .iload_n 3, 1), (15, .iload_n 1, 1), (16, .invokevirtual 56, 3), (19, .iadd, 1), (20, .istore_n 2, 1), (21, .iinc 3 1, 3), (24, .goto (-20), 3), (27, .iload_n 2, 1), (28, .ireturn, 1)]
theorem dTX2_sumOfTrait_0_ok : ∀ (k : Nat) (q : Nat × Instr × Nat), dTX2_sumOfTrait_0[k]? = some q → decode cX2_sumOfTrait q.1 = .ok q.2 := dT_of (by decide +kernel)
theorem dX2_sumOfTrait_0 : decode cX2_sumOfTrait 0 = .ok (.iconst 0, 1) := dTX2_sumOfTrait_0_ok 0 (0, .iconst 0, 1) rfl
theorem dX2_sumOfTrait_1 : decode cX2_sumOfTrait 1 = .ok (.istore_n 2, 1) := dTX2_sumOfTrait_0_ok 1 (1, .istore_n 2, 1) rfl
theorem dX2_sumOfTrait_2 : decode cX2_sumOfTrait 2 = .ok (.iconst 0, 1) := dTX2_sumOfTrait_0_ok 2 (2, .iconst 0, 1) rfl
theorem dX2_sumOfTrait_3 : decode cX2_sumOfTrait 3 = .ok (.istore_n 3, 1) := dTX2_sumOfTrait_0_ok 3 (3, .istore_n 3, 1) rfl
theorem dX2_sumOfTrait_4 : decode cX2_sumOfTrait 4 = .ok (.iload_n 3, 1) := dTX2_sumOfTrait_0_ok 4 (4, .iload_n 3, 1) rfl
theorem dX2_sumOfTrait_5 : decode cX2_sumOfTrait 5 = .ok (.aload_n 0, 1) := dTX2_sumOfTrait_0_ok 5 (5, .aload_n 0, 1) rfl
theorem dX2_sumOfTrait_6 : decode cX2_sumOfTrait 6 = .ok (.getfield 41, 3) := dTX2_sumOfTrait_0_ok 6 (6, .getfield 41, 3) rfl
theorem dX2_sumOfTrait_9 : decode cX2_sumOfTrait 9 = .ok (.if_icmp .ge 18, 3) := dTX2_sumOfTrait_0_ok 7 (9, .if_icmp .ge 18, 3) rfl
theorem dX2_sumOfTrait_12 : decode cX2_sumOfTrait 12 = .ok (.iload_n 2, 1) := dTX2_sumOfTrait_0_ok 8 (12, .iload_n 2, 1) rfl
theorem dX2_sumOfTrait_13 : decode cX2_sumOfTrait 13 = .ok (.aload_n 0, 1) := dTX2_sumOfTrait_0_ok 9 (13, .aload_n 0, 1) rfl
theorem dX2_sumOfTrait_14 : decode cX2_sumOfTrait 14 = .ok (.iload_n 3, 1) := dTX2_sumOfTrait_0_ok 10 (14, .iload_n 3, 1) rfl
theorem dX2_sumOfTrait_15 : decode cX2_sumOfTrait 15 = .ok (.iload_n 1, 1) := dTX2_sumOfTrait_0_ok 11 (15, .iload_n 1, 1) rfl
theorem dX2_sumOfTrait_16 : decode cX2_sumOfTrait 16 = .ok (.invokevirtual 56, 3) := dTX2_sumOfTrait_0_ok 12 (16, .invokevirtual 56, 3) rfl
theorem dX2_sumOfTrait_19 : decode cX2_sumOfTrait 19 = .ok (.iadd, 1) := dTX2_sumOfTrait_0_ok 13 (19, .iadd, 1) rfl
theorem dX2_sumOfTrait_20 : decode cX2_sumOfTrait 20 = .ok (.istore_n 2, 1) := dTX2_sumOfTrait_0_ok 14 (20, .istore_n 2, 1) rfl
theorem dX2_sumOfTrait_21 : decode cX2_sumOfTrait 21 = .ok (.iinc 3 1, 3) := dTX2_sumOfTrait_0_ok 15 (21, .iinc 3 1, 3) rfl
theorem dX2_sumOfTrait_24 : decode cX2_sumOfTrait 24 = .ok (.goto (-20), 3) := dTX2_sumOfTrait_0_ok 16 (24, .goto (-20), 3) rfl
theorem dX2_sumOfTrait_27 : decode cX2_sumOfTrait 27 = .ok (.iload_n 2, 1) := dTX2_sumOfTrait_0_ok 17 (27, .iload_n 2, 1) rfl
theorem dX2_sumOfTrait_28 : decode cX2_sumOfTrait 28 = .ok (.ireturn, 1) := dTX2_sumOfTrait_0_ok 18 (28, .ireturn, 1) rfl
noncomputable def dTX2_mayPass_0 : List (Nat × Instr × Nat) := [(0, .aload_n 0, 1), (1, .iload_n 1, 1), (2, .iconst 5, 1), (3, .invokevirtual 56, 3), (6, .iconst 1, 1), (7, .if_icmp .ne 7, 3), (10, .iconst 1, 1), (11, .goto 4, 3), (14, .iconst 0, 1), (15, .ireturn, 1)]
theorem dTX2_mayPass_0_ok : ∀ (k : Nat) (q : Nat × Instr × Nat), dTX2_mayPass_0[k]? = some q → decode cX2_mayPass q.1 = .ok q.2 := dT_of (by decide +kernel)
theorem dX2_mayPass_0 : decode cX2_mayPass 0 = .ok (.aload_n 0, 1) := dTX2_mayPass_0_ok 0 (0, .aload_n 0, 1) rfl
theorem dX2_mayPass_1 : decode cX2_mayPass 1 = .ok (.iload_n 1, 1) := dTX2_mayPass_0_ok 1 (1, .iload_n 1, 1) rfl
theorem dX2_mayPass_2 : decode cX2_mayPass 2 = .ok (.iconst 5, 1) := dTX2_mayPass_0_ok 2 (2, .iconst 5, 1) rfl
theorem dX2_mayPass_3 : decode cX2_mayPass 3 = .ok (.invokevirtual 56, 3) := dTX2_mayPass_0_ok 3 (3, .invokevirtual 56, 3) rfl
theorem dX2_mayPass_6 : decode cX2_mayPass 6 = .ok (.iconst 1, 1) := dTX2_mayPass_0_ok 4 (6, .iconst 1, 1) rfl
theorem dX2_mayPass_7 : decode cX2_mayPass 7 = .ok (.if_icmp .ne 7, 3) := dTX2_mayPass_0_ok 5 (7, .if_icmp .ne 7, 3) rfl
theorem dX2_mayPass_10 : decode cX2_mayPass 10 = .ok (.iconst 1, 1) := dTX2_mayPass_0_ok 6 (10, .iconst 1, 1) rfl
theorem dX2_mayPass_11 : decode cX2_mayPass 11 = .ok (.goto 4, 3) := dTX2_mayPass_0_ok 7 (11, .goto 4, 3) rfl
theorem dX2_mayPass_14 : decode cX2_mayPass 14 = .ok (.iconst 0, 1) := dTX2_mayPass_0_ok 8 (14, .iconst 0, 1) rfl
theorem dX2_mayPass_15 : decode cX2_mayPass 15 = .ok (.ireturn, 1) := dTX2_mayPass_0_ok 9 (15, .ireturn, 1) rfl
noncomputable def dTX2_cellOf_0 : List (Nat × Instr × Nat) := [(0, .bipush 9, 2), (2, .aload_n 0, 1), (3, .iload_n 1, 1), (4, .iconst 1, 1), (5, .invokevirtual 56, 3), (8, .imul, 1), (9, .aload_n 0, 1), (10, .iload_n 1, 1), (11, .iconst 0, 1), (12, .invokevirtual 56, 3), (15, .iadd, 1), (16, .ireturn, 1)]
theorem dTX2_cellOf_0_ok : ∀ (k : Nat) (q : Nat × Instr × Nat), dTX2_cellOf_0[k]? = some q → decode cX2_cellOf q.1 = .ok q.2 := dT_of (by decide +kernel)
theorem dX2_cellOf_0 : decode cX2_cellOf 0 = .ok (.bipush 9, 2) := dTX2_cellOf_0_ok 0 (0, .bipush 9, 2) rfl
theorem dX2_cellOf_2 : decode cX2_cellOf 2 = .ok (.aload_n 0, 1) := dTX2_cellOf_0_ok 1 (2, .aload_n 0, 1) rfl
theorem dX2_cellOf_3 : decode cX2_cellOf 3 = .ok (.iload_n 1, 1) := dTX2_cellOf_0_ok 2 (3, .iload_n 1, 1) rfl
theorem dX2_cellOf_4 : decode cX2_cellOf 4 = .ok (.iconst 1, 1) := dTX2_cellOf_0_ok 3 (4, .iconst 1, 1) rfl
theorem dX2_cellOf_5 : decode cX2_cellOf 5 = .ok (.invokevirtual 56, 3) := dTX2_cellOf_0_ok 4 (5, .invokevirtual 56, 3) rfl
theorem dX2_cellOf_8 : decode cX2_cellOf 8 = .ok (.imul, 1) := dTX2_cellOf_0_ok 5 (8, .imul, 1) rfl
theorem dX2_cellOf_9 : decode cX2_cellOf 9 = .ok (.aload_n 0, 1) := dTX2_cellOf_0_ok 6 (9, .aload_n 0, 1) rfl
theorem dX2_cellOf_10 : decode cX2_cellOf 10 = .ok (.iload_n 1, 1) := dTX2_cellOf_0_ok 7 (10, .iload_n 1, 1) rfl
theorem dX2_cellOf_11 : decode cX2_cellOf 11 = .ok (.iconst 0, 1) := dTX2_cellOf_0_ok 8 (11, .iconst 0, 1) rfl
theorem dX2_cellOf_12 : decode cX2_cellOf 12 = .ok (.invokevirtual 56, 3) := dTX2_cellOf_0_ok 9 (12, .invokevirtual 56, 3) rfl
theorem dX2_cellOf_15 : decode cX2_cellOf 15 = .ok (.iadd, 1) := dTX2_cellOf_0_ok 10 (15, .iadd, 1) rfl
theorem dX2_cellOf_16 : decode cX2_cellOf 16 = .ok (.ireturn, 1) := dTX2_cellOf_0_ok 11 (16, .ireturn, 1) rfl
noncomputable def dTX2_goalOf_0 : List (Nat × Instr × Nat) := [(0, .bipush 9, 2), (2, .aload_n 0, 1), (3, .iload_n 1, 1), (4, .iconst 4, 1), (5, .invokevirtual 56, 3), (8, .imul, 1), (9, .aload_n 0, 1), (10, .iload_n 1, 1), (11, .iconst 3, 1), (12, .invokevirtual 56, 3), (15, .iadd, 1), (16, .ireturn, 1)]
theorem dTX2_goalOf_0_ok : ∀ (k : Nat) (q : Nat × Instr × Nat), dTX2_goalOf_0[k]? = some q → decode cX2_goalOf q.1 = .ok q.2 := dT_of (by decide +kernel)
theorem dX2_goalOf_0 : decode cX2_goalOf 0 = .ok (.bipush 9, 2) := dTX2_goalOf_0_ok 0 (0, .bipush 9, 2) rfl
theorem dX2_goalOf_2 : decode cX2_goalOf 2 = .ok (.aload_n 0, 1) := dTX2_goalOf_0_ok 1 (2, .aload_n 0, 1) rfl
theorem dX2_goalOf_3 : decode cX2_goalOf 3 = .ok (.iload_n 1, 1) := dTX2_goalOf_0_ok 2 (3, .iload_n 1, 1) rfl
theorem dX2_goalOf_4 : decode cX2_goalOf 4 = .ok (.iconst 4, 1) := dTX2_goalOf_0_ok 3 (4, .iconst 4, 1) rfl
theorem dX2_goalOf_5 : decode cX2_goalOf 5 = .ok (.invokevirtual 56, 3) := dTX2_goalOf_0_ok 4 (5, .invokevirtual 56, 3) rfl
theorem dX2_goalOf_8 : decode cX2_goalOf 8 = .ok (.imul, 1) := dTX2_goalOf_0_ok 5 (8, .imul, 1) rfl
theorem dX2_goalOf_9 : decode cX2_goalOf 9 = .ok (.aload_n 0, 1) := dTX2_goalOf_0_ok 6 (9, .aload_n 0, 1) rfl
theorem dX2_goalOf_10 : decode cX2_goalOf 10 = .ok (.iload_n 1, 1) := dTX2_goalOf_0_ok 7 (10, .iload_n 1, 1) rfl
theorem dX2_goalOf_11 : decode cX2_goalOf 11 = .ok (.iconst 3, 1) := dTX2_goalOf_0_ok 8 (11, .iconst 3, 1) rfl
theorem dX2_goalOf_12 : decode cX2_goalOf 12 = .ok (.invokevirtual 56, 3) := dTX2_goalOf_0_ok 9 (12, .invokevirtual 56, 3) rfl
theorem dX2_goalOf_15 : decode cX2_goalOf 15 = .ok (.iadd, 1) := dTX2_goalOf_0_ok 10 (15, .iadd, 1) rfl
theorem dX2_goalOf_16 : decode cX2_goalOf 16 = .ok (.ireturn, 1) := dTX2_goalOf_0_ok 11 (16, .ireturn, 1) rfl
noncomputable def dTX2_setCell_0 : List (Nat × Instr × Nat) := [(0, .aload_n 0, 1), (1, .iload_n 1, 1), (2, .iconst 0, 1), (3, .iload_n 2, 1), (4, .bipush 9, 2), (6, .irem, 1), (7, .invokevirtual 60, 3), (10, .aload_n 0, 1), (11, .iload_n 1, 1), (12, .iconst 1, 1), (13, .iload_n 2, 1), (14, .bipush 9, 2), (16, .idiv, 1), (17, .invokevirtual 60, 3), (20, .return_, 1)]
theorem dTX2_setCell_0_ok : ∀ (k : Nat) (q : Nat × Instr × Nat), dTX2_setCell_0[k]? = some q → decode cX2_setCell q.1 = .ok q.2 := dT_of (by decide +kernel)
theorem dX2_setCell_0 : decode cX2_setCell 0 = .ok (.aload_n 0, 1) := dTX2_setCell_0_ok 0 (0, .aload_n 0, 1) rfl
theorem dX2_setCell_1 : decode cX2_setCell 1 = .ok (.iload_n 1, 1) := dTX2_setCell_0_ok 1 (1, .iload_n 1, 1) rfl
theorem dX2_setCell_2 : decode cX2_setCell 2 = .ok (.iconst 0, 1) := dTX2_setCell_0_ok 2 (2, .iconst 0, 1) rfl
theorem dX2_setCell_3 : decode cX2_setCell 3 = .ok (.iload_n 2, 1) := dTX2_setCell_0_ok 3 (3, .iload_n 2, 1) rfl
theorem dX2_setCell_4 : decode cX2_setCell 4 = .ok (.bipush 9, 2) := dTX2_setCell_0_ok 4 (4, .bipush 9, 2) rfl
theorem dX2_setCell_6 : decode cX2_setCell 6 = .ok (.irem, 1) := dTX2_setCell_0_ok 5 (6, .irem, 1) rfl
theorem dX2_setCell_7 : decode cX2_setCell 7 = .ok (.invokevirtual 60, 3) := dTX2_setCell_0_ok 6 (7, .invokevirtual 60, 3) rfl
theorem dX2_setCell_10 : decode cX2_setCell 10 = .ok (.aload_n 0, 1) := dTX2_setCell_0_ok 7 (10, .aload_n 0, 1) rfl
theorem dX2_setCell_11 : decode cX2_setCell 11 = .ok (.iload_n 1, 1) := dTX2_setCell_0_ok 8 (11, .iload_n 1, 1) rfl
theorem dX2_setCell_12 : decode cX2_setCell 12 = .ok (.iconst 1, 1) := dTX2_setCell_0_ok 9 (12, .iconst 1, 1) rfl
theorem dX2_setCell_13 : decode cX2_setCell 13 = .ok (.iload_n 2, 1) := dTX2_setCell_0_ok 10 (13, .iload_n 2, 1) rfl
theorem dX2_setCell_14 : decode cX2_setCell 14 = .ok (.bipush 9, 2) := dTX2_setCell_0_ok 11 (14, .bipush 9, 2) rfl
theorem dX2_setCell_16 : decode cX2_setCell 16 = .ok (.idiv, 1) := dTX2_setCell_0_ok 12 (16, .idiv, 1) rfl
theorem dX2_setCell_17 : decode cX2_setCell 17 = .ok (.invokevirtual 60, 3) := dTX2_setCell_0_ok 13 (17, .invokevirtual 60, 3) rfl
theorem dX2_setCell_20 : decode cX2_setCell 20 = .ok (.return_, 1) := dTX2_setCell_0_ok 14 (20, .return_, 1) rfl
noncomputable def dTX2_setGoal_0 : List (Nat × Instr × Nat) := [(0, .aload_n 0, 1), (1, .iload_n 1, 1), (2, .iconst 3, 1), (3, .iload_n 2, 1), (4, .bipush 9, 2), (6, .irem, 1), (7, .invokevirtual 60, 3), (10, .aload_n 0, 1), (11, .iload_n 1, 1), (12, .iconst 4, 1), (13, .iload_n 2, 1), (14, .bipush 9, 2), (16, .idiv, 1), (17, .invokevirtual 60, 3), (20, .return_, 1)]
theorem dTX2_setGoal_0_ok : ∀ (k : Nat) (q : Nat × Instr × Nat), dTX2_setGoal_0[k]? = some q → decode cX2_setGoal q.1 = .ok q.2 := dT_of (by decide +kernel)
theorem dX2_setGoal_0 : decode cX2_setGoal 0 = .ok (.aload_n 0, 1) := dTX2_setGoal_0_ok 0 (0, .aload_n 0, 1) rfl
theorem dX2_setGoal_1 : decode cX2_setGoal 1 = .ok (.iload_n 1, 1) := dTX2_setGoal_0_ok 1 (1, .iload_n 1, 1) rfl
theorem dX2_setGoal_2 : decode cX2_setGoal 2 = .ok (.iconst 3, 1) := dTX2_setGoal_0_ok 2 (2, .iconst 3, 1) rfl
theorem dX2_setGoal_3 : decode cX2_setGoal 3 = .ok (.iload_n 2, 1) := dTX2_setGoal_0_ok 3 (3, .iload_n 2, 1) rfl
theorem dX2_setGoal_4 : decode cX2_setGoal 4 = .ok (.bipush 9, 2) := dTX2_setGoal_0_ok 4 (4, .bipush 9, 2) rfl
theorem dX2_setGoal_6 : decode cX2_setGoal 6 = .ok (.irem, 1) := dTX2_setGoal_0_ok 5 (6, .irem, 1) rfl
theorem dX2_setGoal_7 : decode cX2_setGoal 7 = .ok (.invokevirtual 60, 3) := dTX2_setGoal_0_ok 6 (7, .invokevirtual 60, 3) rfl
theorem dX2_setGoal_10 : decode cX2_setGoal 10 = .ok (.aload_n 0, 1) := dTX2_setGoal_0_ok 7 (10, .aload_n 0, 1) rfl
theorem dX2_setGoal_11 : decode cX2_setGoal 11 = .ok (.iload_n 1, 1) := dTX2_setGoal_0_ok 8 (11, .iload_n 1, 1) rfl
theorem dX2_setGoal_12 : decode cX2_setGoal 12 = .ok (.iconst 4, 1) := dTX2_setGoal_0_ok 9 (12, .iconst 4, 1) rfl
theorem dX2_setGoal_13 : decode cX2_setGoal 13 = .ok (.iload_n 2, 1) := dTX2_setGoal_0_ok 10 (13, .iload_n 2, 1) rfl
theorem dX2_setGoal_14 : decode cX2_setGoal 14 = .ok (.bipush 9, 2) := dTX2_setGoal_0_ok 11 (14, .bipush 9, 2) rfl
theorem dX2_setGoal_16 : decode cX2_setGoal 16 = .ok (.idiv, 1) := dTX2_setGoal_0_ok 12 (16, .idiv, 1) rfl
theorem dX2_setGoal_17 : decode cX2_setGoal 17 = .ok (.invokevirtual 60, 3) := dTX2_setGoal_0_ok 13 (17, .invokevirtual 60, 3) rfl
theorem dX2_setGoal_20 : decode cX2_setGoal 20 = .ok (.return_, 1) := dTX2_setGoal_0_ok 14 (20, .return_, 1) rfl
noncomputable def dTX2_addGhost_0 : List (Nat × Instr × Nat) := [(0, .aload_n 0, 1), (1, .getfield 41, 3), (4, .istore_n 3, 1), (5, .aload_n 0, 1), (6, .iload_n 3, 1), (7, .iload_n 1, 1), (8, .invokevirtual 64, 3), (11, .aload_n 0, 1), (12, .iload_n 3, 1), (13, .iload_n 1, 1), (14, .invokevirtual 67, 3), (17, .aload_n 0, 1), (18, .iload_n 3, 1), (19, .iconst 2, 1), (20, .iload_n 2, 1), (21, .invokevirtual 60, 3), (24, .aload_n 0, 1), (25, .iload_n 3, 1), (26, .iconst 5, 1), (27, .iconst 1, 1), (28, .invokevirtual 60, 3), (31, .aload_n 0, 1), (32, .dup, 1), (33, .getfield 41, 3), (36, .iconst 1, 1), (37, .iadd, 1), (38, .putfield 41, 3), (41, .iload_n 3, 1), (42, .ireturn, 1)]
theorem dTX2_addGhost_0_ok : ∀ (k : Nat) (q : Nat × Instr × Nat), dTX2_addGhost_0[k]? = some q → decode cX2_addGhost q.1 = .ok q.2 := dT_of (by decide +kernel)
theorem dX2_addGhost_0 : decode cX2_addGhost 0 = .ok (.aload_n 0, 1) := dTX2_addGhost_0_ok 0 (0, .aload_n 0, 1) rfl
theorem dX2_addGhost_1 : decode cX2_addGhost 1 = .ok (.getfield 41, 3) := dTX2_addGhost_0_ok 1 (1, .getfield 41, 3) rfl
theorem dX2_addGhost_4 : decode cX2_addGhost 4 = .ok (.istore_n 3, 1) := dTX2_addGhost_0_ok 2 (4, .istore_n 3, 1) rfl
theorem dX2_addGhost_5 : decode cX2_addGhost 5 = .ok (.aload_n 0, 1) := dTX2_addGhost_0_ok 3 (5, .aload_n 0, 1) rfl
theorem dX2_addGhost_6 : decode cX2_addGhost 6 = .ok (.iload_n 3, 1) := dTX2_addGhost_0_ok 4 (6, .iload_n 3, 1) rfl
theorem dX2_addGhost_7 : decode cX2_addGhost 7 = .ok (.iload_n 1, 1) := dTX2_addGhost_0_ok 5 (7, .iload_n 1, 1) rfl
theorem dX2_addGhost_8 : decode cX2_addGhost 8 = .ok (.invokevirtual 64, 3) := dTX2_addGhost_0_ok 6 (8, .invokevirtual 64, 3) rfl
theorem dX2_addGhost_11 : decode cX2_addGhost 11 = .ok (.aload_n 0, 1) := dTX2_addGhost_0_ok 7 (11, .aload_n 0, 1) rfl
theorem dX2_addGhost_12 : decode cX2_addGhost 12 = .ok (.iload_n 3, 1) := dTX2_addGhost_0_ok 8 (12, .iload_n 3, 1) rfl
theorem dX2_addGhost_13 : decode cX2_addGhost 13 = .ok (.iload_n 1, 1) := dTX2_addGhost_0_ok 9 (13, .iload_n 1, 1) rfl
theorem dX2_addGhost_14 : decode cX2_addGhost 14 = .ok (.invokevirtual 67, 3) := dTX2_addGhost_0_ok 10 (14, .invokevirtual 67, 3) rfl
theorem dX2_addGhost_17 : decode cX2_addGhost 17 = .ok (.aload_n 0, 1) := dTX2_addGhost_0_ok 11 (17, .aload_n 0, 1) rfl
theorem dX2_addGhost_18 : decode cX2_addGhost 18 = .ok (.iload_n 3, 1) := dTX2_addGhost_0_ok 12 (18, .iload_n 3, 1) rfl
theorem dX2_addGhost_19 : decode cX2_addGhost 19 = .ok (.iconst 2, 1) := dTX2_addGhost_0_ok 13 (19, .iconst 2, 1) rfl
theorem dX2_addGhost_20 : decode cX2_addGhost 20 = .ok (.iload_n 2, 1) := dTX2_addGhost_0_ok 14 (20, .iload_n 2, 1) rfl
theorem dX2_addGhost_21 : decode cX2_addGhost 21 = .ok (.invokevirtual 60, 3) := dTX2_addGhost_0_ok 15 (21, .invokevirtual 60, 3) rfl
theorem dX2_addGhost_24 : decode cX2_addGhost 24 = .ok (.aload_n 0, 1) := dTX2_addGhost_0_ok 16 (24, .aload_n 0, 1) rfl
theorem dX2_addGhost_25 : decode cX2_addGhost 25 = .ok (.iload_n 3, 1) := dTX2_addGhost_0_ok 17 (25, .iload_n 3, 1) rfl
theorem dX2_addGhost_26 : decode cX2_addGhost 26 = .ok (.iconst 5, 1) := dTX2_addGhost_0_ok 18 (26, .iconst 5, 1) rfl
theorem dX2_addGhost_27 : decode cX2_addGhost 27 = .ok (.iconst 1, 1) := dTX2_addGhost_0_ok 19 (27, .iconst 1, 1) rfl
theorem dX2_addGhost_28 : decode cX2_addGhost 28 = .ok (.invokevirtual 60, 3) := dTX2_addGhost_0_ok 20 (28, .invokevirtual 60, 3) rfl
theorem dX2_addGhost_31 : decode cX2_addGhost 31 = .ok (.aload_n 0, 1) := dTX2_addGhost_0_ok 21 (31, .aload_n 0, 1) rfl
theorem dX2_addGhost_32 : decode cX2_addGhost 32 = .ok (.dup, 1) := dTX2_addGhost_0_ok 22 (32, .dup, 1) rfl
theorem dX2_addGhost_33 : decode cX2_addGhost 33 = .ok (.getfield 41, 3) := dTX2_addGhost_0_ok 23 (33, .getfield 41, 3) rfl
theorem dX2_addGhost_36 : decode cX2_addGhost 36 = .ok (.iconst 1, 1) := dTX2_addGhost_0_ok 24 (36, .iconst 1, 1) rfl
theorem dX2_addGhost_37 : decode cX2_addGhost 37 = .ok (.iadd, 1) := dTX2_addGhost_0_ok 25 (37, .iadd, 1) rfl
theorem dX2_addGhost_38 : decode cX2_addGhost 38 = .ok (.putfield 41, 3) := dTX2_addGhost_0_ok 26 (38, .putfield 41, 3) rfl
theorem dX2_addGhost_41 : decode cX2_addGhost 41 = .ok (.iload_n 3, 1) := dTX2_addGhost_0_ok 27 (41, .iload_n 3, 1) rfl
theorem dX2_addGhost_42 : decode cX2_addGhost 42 = .ok (.ireturn, 1) := dTX2_addGhost_0_ok 28 (42, .ireturn, 1) rfl
noncomputable def dTX2_ghostsIn_0 : List (Nat × Instr × Nat) := [(0, .iconst 0, 1), (1, .istore_n 2, 1), (2, .iconst 0, 1), (3, .istore_n 3, 1), (4, .iload_n 3, 1), (5, .aload_n 0, 1), (6, .getfield 41, 3), (9, .if_icmp .ge 21, 3), (12, .aload_n 0, 1), (13, .iload_n 3, 1), (14, .invokevirtual 70, 3), (17, .iload_n 1, 1), (18, .if_icmp .ne 6, 3), (21, .iinc 2 1, 3), (24, .iinc 3 1, 3), (27, .goto (-23), 3), (30, .iload_n 2, 1), (31, .ireturn, 1)]
theorem dTX2_ghostsIn_0_ok : ∀ (k : Nat) (q : Nat × Instr × Nat), dTX2_ghostsIn_0[k]? = some q → decode cX2_ghostsIn q.1 = .ok q.2 := dT_of (by decide +kernel)
theorem dX2_ghostsIn_0 : decode cX2_ghostsIn 0 = .ok (.iconst 0, 1) := dTX2_ghostsIn_0_ok 0 (0, .iconst 0, 1) rfl
theorem dX2_ghostsIn_1 : decode cX2_ghostsIn 1 = .ok (.istore_n 2, 1) := dTX2_ghostsIn_0_ok 1 (1, .istore_n 2, 1) rfl
theorem dX2_ghostsIn_2 : decode cX2_ghostsIn 2 = .ok (.iconst 0, 1) := dTX2_ghostsIn_0_ok 2 (2, .iconst 0, 1) rfl
theorem dX2_ghostsIn_3 : decode cX2_ghostsIn 3 = .ok (.istore_n 3, 1) := dTX2_ghostsIn_0_ok 3 (3, .istore_n 3, 1) rfl
theorem dX2_ghostsIn_4 : decode cX2_ghostsIn 4 = .ok (.iload_n 3, 1) := dTX2_ghostsIn_0_ok 4 (4, .iload_n 3, 1) rfl
theorem dX2_ghostsIn_5 : decode cX2_ghostsIn 5 = .ok (.aload_n 0, 1) := dTX2_ghostsIn_0_ok 5 (5, .aload_n 0, 1) rfl
theorem dX2_ghostsIn_6 : decode cX2_ghostsIn 6 = .ok (.getfield 41, 3) := dTX2_ghostsIn_0_ok 6 (6, .getfield 41, 3) rfl
theorem dX2_ghostsIn_9 : decode cX2_ghostsIn 9 = .ok (.if_icmp .ge 21, 3) := dTX2_ghostsIn_0_ok 7 (9, .if_icmp .ge 21, 3) rfl
theorem dX2_ghostsIn_12 : decode cX2_ghostsIn 12 = .ok (.aload_n 0, 1) := dTX2_ghostsIn_0_ok 8 (12, .aload_n 0, 1) rfl
theorem dX2_ghostsIn_13 : decode cX2_ghostsIn 13 = .ok (.iload_n 3, 1) := dTX2_ghostsIn_0_ok 9 (13, .iload_n 3, 1) rfl
theorem dX2_ghostsIn_14 : decode cX2_ghostsIn 14 = .ok (.invokevirtual 70, 3) := dTX2_ghostsIn_0_ok 10 (14, .invokevirtual 70, 3) rfl
theorem dX2_ghostsIn_17 : decode cX2_ghostsIn 17 = .ok (.iload_n 1, 1) := dTX2_ghostsIn_0_ok 11 (17, .iload_n 1, 1) rfl
theorem dX2_ghostsIn_18 : decode cX2_ghostsIn 18 = .ok (.if_icmp .ne 6, 3) := dTX2_ghostsIn_0_ok 12 (18, .if_icmp .ne 6, 3) rfl
theorem dX2_ghostsIn_21 : decode cX2_ghostsIn 21 = .ok (.iinc 2 1, 3) := dTX2_ghostsIn_0_ok 13 (21, .iinc 2 1, 3) rfl
theorem dX2_ghostsIn_24 : decode cX2_ghostsIn 24 = .ok (.iinc 3 1, 3) := dTX2_ghostsIn_0_ok 14 (24, .iinc 3 1, 3) rfl
theorem dX2_ghostsIn_27 : decode cX2_ghostsIn 27 = .ok (.goto (-23), 3) := dTX2_ghostsIn_0_ok 15 (27, .goto (-23), 3) rfl
theorem dX2_ghostsIn_30 : decode cX2_ghostsIn 30 = .ok (.iload_n 2, 1) := dTX2_ghostsIn_0_ok 16 (30, .iload_n 2, 1) rfl
theorem dX2_ghostsIn_31 : decode cX2_ghostsIn 31 = .ok (.ireturn, 1) := dTX2_ghostsIn_0_ok 17 (31, .ireturn, 1) rfl
noncomputable def dTX2_ghostsAtGoals_0 : List (Nat × Instr × Nat) := [(0, .iconst 0, 1), (1, .istore_n 1, 1), (2, .iconst 0, 1), (3, .istore_n 2, 1), (4, .iload_n 2, 1), (5, .aload_n 0, 1), (6, .getfield 41, 3), (9, .if_icmp .ge 25, 3), (12, .aload_n 0, 1), (13, .iload_n 2, 1), (14, .invokevirtual 70, 3), (17, .aload_n 0, 1), (18, .iload_n 2, 1), (19, .invokevirtual 73, 3), (22, .if_icmp .ne 6, 3), (25, .iinc 1 1, 3), (28, .iinc 2 1, 3), (31, .goto (-27), 3), (34, .iload_n 1, 1), (35, .ireturn, 1)]
theorem dTX2_ghostsAtGoals_0_ok : ∀ (k : Nat) (q : Nat × Instr × Nat), dTX2_ghostsAtGoals_0[k]? = some q → decode cX2_ghostsAtGoals q.1 = .ok q.2 := dT_of (by decide +kernel)
theorem dX2_ghostsAtGoals_0 : decode cX2_ghostsAtGoals 0 = .ok (.iconst 0, 1) := dTX2_ghostsAtGoals_0_ok 0 (0, .iconst 0, 1) rfl
theorem dX2_ghostsAtGoals_1 : decode cX2_ghostsAtGoals 1 = .ok (.istore_n 1, 1) := dTX2_ghostsAtGoals_0_ok 1 (1, .istore_n 1, 1) rfl
theorem dX2_ghostsAtGoals_2 : decode cX2_ghostsAtGoals 2 = .ok (.iconst 0, 1) := dTX2_ghostsAtGoals_0_ok 2 (2, .iconst 0, 1) rfl
theorem dX2_ghostsAtGoals_3 : decode cX2_ghostsAtGoals 3 = .ok (.istore_n 2, 1) := dTX2_ghostsAtGoals_0_ok 3 (3, .istore_n 2, 1) rfl
theorem dX2_ghostsAtGoals_4 : decode cX2_ghostsAtGoals 4 = .ok (.iload_n 2, 1) := dTX2_ghostsAtGoals_0_ok 4 (4, .iload_n 2, 1) rfl
theorem dX2_ghostsAtGoals_5 : decode cX2_ghostsAtGoals 5 = .ok (.aload_n 0, 1) := dTX2_ghostsAtGoals_0_ok 5 (5, .aload_n 0, 1) rfl
theorem dX2_ghostsAtGoals_6 : decode cX2_ghostsAtGoals 6 = .ok (.getfield 41, 3) := dTX2_ghostsAtGoals_0_ok 6 (6, .getfield 41, 3) rfl
theorem dX2_ghostsAtGoals_9 : decode cX2_ghostsAtGoals 9 = .ok (.if_icmp .ge 25, 3) := dTX2_ghostsAtGoals_0_ok 7 (9, .if_icmp .ge 25, 3) rfl
theorem dX2_ghostsAtGoals_12 : decode cX2_ghostsAtGoals 12 = .ok (.aload_n 0, 1) := dTX2_ghostsAtGoals_0_ok 8 (12, .aload_n 0, 1) rfl
theorem dX2_ghostsAtGoals_13 : decode cX2_ghostsAtGoals 13 = .ok (.iload_n 2, 1) := dTX2_ghostsAtGoals_0_ok 9 (13, .iload_n 2, 1) rfl
theorem dX2_ghostsAtGoals_14 : decode cX2_ghostsAtGoals 14 = .ok (.invokevirtual 70, 3) := dTX2_ghostsAtGoals_0_ok 10 (14, .invokevirtual 70, 3) rfl
theorem dX2_ghostsAtGoals_17 : decode cX2_ghostsAtGoals 17 = .ok (.aload_n 0, 1) := dTX2_ghostsAtGoals_0_ok 11 (17, .aload_n 0, 1) rfl
theorem dX2_ghostsAtGoals_18 : decode cX2_ghostsAtGoals 18 = .ok (.iload_n 2, 1) := dTX2_ghostsAtGoals_0_ok 12 (18, .iload_n 2, 1) rfl
theorem dX2_ghostsAtGoals_19 : decode cX2_ghostsAtGoals 19 = .ok (.invokevirtual 73, 3) := dTX2_ghostsAtGoals_0_ok 13 (19, .invokevirtual 73, 3) rfl
theorem dX2_ghostsAtGoals_22 : decode cX2_ghostsAtGoals 22 = .ok (.if_icmp .ne 6, 3) := dTX2_ghostsAtGoals_0_ok 14 (22, .if_icmp .ne 6, 3) rfl
theorem dX2_ghostsAtGoals_25 : decode cX2_ghostsAtGoals 25 = .ok (.iinc 1 1, 3) := dTX2_ghostsAtGoals_0_ok 15 (25, .iinc 1 1, 3) rfl
theorem dX2_ghostsAtGoals_28 : decode cX2_ghostsAtGoals 28 = .ok (.iinc 2 1, 3) := dTX2_ghostsAtGoals_0_ok 16 (28, .iinc 2 1, 3) rfl
theorem dX2_ghostsAtGoals_31 : decode cX2_ghostsAtGoals 31 = .ok (.goto (-27), 3) := dTX2_ghostsAtGoals_0_ok 17 (31, .goto (-27), 3) rfl
theorem dX2_ghostsAtGoals_34 : decode cX2_ghostsAtGoals 34 = .ok (.iload_n 1, 1) := dTX2_ghostsAtGoals_0_ok 18 (34, .iload_n 1, 1) rfl
theorem dX2_ghostsAtGoals_35 : decode cX2_ghostsAtGoals 35 = .ok (.ireturn, 1) := dTX2_ghostsAtGoals_0_ok 19 (35, .ireturn, 1) rfl
noncomputable def dTX2_aboutCell_0 : List (Nat × Instr × Nat) := [(0, .iload_n 2, 1), (1, .tableswitch 83 0 3 #[31, 40, 49, 66], 31), (32, .aload_n 0, 1), (33, .getfield 12, 3), (36, .iload_n 1, 1), (37, .invokevirtual 76, 3), (40, .ireturn, 1), (41, .aload_n 0, 1), (42, .getfield 12, 3), (45, .iload_n 1, 1), (46, .invokevirtual 79, 3), (49, .ireturn, 1), (50, .aload_n 0, 1), (51, .getfield 12, 3), (54, .iload_n 1, 1), (55, .invokevirtual 82, 3), (58, .ifCond .eq 7, 3), (61, .iconst 1, 1), (62, .goto 4, 3), (65, .iconst 0, 1), (66, .ireturn, 1), (67, .aload_n 0, 1), (68, .getfield 12, 3), (71, .iload_n 1, 1), (72, .invokevirtual 86, 3), (75, .ifCond .eq 7, 3), (78, .iconst 1, 1), (79, .goto 4, 3), (82, .iconst 0, 1), (83, .ireturn, 1), (84, .aload_n 0, 1), (85, .iload_n 1, 1), (86, .invokevirtual 89, 3), (89, .ireturn, 1)]
theorem dTX2_aboutCell_0_ok : ∀ (k : Nat) (q : Nat × Instr × Nat), dTX2_aboutCell_0[k]? = some q → decode cX2_aboutCell q.1 = .ok q.2 := dT_of (by decide +kernel)
theorem dX2_aboutCell_0 : decode cX2_aboutCell 0 = .ok (.iload_n 2, 1) := dTX2_aboutCell_0_ok 0 (0, .iload_n 2, 1) rfl
theorem dX2_aboutCell_1 : decode cX2_aboutCell 1 = .ok (.tableswitch 83 0 3 #[31, 40, 49, 66], 31) := dTX2_aboutCell_0_ok 1 (1, .tableswitch 83 0 3 #[31, 40, 49, 66], 31) rfl
theorem dX2_aboutCell_32 : decode cX2_aboutCell 32 = .ok (.aload_n 0, 1) := dTX2_aboutCell_0_ok 2 (32, .aload_n 0, 1) rfl
theorem dX2_aboutCell_33 : decode cX2_aboutCell 33 = .ok (.getfield 12, 3) := dTX2_aboutCell_0_ok 3 (33, .getfield 12, 3) rfl
theorem dX2_aboutCell_36 : decode cX2_aboutCell 36 = .ok (.iload_n 1, 1) := dTX2_aboutCell_0_ok 4 (36, .iload_n 1, 1) rfl
theorem dX2_aboutCell_37 : decode cX2_aboutCell 37 = .ok (.invokevirtual 76, 3) := dTX2_aboutCell_0_ok 5 (37, .invokevirtual 76, 3) rfl
theorem dX2_aboutCell_40 : decode cX2_aboutCell 40 = .ok (.ireturn, 1) := dTX2_aboutCell_0_ok 6 (40, .ireturn, 1) rfl
theorem dX2_aboutCell_41 : decode cX2_aboutCell 41 = .ok (.aload_n 0, 1) := dTX2_aboutCell_0_ok 7 (41, .aload_n 0, 1) rfl
theorem dX2_aboutCell_42 : decode cX2_aboutCell 42 = .ok (.getfield 12, 3) := dTX2_aboutCell_0_ok 8 (42, .getfield 12, 3) rfl
theorem dX2_aboutCell_45 : decode cX2_aboutCell 45 = .ok (.iload_n 1, 1) := dTX2_aboutCell_0_ok 9 (45, .iload_n 1, 1) rfl
theorem dX2_aboutCell_46 : decode cX2_aboutCell 46 = .ok (.invokevirtual 79, 3) := dTX2_aboutCell_0_ok 10 (46, .invokevirtual 79, 3) rfl
theorem dX2_aboutCell_49 : decode cX2_aboutCell 49 = .ok (.ireturn, 1) := dTX2_aboutCell_0_ok 11 (49, .ireturn, 1) rfl
theorem dX2_aboutCell_50 : decode cX2_aboutCell 50 = .ok (.aload_n 0, 1) := dTX2_aboutCell_0_ok 12 (50, .aload_n 0, 1) rfl
theorem dX2_aboutCell_51 : decode cX2_aboutCell 51 = .ok (.getfield 12, 3) := dTX2_aboutCell_0_ok 13 (51, .getfield 12, 3) rfl
theorem dX2_aboutCell_54 : decode cX2_aboutCell 54 = .ok (.iload_n 1, 1) := dTX2_aboutCell_0_ok 14 (54, .iload_n 1, 1) rfl
theorem dX2_aboutCell_55 : decode cX2_aboutCell 55 = .ok (.invokevirtual 82, 3) := dTX2_aboutCell_0_ok 15 (55, .invokevirtual 82, 3) rfl
theorem dX2_aboutCell_58 : decode cX2_aboutCell 58 = .ok (.ifCond .eq 7, 3) := dTX2_aboutCell_0_ok 16 (58, .ifCond .eq 7, 3) rfl
theorem dX2_aboutCell_61 : decode cX2_aboutCell 61 = .ok (.iconst 1, 1) := dTX2_aboutCell_0_ok 17 (61, .iconst 1, 1) rfl
theorem dX2_aboutCell_62 : decode cX2_aboutCell 62 = .ok (.goto 4, 3) := dTX2_aboutCell_0_ok 18 (62, .goto 4, 3) rfl
theorem dX2_aboutCell_65 : decode cX2_aboutCell 65 = .ok (.iconst 0, 1) := dTX2_aboutCell_0_ok 19 (65, .iconst 0, 1) rfl
theorem dX2_aboutCell_66 : decode cX2_aboutCell 66 = .ok (.ireturn, 1) := dTX2_aboutCell_0_ok 20 (66, .ireturn, 1) rfl
theorem dX2_aboutCell_67 : decode cX2_aboutCell 67 = .ok (.aload_n 0, 1) := dTX2_aboutCell_0_ok 21 (67, .aload_n 0, 1) rfl
theorem dX2_aboutCell_68 : decode cX2_aboutCell 68 = .ok (.getfield 12, 3) := dTX2_aboutCell_0_ok 22 (68, .getfield 12, 3) rfl
theorem dX2_aboutCell_71 : decode cX2_aboutCell 71 = .ok (.iload_n 1, 1) := dTX2_aboutCell_0_ok 23 (71, .iload_n 1, 1) rfl
theorem dX2_aboutCell_72 : decode cX2_aboutCell 72 = .ok (.invokevirtual 86, 3) := dTX2_aboutCell_0_ok 24 (72, .invokevirtual 86, 3) rfl
theorem dX2_aboutCell_75 : decode cX2_aboutCell 75 = .ok (.ifCond .eq 7, 3) := dTX2_aboutCell_0_ok 25 (75, .ifCond .eq 7, 3) rfl
theorem dX2_aboutCell_78 : decode cX2_aboutCell 78 = .ok (.iconst 1, 1) := dTX2_aboutCell_0_ok 26 (78, .iconst 1, 1) rfl
theorem dX2_aboutCell_79 : decode cX2_aboutCell 79 = .ok (.goto 4, 3) := dTX2_aboutCell_0_ok 27 (79, .goto 4, 3) rfl
theorem dX2_aboutCell_82 : decode cX2_aboutCell 82 = .ok (.iconst 0, 1) := dTX2_aboutCell_0_ok 28 (82, .iconst 0, 1) rfl
theorem dX2_aboutCell_83 : decode cX2_aboutCell 83 = .ok (.ireturn, 1) := dTX2_aboutCell_0_ok 29 (83, .ireturn, 1) rfl
theorem dX2_aboutCell_84 : decode cX2_aboutCell 84 = .ok (.aload_n 0, 1) := dTX2_aboutCell_0_ok 30 (84, .aload_n 0, 1) rfl
theorem dX2_aboutCell_85 : decode cX2_aboutCell 85 = .ok (.iload_n 1, 1) := dTX2_aboutCell_0_ok 31 (85, .iload_n 1, 1) rfl
theorem dX2_aboutCell_86 : decode cX2_aboutCell 86 = .ok (.invokevirtual 89, 3) := dTX2_aboutCell_0_ok 32 (86, .invokevirtual 89, 3) rfl
theorem dX2_aboutCell_89 : decode cX2_aboutCell 89 = .ok (.ireturn, 1) := dTX2_aboutCell_0_ok 33 (89, .ireturn, 1) rfl
noncomputable def dTX2_aboutAll_0 : List (Nat × Instr × Nat) := [(0, .iload_n 1, 1), (1, .tableswitch 116 0 8 #[51, 56, 61, 69, 77, 85, 93, 101, 109], 51), (52, .aload_n 0, 1), (53, .getfield 45, 3), (56, .ireturn, 1), (57, .aload_n 0, 1), (58, .getfield 41, 3), (61, .ireturn, 1), (62, .aload_n 0, 1), (63, .getfield 12, 3), (66, .invokevirtual 92, 3), (69, .ireturn, 1), (70, .aload_n 0, 1), (71, .getfield 12, 3), (74, .invokevirtual 96, 3), (77, .ireturn, 1), (78, .aload_n 0, 1), (79, .getfield 12, 3), (82, .invokevirtual 99, 3), (85, .ireturn, 1), (86, .aload_n 0, 1), (87, .getfield 12, 3), (90, .invokevirtual 102, 3), (93, .ireturn, 1), (94, .aload_n 0, 1), (95, .getfield 12, 3), (98, .invokevirtual 105, 3), (101, .ireturn, 1), (102, .aload_n 0, 1), (103, .getfield 12, 3), (106, .invokevirtual 108, 3), (109, .ireturn, 1), (110, .aload_n 0, 1), (111, .bipush 6, 2), (113, .invokevirtual 111, 3), (116, .ireturn, 1), (117, .aload_n 0, 1), (118, .getfield 12, 3), (121, .invokevirtual 114, 3), (124, .ireturn, 1)]
theorem dTX2_aboutAll_0_ok : ∀ (k : Nat) (q : Nat × Instr × Nat), dTX2_aboutAll_0[k]? = some q → decode cX2_aboutAll q.1 = .ok q.2 := dT_of (by decide +kernel)
theorem dX2_aboutAll_0 : decode cX2_aboutAll 0 = .ok (.iload_n 1, 1) := dTX2_aboutAll_0_ok 0 (0, .iload_n 1, 1) rfl
theorem dX2_aboutAll_1 : decode cX2_aboutAll 1 = .ok (.tableswitch 116 0 8 #[51, 56, 61, 69, 77, 85, 93, 101, 109], 51) := dTX2_aboutAll_0_ok 1 (1, .tableswitch 116 0 8 #[51, 56, 61, 69, 77, 85, 93, 101, 109], 51) rfl
theorem dX2_aboutAll_52 : decode cX2_aboutAll 52 = .ok (.aload_n 0, 1) := dTX2_aboutAll_0_ok 2 (52, .aload_n 0, 1) rfl
theorem dX2_aboutAll_53 : decode cX2_aboutAll 53 = .ok (.getfield 45, 3) := dTX2_aboutAll_0_ok 3 (53, .getfield 45, 3) rfl
theorem dX2_aboutAll_56 : decode cX2_aboutAll 56 = .ok (.ireturn, 1) := dTX2_aboutAll_0_ok 4 (56, .ireturn, 1) rfl
theorem dX2_aboutAll_57 : decode cX2_aboutAll 57 = .ok (.aload_n 0, 1) := dTX2_aboutAll_0_ok 5 (57, .aload_n 0, 1) rfl
theorem dX2_aboutAll_58 : decode cX2_aboutAll 58 = .ok (.getfield 41, 3) := dTX2_aboutAll_0_ok 6 (58, .getfield 41, 3) rfl
theorem dX2_aboutAll_61 : decode cX2_aboutAll 61 = .ok (.ireturn, 1) := dTX2_aboutAll_0_ok 7 (61, .ireturn, 1) rfl
theorem dX2_aboutAll_62 : decode cX2_aboutAll 62 = .ok (.aload_n 0, 1) := dTX2_aboutAll_0_ok 8 (62, .aload_n 0, 1) rfl
theorem dX2_aboutAll_63 : decode cX2_aboutAll 63 = .ok (.getfield 12, 3) := dTX2_aboutAll_0_ok 9 (63, .getfield 12, 3) rfl
theorem dX2_aboutAll_66 : decode cX2_aboutAll 66 = .ok (.invokevirtual 92, 3) := dTX2_aboutAll_0_ok 10 (66, .invokevirtual 92, 3) rfl
theorem dX2_aboutAll_69 : decode cX2_aboutAll 69 = .ok (.ireturn, 1) := dTX2_aboutAll_0_ok 11 (69, .ireturn, 1) rfl
theorem dX2_aboutAll_70 : decode cX2_aboutAll 70 = .ok (.aload_n 0, 1) := dTX2_aboutAll_0_ok 12 (70, .aload_n 0, 1) rfl
theorem dX2_aboutAll_71 : decode cX2_aboutAll 71 = .ok (.getfield 12, 3) := dTX2_aboutAll_0_ok 13 (71, .getfield 12, 3) rfl
theorem dX2_aboutAll_74 : decode cX2_aboutAll 74 = .ok (.invokevirtual 96, 3) := dTX2_aboutAll_0_ok 14 (74, .invokevirtual 96, 3) rfl
theorem dX2_aboutAll_77 : decode cX2_aboutAll 77 = .ok (.ireturn, 1) := dTX2_aboutAll_0_ok 15 (77, .ireturn, 1) rfl
theorem dX2_aboutAll_78 : decode cX2_aboutAll 78 = .ok (.aload_n 0, 1) := dTX2_aboutAll_0_ok 16 (78, .aload_n 0, 1) rfl
theorem dX2_aboutAll_79 : decode cX2_aboutAll 79 = .ok (.getfield 12, 3) := dTX2_aboutAll_0_ok 17 (79, .getfield 12, 3) rfl
theorem dX2_aboutAll_82 : decode cX2_aboutAll 82 = .ok (.invokevirtual 99, 3) := dTX2_aboutAll_0_ok 18 (82, .invokevirtual 99, 3) rfl
theorem dX2_aboutAll_85 : decode cX2_aboutAll 85 = .ok (.ireturn, 1) := dTX2_aboutAll_0_ok 19 (85, .ireturn, 1) rfl
theorem dX2_aboutAll_86 : decode cX2_aboutAll 86 = .ok (.aload_n 0, 1) := dTX2_aboutAll_0_ok 20 (86, .aload_n 0, 1) rfl
theorem dX2_aboutAll_87 : decode cX2_aboutAll 87 = .ok (.getfield 12, 3) := dTX2_aboutAll_0_ok 21 (87, .getfield 12, 3) rfl
theorem dX2_aboutAll_90 : decode cX2_aboutAll 90 = .ok (.invokevirtual 102, 3) := dTX2_aboutAll_0_ok 22 (90, .invokevirtual 102, 3) rfl
theorem dX2_aboutAll_93 : decode cX2_aboutAll 93 = .ok (.ireturn, 1) := dTX2_aboutAll_0_ok 23 (93, .ireturn, 1) rfl
theorem dX2_aboutAll_94 : decode cX2_aboutAll 94 = .ok (.aload_n 0, 1) := dTX2_aboutAll_0_ok 24 (94, .aload_n 0, 1) rfl
theorem dX2_aboutAll_95 : decode cX2_aboutAll 95 = .ok (.getfield 12, 3) := dTX2_aboutAll_0_ok 25 (95, .getfield 12, 3) rfl
theorem dX2_aboutAll_98 : decode cX2_aboutAll 98 = .ok (.invokevirtual 105, 3) := dTX2_aboutAll_0_ok 26 (98, .invokevirtual 105, 3) rfl
theorem dX2_aboutAll_101 : decode cX2_aboutAll 101 = .ok (.ireturn, 1) := dTX2_aboutAll_0_ok 27 (101, .ireturn, 1) rfl
theorem dX2_aboutAll_102 : decode cX2_aboutAll 102 = .ok (.aload_n 0, 1) := dTX2_aboutAll_0_ok 28 (102, .aload_n 0, 1) rfl
theorem dX2_aboutAll_103 : decode cX2_aboutAll 103 = .ok (.getfield 12, 3) := dTX2_aboutAll_0_ok 29 (103, .getfield 12, 3) rfl
theorem dX2_aboutAll_106 : decode cX2_aboutAll 106 = .ok (.invokevirtual 108, 3) := dTX2_aboutAll_0_ok 30 (106, .invokevirtual 108, 3) rfl
theorem dX2_aboutAll_109 : decode cX2_aboutAll 109 = .ok (.ireturn, 1) := dTX2_aboutAll_0_ok 31 (109, .ireturn, 1) rfl
theorem dX2_aboutAll_110 : decode cX2_aboutAll 110 = .ok (.aload_n 0, 1) := dTX2_aboutAll_0_ok 32 (110, .aload_n 0, 1) rfl
theorem dX2_aboutAll_111 : decode cX2_aboutAll 111 = .ok (.bipush 6, 2) := dTX2_aboutAll_0_ok 33 (111, .bipush 6, 2) rfl
theorem dX2_aboutAll_113 : decode cX2_aboutAll 113 = .ok (.invokevirtual 111, 3) := dTX2_aboutAll_0_ok 34 (113, .invokevirtual 111, 3) rfl
theorem dX2_aboutAll_116 : decode cX2_aboutAll 116 = .ok (.ireturn, 1) := dTX2_aboutAll_0_ok 35 (116, .ireturn, 1) rfl
theorem dX2_aboutAll_117 : decode cX2_aboutAll 117 = .ok (.aload_n 0, 1) := dTX2_aboutAll_0_ok 36 (117, .aload_n 0, 1) rfl
theorem dX2_aboutAll_118 : decode cX2_aboutAll 118 = .ok (.getfield 12, 3) := dTX2_aboutAll_0_ok 37 (118, .getfield 12, 3) rfl
theorem dX2_aboutAll_121 : decode cX2_aboutAll 121 = .ok (.invokevirtual 114, 3) := dTX2_aboutAll_0_ok 38 (121, .invokevirtual 114, 3) rfl
theorem dX2_aboutAll_124 : decode cX2_aboutAll 124 = .ok (.ireturn, 1) := dTX2_aboutAll_0_ok 39 (124, .ireturn, 1) rfl
noncomputable def dTX2_stepsTo_0 : List (Nat × Instr × Nat) := [(0, .aload_n 0, 1), (1, .getfield 21, 3), (4, .aload_n 0, 1), (5, .getfield 12, 3), (8, .aload_n 0, 1), (9, .iload_n 1, 1), (10, .invokevirtual 70, 3), (13, .iload_n 2, 1), (14, .aload_n 0, 1), (15, .iload_n 1, 1), (16, .invokevirtual 117, 3), (19, .invokevirtual 120, 3), (22, .ireturn, 1)]
theorem dTX2_stepsTo_0_ok : ∀ (k : Nat) (q : Nat × Instr × Nat), dTX2_stepsTo_0[k]? = some q → decode cX2_stepsTo q.1 = .ok q.2 := dT_of (by decide +kernel)
theorem dX2_stepsTo_0 : decode cX2_stepsTo 0 = .ok (.aload_n 0, 1) := dTX2_stepsTo_0_ok 0 (0, .aload_n 0, 1) rfl
theorem dX2_stepsTo_1 : decode cX2_stepsTo 1 = .ok (.getfield 21, 3) := dTX2_stepsTo_0_ok 1 (1, .getfield 21, 3) rfl
theorem dX2_stepsTo_4 : decode cX2_stepsTo 4 = .ok (.aload_n 0, 1) := dTX2_stepsTo_0_ok 2 (4, .aload_n 0, 1) rfl
theorem dX2_stepsTo_5 : decode cX2_stepsTo 5 = .ok (.getfield 12, 3) := dTX2_stepsTo_0_ok 3 (5, .getfield 12, 3) rfl
theorem dX2_stepsTo_8 : decode cX2_stepsTo 8 = .ok (.aload_n 0, 1) := dTX2_stepsTo_0_ok 4 (8, .aload_n 0, 1) rfl
theorem dX2_stepsTo_9 : decode cX2_stepsTo 9 = .ok (.iload_n 1, 1) := dTX2_stepsTo_0_ok 5 (9, .iload_n 1, 1) rfl
theorem dX2_stepsTo_10 : decode cX2_stepsTo 10 = .ok (.invokevirtual 70, 3) := dTX2_stepsTo_0_ok 6 (10, .invokevirtual 70, 3) rfl
theorem dX2_stepsTo_13 : decode cX2_stepsTo 13 = .ok (.iload_n 2, 1) := dTX2_stepsTo_0_ok 7 (13, .iload_n 2, 1) rfl
theorem dX2_stepsTo_14 : decode cX2_stepsTo 14 = .ok (.aload_n 0, 1) := dTX2_stepsTo_0_ok 8 (14, .aload_n 0, 1) rfl
theorem dX2_stepsTo_15 : decode cX2_stepsTo 15 = .ok (.iload_n 1, 1) := dTX2_stepsTo_0_ok 9 (15, .iload_n 1, 1) rfl
theorem dX2_stepsTo_16 : decode cX2_stepsTo 16 = .ok (.invokevirtual 117, 3) := dTX2_stepsTo_0_ok 10 (16, .invokevirtual 117, 3) rfl
theorem dX2_stepsTo_19 : decode cX2_stepsTo 19 = .ok (.invokevirtual 120, 3) := dTX2_stepsTo_0_ok 11 (19, .invokevirtual 120, 3) rfl
theorem dX2_stepsTo_22 : decode cX2_stepsTo 22 = .ok (.ireturn, 1) := dTX2_stepsTo_0_ok 12 (22, .ireturn, 1) rfl
noncomputable def dTX2_nextDirection_0 : List (Nat × Instr × Nat) := [(0, .aload_n 0, 1), (1, .getfield 21, 3), (4, .aload_n 0, 1), (5, .getfield 12, 3), (8, .aload_n 0, 1), (9, .iload_n 1, 1), (10, .invokevirtual 70, 3), (13, .aload_n 0, 1), (14, .iload_n 1, 1), (15, .invokevirtual 73, 3), (18, .aload_n 0, 1), (19, .iload_n 1, 1), (20, .invokevirtual 117, 3), (23, .invokevirtual 120, 3), (26, .istore_n 2, 1), (27, .iload_n 2, 1), (28, .ifCond .le 17, 3), (31, .aload_n 0, 1), (32, .getfield 21, 3), (35, .aload_n 0, 1), (36, .getfield 12, 3), (39, .invokevirtual 124, 3), (42, .goto 4, 3), (45, .iconst (-1), 1), (46, .ireturn, 1)]
theorem dTX2_nextDirection_0_ok : ∀ (k : Nat) (q : Nat × Instr × Nat), dTX2_nextDirection_0[k]? = some q → decode cX2_nextDirection q.1 = .ok q.2 := dT_of (by decide +kernel)
theorem dX2_nextDirection_0 : decode cX2_nextDirection 0 = .ok (.aload_n 0, 1) := dTX2_nextDirection_0_ok 0 (0, .aload_n 0, 1) rfl
theorem dX2_nextDirection_1 : decode cX2_nextDirection 1 = .ok (.getfield 21, 3) := dTX2_nextDirection_0_ok 1 (1, .getfield 21, 3) rfl
theorem dX2_nextDirection_4 : decode cX2_nextDirection 4 = .ok (.aload_n 0, 1) := dTX2_nextDirection_0_ok 2 (4, .aload_n 0, 1) rfl
theorem dX2_nextDirection_5 : decode cX2_nextDirection 5 = .ok (.getfield 12, 3) := dTX2_nextDirection_0_ok 3 (5, .getfield 12, 3) rfl
theorem dX2_nextDirection_8 : decode cX2_nextDirection 8 = .ok (.aload_n 0, 1) := dTX2_nextDirection_0_ok 4 (8, .aload_n 0, 1) rfl
theorem dX2_nextDirection_9 : decode cX2_nextDirection 9 = .ok (.iload_n 1, 1) := dTX2_nextDirection_0_ok 5 (9, .iload_n 1, 1) rfl
theorem dX2_nextDirection_10 : decode cX2_nextDirection 10 = .ok (.invokevirtual 70, 3) := dTX2_nextDirection_0_ok 6 (10, .invokevirtual 70, 3) rfl
theorem dX2_nextDirection_13 : decode cX2_nextDirection 13 = .ok (.aload_n 0, 1) := dTX2_nextDirection_0_ok 7 (13, .aload_n 0, 1) rfl
theorem dX2_nextDirection_14 : decode cX2_nextDirection 14 = .ok (.iload_n 1, 1) := dTX2_nextDirection_0_ok 8 (14, .iload_n 1, 1) rfl
theorem dX2_nextDirection_15 : decode cX2_nextDirection 15 = .ok (.invokevirtual 73, 3) := dTX2_nextDirection_0_ok 9 (15, .invokevirtual 73, 3) rfl
theorem dX2_nextDirection_18 : decode cX2_nextDirection 18 = .ok (.aload_n 0, 1) := dTX2_nextDirection_0_ok 10 (18, .aload_n 0, 1) rfl
theorem dX2_nextDirection_19 : decode cX2_nextDirection 19 = .ok (.iload_n 1, 1) := dTX2_nextDirection_0_ok 11 (19, .iload_n 1, 1) rfl
theorem dX2_nextDirection_20 : decode cX2_nextDirection 20 = .ok (.invokevirtual 117, 3) := dTX2_nextDirection_0_ok 12 (20, .invokevirtual 117, 3) rfl
theorem dX2_nextDirection_23 : decode cX2_nextDirection 23 = .ok (.invokevirtual 120, 3) := dTX2_nextDirection_0_ok 13 (23, .invokevirtual 120, 3) rfl
theorem dX2_nextDirection_26 : decode cX2_nextDirection 26 = .ok (.istore_n 2, 1) := dTX2_nextDirection_0_ok 14 (26, .istore_n 2, 1) rfl
theorem dX2_nextDirection_27 : decode cX2_nextDirection 27 = .ok (.iload_n 2, 1) := dTX2_nextDirection_0_ok 15 (27, .iload_n 2, 1) rfl
theorem dX2_nextDirection_28 : decode cX2_nextDirection 28 = .ok (.ifCond .le 17, 3) := dTX2_nextDirection_0_ok 16 (28, .ifCond .le 17, 3) rfl
theorem dX2_nextDirection_31 : decode cX2_nextDirection 31 = .ok (.aload_n 0, 1) := dTX2_nextDirection_0_ok 17 (31, .aload_n 0, 1) rfl
theorem dX2_nextDirection_32 : decode cX2_nextDirection 32 = .ok (.getfield 21, 3) := dTX2_nextDirection_0_ok 18 (32, .getfield 21, 3) rfl
theorem dX2_nextDirection_35 : decode cX2_nextDirection 35 = .ok (.aload_n 0, 1) := dTX2_nextDirection_0_ok 19 (35, .aload_n 0, 1) rfl
theorem dX2_nextDirection_36 : decode cX2_nextDirection 36 = .ok (.getfield 12, 3) := dTX2_nextDirection_0_ok 20 (36, .getfield 12, 3) rfl
theorem dX2_nextDirection_39 : decode cX2_nextDirection 39 = .ok (.invokevirtual 124, 3) := dTX2_nextDirection_0_ok 21 (39, .invokevirtual 124, 3) rfl
theorem dX2_nextDirection_42 : decode cX2_nextDirection 42 = .ok (.goto 4, 3) := dTX2_nextDirection_0_ok 22 (42, .goto 4, 3) rfl
theorem dX2_nextDirection_45 : decode cX2_nextDirection 45 = .ok (.iconst (-1), 1) := dTX2_nextDirection_0_ok 23 (45, .iconst (-1), 1) rfl
theorem dX2_nextDirection_46 : decode cX2_nextDirection 46 = .ok (.ireturn, 1) := dTX2_nextDirection_0_ok 24 (46, .ireturn, 1) rfl
noncomputable def dTX2_passHour_0 : List (Nat × Instr × Nat) := [(0, .aload_n 0, 1), (1, .getfield 12, 3), (4, .invokevirtual 128, 3), (7, .iconst 0, 1), (8, .istore_n 1, 1), (9, .iload_n 1, 1), (10, .aload_n 0, 1), (11, .getfield 41, 3), (14, .if_icmp .ge 34, 3), (17, .aload_n 0, 1), (18, .iload_n 1, 1), (19, .iconst 2, 1), (20, .invokevirtual 56, 3), (23, .istore_n 2, 1), (24, .iconst 0, 1), (25, .istore_n 3, 1), (26, .iload_n 3, 1), (27, .iload_n 2, 1), (28, .if_icmp .ge 14, 3), (31, .aload_n 0, 1), (32, .iload_n 1, 1), (33, .invokevirtual 131, 3), (36, .iinc 3 1, 3), (39, .goto (-13), 3), (42, .iinc 1 1, 3), (45, .goto (-36), 3), (48, .iconst 0, 1), (49, .istore_n 1, 1), (50, .iconst 0, 1), (51, .istore_n 2, 1), (52, .iload_n 2, 1), (53, .aload_n 0, 1), (54, .getfield 41, 3), (57, .if_icmp .ge 20, 3), (60, .aload_n 0, 1), (61, .iload_n 2, 1), (62, .invokevirtual 134, 3), (65, .ifCond .eq 6, 3), (68, .iinc 1 1, 3), (71, .iinc 2 1, 3), (74, .goto (-22), 3), (77, .aload_n 0, 1), (78, .dup, 1), (79, .getfield 45, 3), (82, .iconst 1, 1), (83, .iadd, 1), (84, .putfield 45, 3), (87, .iload_n 1, 1), (88, .ireturn, 1)]
theorem dTX2_passHour_0_ok : ∀ (k : Nat) (q : Nat × Instr × Nat), dTX2_passHour_0[k]? = some q → decode cX2_passHour q.1 = .ok q.2 := dT_of (by decide +kernel)
theorem dX2_passHour_0 : decode cX2_passHour 0 = .ok (.aload_n 0, 1) := dTX2_passHour_0_ok 0 (0, .aload_n 0, 1) rfl
theorem dX2_passHour_1 : decode cX2_passHour 1 = .ok (.getfield 12, 3) := dTX2_passHour_0_ok 1 (1, .getfield 12, 3) rfl
theorem dX2_passHour_4 : decode cX2_passHour 4 = .ok (.invokevirtual 128, 3) := dTX2_passHour_0_ok 2 (4, .invokevirtual 128, 3) rfl
theorem dX2_passHour_7 : decode cX2_passHour 7 = .ok (.iconst 0, 1) := dTX2_passHour_0_ok 3 (7, .iconst 0, 1) rfl
theorem dX2_passHour_8 : decode cX2_passHour 8 = .ok (.istore_n 1, 1) := dTX2_passHour_0_ok 4 (8, .istore_n 1, 1) rfl
theorem dX2_passHour_9 : decode cX2_passHour 9 = .ok (.iload_n 1, 1) := dTX2_passHour_0_ok 5 (9, .iload_n 1, 1) rfl
theorem dX2_passHour_10 : decode cX2_passHour 10 = .ok (.aload_n 0, 1) := dTX2_passHour_0_ok 6 (10, .aload_n 0, 1) rfl
theorem dX2_passHour_11 : decode cX2_passHour 11 = .ok (.getfield 41, 3) := dTX2_passHour_0_ok 7 (11, .getfield 41, 3) rfl
theorem dX2_passHour_14 : decode cX2_passHour 14 = .ok (.if_icmp .ge 34, 3) := dTX2_passHour_0_ok 8 (14, .if_icmp .ge 34, 3) rfl
theorem dX2_passHour_17 : decode cX2_passHour 17 = .ok (.aload_n 0, 1) := dTX2_passHour_0_ok 9 (17, .aload_n 0, 1) rfl
theorem dX2_passHour_18 : decode cX2_passHour 18 = .ok (.iload_n 1, 1) := dTX2_passHour_0_ok 10 (18, .iload_n 1, 1) rfl
theorem dX2_passHour_19 : decode cX2_passHour 19 = .ok (.iconst 2, 1) := dTX2_passHour_0_ok 11 (19, .iconst 2, 1) rfl
theorem dX2_passHour_20 : decode cX2_passHour 20 = .ok (.invokevirtual 56, 3) := dTX2_passHour_0_ok 12 (20, .invokevirtual 56, 3) rfl
theorem dX2_passHour_23 : decode cX2_passHour 23 = .ok (.istore_n 2, 1) := dTX2_passHour_0_ok 13 (23, .istore_n 2, 1) rfl
theorem dX2_passHour_24 : decode cX2_passHour 24 = .ok (.iconst 0, 1) := dTX2_passHour_0_ok 14 (24, .iconst 0, 1) rfl
theorem dX2_passHour_25 : decode cX2_passHour 25 = .ok (.istore_n 3, 1) := dTX2_passHour_0_ok 15 (25, .istore_n 3, 1) rfl
theorem dX2_passHour_26 : decode cX2_passHour 26 = .ok (.iload_n 3, 1) := dTX2_passHour_0_ok 16 (26, .iload_n 3, 1) rfl
theorem dX2_passHour_27 : decode cX2_passHour 27 = .ok (.iload_n 2, 1) := dTX2_passHour_0_ok 17 (27, .iload_n 2, 1) rfl
theorem dX2_passHour_28 : decode cX2_passHour 28 = .ok (.if_icmp .ge 14, 3) := dTX2_passHour_0_ok 18 (28, .if_icmp .ge 14, 3) rfl
theorem dX2_passHour_31 : decode cX2_passHour 31 = .ok (.aload_n 0, 1) := dTX2_passHour_0_ok 19 (31, .aload_n 0, 1) rfl
theorem dX2_passHour_32 : decode cX2_passHour 32 = .ok (.iload_n 1, 1) := dTX2_passHour_0_ok 20 (32, .iload_n 1, 1) rfl
theorem dX2_passHour_33 : decode cX2_passHour 33 = .ok (.invokevirtual 131, 3) := dTX2_passHour_0_ok 21 (33, .invokevirtual 131, 3) rfl
theorem dX2_passHour_36 : decode cX2_passHour 36 = .ok (.iinc 3 1, 3) := dTX2_passHour_0_ok 22 (36, .iinc 3 1, 3) rfl
theorem dX2_passHour_39 : decode cX2_passHour 39 = .ok (.goto (-13), 3) := dTX2_passHour_0_ok 23 (39, .goto (-13), 3) rfl
theorem dX2_passHour_42 : decode cX2_passHour 42 = .ok (.iinc 1 1, 3) := dTX2_passHour_0_ok 24 (42, .iinc 1 1, 3) rfl
theorem dX2_passHour_45 : decode cX2_passHour 45 = .ok (.goto (-36), 3) := dTX2_passHour_0_ok 25 (45, .goto (-36), 3) rfl
theorem dX2_passHour_48 : decode cX2_passHour 48 = .ok (.iconst 0, 1) := dTX2_passHour_0_ok 26 (48, .iconst 0, 1) rfl
theorem dX2_passHour_49 : decode cX2_passHour 49 = .ok (.istore_n 1, 1) := dTX2_passHour_0_ok 27 (49, .istore_n 1, 1) rfl
theorem dX2_passHour_50 : decode cX2_passHour 50 = .ok (.iconst 0, 1) := dTX2_passHour_0_ok 28 (50, .iconst 0, 1) rfl
theorem dX2_passHour_51 : decode cX2_passHour 51 = .ok (.istore_n 2, 1) := dTX2_passHour_0_ok 29 (51, .istore_n 2, 1) rfl
theorem dX2_passHour_52 : decode cX2_passHour 52 = .ok (.iload_n 2, 1) := dTX2_passHour_0_ok 30 (52, .iload_n 2, 1) rfl
theorem dX2_passHour_53 : decode cX2_passHour 53 = .ok (.aload_n 0, 1) := dTX2_passHour_0_ok 31 (53, .aload_n 0, 1) rfl
theorem dX2_passHour_54 : decode cX2_passHour 54 = .ok (.getfield 41, 3) := dTX2_passHour_0_ok 32 (54, .getfield 41, 3) rfl
theorem dX2_passHour_57 : decode cX2_passHour 57 = .ok (.if_icmp .ge 20, 3) := dTX2_passHour_0_ok 33 (57, .if_icmp .ge 20, 3) rfl
theorem dX2_passHour_60 : decode cX2_passHour 60 = .ok (.aload_n 0, 1) := dTX2_passHour_0_ok 34 (60, .aload_n 0, 1) rfl
theorem dX2_passHour_61 : decode cX2_passHour 61 = .ok (.iload_n 2, 1) := dTX2_passHour_0_ok 35 (61, .iload_n 2, 1) rfl
theorem dX2_passHour_62 : decode cX2_passHour 62 = .ok (.invokevirtual 134, 3) := dTX2_passHour_0_ok 36 (62, .invokevirtual 134, 3) rfl
theorem dX2_passHour_65 : decode cX2_passHour 65 = .ok (.ifCond .eq 6, 3) := dTX2_passHour_0_ok 37 (65, .ifCond .eq 6, 3) rfl
theorem dX2_passHour_68 : decode cX2_passHour 68 = .ok (.iinc 1 1, 3) := dTX2_passHour_0_ok 38 (68, .iinc 1 1, 3) rfl
theorem dX2_passHour_71 : decode cX2_passHour 71 = .ok (.iinc 2 1, 3) := dTX2_passHour_0_ok 39 (71, .iinc 2 1, 3) rfl
theorem dX2_passHour_74 : decode cX2_passHour 74 = .ok (.goto (-22), 3) := dTX2_passHour_0_ok 40 (74, .goto (-22), 3) rfl
theorem dX2_passHour_77 : decode cX2_passHour 77 = .ok (.aload_n 0, 1) := dTX2_passHour_0_ok 41 (77, .aload_n 0, 1) rfl
theorem dX2_passHour_78 : decode cX2_passHour 78 = .ok (.dup, 1) := dTX2_passHour_0_ok 42 (78, .dup, 1) rfl
theorem dX2_passHour_79 : decode cX2_passHour 79 = .ok (.getfield 45, 3) := dTX2_passHour_0_ok 43 (79, .getfield 45, 3) rfl
theorem dX2_passHour_82 : decode cX2_passHour 82 = .ok (.iconst 1, 1) := dTX2_passHour_0_ok 44 (82, .iconst 1, 1) rfl
theorem dX2_passHour_83 : decode cX2_passHour 83 = .ok (.iadd, 1) := dTX2_passHour_0_ok 45 (83, .iadd, 1) rfl
theorem dX2_passHour_84 : decode cX2_passHour 84 = .ok (.putfield 45, 3) := dTX2_passHour_0_ok 46 (84, .putfield 45, 3) rfl
theorem dX2_passHour_87 : decode cX2_passHour 87 = .ok (.iload_n 1, 1) := dTX2_passHour_0_ok 47 (87, .iload_n 1, 1) rfl
theorem dX2_passHour_88 : decode cX2_passHour 88 = .ok (.ireturn, 1) := dTX2_passHour_0_ok 48 (88, .ireturn, 1) rfl
noncomputable def dTX2_takeStep_0 : List (Nat × Instr × Nat) := [(0, .aload_n 0, 1), (1, .iload_n 1, 1), (2, .invokevirtual 137, 3), (5, .istore_n 2, 1), (6, .iload_n 2, 1), (7, .iconst (-1), 1), (8, .if_icmp .ne 4, 3), (11, .return_, 1), (12, .aload_n 0, 1), (13, .iload_n 1, 1), (14, .invokevirtual 70, 3), (17, .istore_n 3, 1), (18, .iload_n 3, 1), (19, .iload_n 2, 1), (20, .invokestatic 140, 3), (23, .istore 4, 2), (25, .aload_n 0, 1), (26, .iload_n 1, 1), (27, .iload 4, 2), (29, .invokevirtual 64, 3), (32, .aload_n 0, 1), (33, .getfield 12, 3), (36, .iload_n 3, 1), (37, .iload_n 2, 1), (38, .invokevirtual 145, 3), (41, .ifCond .eq 19, 3), (44, .aload_n 0, 1), (45, .iload_n 1, 1), (46, .iconst 5, 1), (47, .iconst 0, 1), (48, .invokevirtual 60, 3), (51, .aload_n 0, 1), (52, .getfield 12, 3), (55, .iload 4, 2), (57, .invokevirtual 149, 3), (60, .return_, 1)]
theorem dTX2_takeStep_0_ok : ∀ (k : Nat) (q : Nat × Instr × Nat), dTX2_takeStep_0[k]? = some q → decode cX2_takeStep q.1 = .ok q.2 := dT_of (by decide +kernel)
theorem dX2_takeStep_0 : decode cX2_takeStep 0 = .ok (.aload_n 0, 1) := dTX2_takeStep_0_ok 0 (0, .aload_n 0, 1) rfl
theorem dX2_takeStep_1 : decode cX2_takeStep 1 = .ok (.iload_n 1, 1) := dTX2_takeStep_0_ok 1 (1, .iload_n 1, 1) rfl
theorem dX2_takeStep_2 : decode cX2_takeStep 2 = .ok (.invokevirtual 137, 3) := dTX2_takeStep_0_ok 2 (2, .invokevirtual 137, 3) rfl
theorem dX2_takeStep_5 : decode cX2_takeStep 5 = .ok (.istore_n 2, 1) := dTX2_takeStep_0_ok 3 (5, .istore_n 2, 1) rfl
theorem dX2_takeStep_6 : decode cX2_takeStep 6 = .ok (.iload_n 2, 1) := dTX2_takeStep_0_ok 4 (6, .iload_n 2, 1) rfl
theorem dX2_takeStep_7 : decode cX2_takeStep 7 = .ok (.iconst (-1), 1) := dTX2_takeStep_0_ok 5 (7, .iconst (-1), 1) rfl
theorem dX2_takeStep_8 : decode cX2_takeStep 8 = .ok (.if_icmp .ne 4, 3) := dTX2_takeStep_0_ok 6 (8, .if_icmp .ne 4, 3) rfl
theorem dX2_takeStep_11 : decode cX2_takeStep 11 = .ok (.return_, 1) := dTX2_takeStep_0_ok 7 (11, .return_, 1) rfl
theorem dX2_takeStep_12 : decode cX2_takeStep 12 = .ok (.aload_n 0, 1) := dTX2_takeStep_0_ok 8 (12, .aload_n 0, 1) rfl
theorem dX2_takeStep_13 : decode cX2_takeStep 13 = .ok (.iload_n 1, 1) := dTX2_takeStep_0_ok 9 (13, .iload_n 1, 1) rfl
theorem dX2_takeStep_14 : decode cX2_takeStep 14 = .ok (.invokevirtual 70, 3) := dTX2_takeStep_0_ok 10 (14, .invokevirtual 70, 3) rfl
theorem dX2_takeStep_17 : decode cX2_takeStep 17 = .ok (.istore_n 3, 1) := dTX2_takeStep_0_ok 11 (17, .istore_n 3, 1) rfl
theorem dX2_takeStep_18 : decode cX2_takeStep 18 = .ok (.iload_n 3, 1) := dTX2_takeStep_0_ok 12 (18, .iload_n 3, 1) rfl
theorem dX2_takeStep_19 : decode cX2_takeStep 19 = .ok (.iload_n 2, 1) := dTX2_takeStep_0_ok 13 (19, .iload_n 2, 1) rfl
theorem dX2_takeStep_20 : decode cX2_takeStep 20 = .ok (.invokestatic 140, 3) := dTX2_takeStep_0_ok 14 (20, .invokestatic 140, 3) rfl
theorem dX2_takeStep_23 : decode cX2_takeStep 23 = .ok (.istore 4, 2) := dTX2_takeStep_0_ok 15 (23, .istore 4, 2) rfl
theorem dX2_takeStep_25 : decode cX2_takeStep 25 = .ok (.aload_n 0, 1) := dTX2_takeStep_0_ok 16 (25, .aload_n 0, 1) rfl
theorem dX2_takeStep_26 : decode cX2_takeStep 26 = .ok (.iload_n 1, 1) := dTX2_takeStep_0_ok 17 (26, .iload_n 1, 1) rfl
theorem dX2_takeStep_27 : decode cX2_takeStep 27 = .ok (.iload 4, 2) := dTX2_takeStep_0_ok 18 (27, .iload 4, 2) rfl
theorem dX2_takeStep_29 : decode cX2_takeStep 29 = .ok (.invokevirtual 64, 3) := dTX2_takeStep_0_ok 19 (29, .invokevirtual 64, 3) rfl
theorem dX2_takeStep_32 : decode cX2_takeStep 32 = .ok (.aload_n 0, 1) := dTX2_takeStep_0_ok 20 (32, .aload_n 0, 1) rfl
theorem dX2_takeStep_33 : decode cX2_takeStep 33 = .ok (.getfield 12, 3) := dTX2_takeStep_0_ok 21 (33, .getfield 12, 3) rfl
theorem dX2_takeStep_36 : decode cX2_takeStep 36 = .ok (.iload_n 3, 1) := dTX2_takeStep_0_ok 22 (36, .iload_n 3, 1) rfl
theorem dX2_takeStep_37 : decode cX2_takeStep 37 = .ok (.iload_n 2, 1) := dTX2_takeStep_0_ok 23 (37, .iload_n 2, 1) rfl
theorem dX2_takeStep_38 : decode cX2_takeStep 38 = .ok (.invokevirtual 145, 3) := dTX2_takeStep_0_ok 24 (38, .invokevirtual 145, 3) rfl
theorem dX2_takeStep_41 : decode cX2_takeStep 41 = .ok (.ifCond .eq 19, 3) := dTX2_takeStep_0_ok 25 (41, .ifCond .eq 19, 3) rfl
theorem dX2_takeStep_44 : decode cX2_takeStep 44 = .ok (.aload_n 0, 1) := dTX2_takeStep_0_ok 26 (44, .aload_n 0, 1) rfl
theorem dX2_takeStep_45 : decode cX2_takeStep 45 = .ok (.iload_n 1, 1) := dTX2_takeStep_0_ok 27 (45, .iload_n 1, 1) rfl
theorem dX2_takeStep_46 : decode cX2_takeStep 46 = .ok (.iconst 5, 1) := dTX2_takeStep_0_ok 28 (46, .iconst 5, 1) rfl
theorem dX2_takeStep_47 : decode cX2_takeStep 47 = .ok (.iconst 0, 1) := dTX2_takeStep_0_ok 29 (47, .iconst 0, 1) rfl
theorem dX2_takeStep_48 : decode cX2_takeStep 48 = .ok (.invokevirtual 60, 3) := dTX2_takeStep_0_ok 30 (48, .invokevirtual 60, 3) rfl
theorem dX2_takeStep_51 : decode cX2_takeStep 51 = .ok (.aload_n 0, 1) := dTX2_takeStep_0_ok 31 (51, .aload_n 0, 1) rfl
theorem dX2_takeStep_52 : decode cX2_takeStep 52 = .ok (.getfield 12, 3) := dTX2_takeStep_0_ok 32 (52, .getfield 12, 3) rfl
theorem dX2_takeStep_55 : decode cX2_takeStep 55 = .ok (.iload 4, 2) := dTX2_takeStep_0_ok 33 (55, .iload 4, 2) rfl
theorem dX2_takeStep_57 : decode cX2_takeStep 57 = .ok (.invokevirtual 149, 3) := dTX2_takeStep_0_ok 34 (57, .invokevirtual 149, 3) rfl
theorem dX2_takeStep_60 : decode cX2_takeStep 60 = .ok (.return_, 1) := dTX2_takeStep_0_ok 35 (60, .return_, 1) rfl
noncomputable def dTX2_hauntsOrFears_0 : List (Nat × Instr × Nat) := [(0, .aload_n 0, 1), (1, .iload_n 1, 1), (2, .invokevirtual 70, 3), (5, .istore_n 2, 1), (6, .aload_n 0, 1), (7, .getfield 12, 3), (10, .iload_n 2, 1), (11, .invokevirtual 86, 3), (14, .ifCond .eq 21, 3), (17, .aload_n 0, 1), (18, .iload_n 1, 1), (19, .bipush 7, 2), (21, .aload_n 0, 1), (22, .iload_n 1, 1), (23, .bipush 7, 2), (25, .invokevirtual 56, 3), (28, .iconst 1, 1), (29, .iadd, 1), (30, .invokevirtual 60, 3), (33, .iconst 0, 1), (34, .ireturn, 1), (35, .aload_n 0, 1), (36, .getfield 12, 3), (39, .iload_n 2, 1), (40, .invokevirtual 152, 3), (43, .ifCond .ne 5, 3), (46, .iconst 0, 1), (47, .ireturn, 1), (48, .aload_n 0, 1), (49, .getfield 12, 3), (52, .iload_n 2, 1), (53, .invokevirtual 155, 3), (56, .aload_n 0, 1), (57, .iload_n 1, 1), (58, .bipush 6, 2), (60, .aload_n 0, 1), (61, .iload_n 1, 1), (62, .bipush 6, 2), (64, .invokevirtual 56, 3), (67, .iconst 1, 1), (68, .iadd, 1), (69, .invokevirtual 60, 3), (72, .iconst 1, 1), (73, .ireturn, 1)]
theorem dTX2_hauntsOrFears_0_ok : ∀ (k : Nat) (q : Nat × Instr × Nat), dTX2_hauntsOrFears_0[k]? = some q → decode cX2_hauntsOrFears q.1 = .ok q.2 := dT_of (by decide +kernel)
theorem dX2_hauntsOrFears_0 : decode cX2_hauntsOrFears 0 = .ok (.aload_n 0, 1) := dTX2_hauntsOrFears_0_ok 0 (0, .aload_n 0, 1) rfl
theorem dX2_hauntsOrFears_1 : decode cX2_hauntsOrFears 1 = .ok (.iload_n 1, 1) := dTX2_hauntsOrFears_0_ok 1 (1, .iload_n 1, 1) rfl
theorem dX2_hauntsOrFears_2 : decode cX2_hauntsOrFears 2 = .ok (.invokevirtual 70, 3) := dTX2_hauntsOrFears_0_ok 2 (2, .invokevirtual 70, 3) rfl
theorem dX2_hauntsOrFears_5 : decode cX2_hauntsOrFears 5 = .ok (.istore_n 2, 1) := dTX2_hauntsOrFears_0_ok 3 (5, .istore_n 2, 1) rfl
theorem dX2_hauntsOrFears_6 : decode cX2_hauntsOrFears 6 = .ok (.aload_n 0, 1) := dTX2_hauntsOrFears_0_ok 4 (6, .aload_n 0, 1) rfl
theorem dX2_hauntsOrFears_7 : decode cX2_hauntsOrFears 7 = .ok (.getfield 12, 3) := dTX2_hauntsOrFears_0_ok 5 (7, .getfield 12, 3) rfl
theorem dX2_hauntsOrFears_10 : decode cX2_hauntsOrFears 10 = .ok (.iload_n 2, 1) := dTX2_hauntsOrFears_0_ok 6 (10, .iload_n 2, 1) rfl
theorem dX2_hauntsOrFears_11 : decode cX2_hauntsOrFears 11 = .ok (.invokevirtual 86, 3) := dTX2_hauntsOrFears_0_ok 7 (11, .invokevirtual 86, 3) rfl
theorem dX2_hauntsOrFears_14 : decode cX2_hauntsOrFears 14 = .ok (.ifCond .eq 21, 3) := dTX2_hauntsOrFears_0_ok 8 (14, .ifCond .eq 21, 3) rfl
theorem dX2_hauntsOrFears_17 : decode cX2_hauntsOrFears 17 = .ok (.aload_n 0, 1) := dTX2_hauntsOrFears_0_ok 9 (17, .aload_n 0, 1) rfl
theorem dX2_hauntsOrFears_18 : decode cX2_hauntsOrFears 18 = .ok (.iload_n 1, 1) := dTX2_hauntsOrFears_0_ok 10 (18, .iload_n 1, 1) rfl
theorem dX2_hauntsOrFears_19 : decode cX2_hauntsOrFears 19 = .ok (.bipush 7, 2) := dTX2_hauntsOrFears_0_ok 11 (19, .bipush 7, 2) rfl
theorem dX2_hauntsOrFears_21 : decode cX2_hauntsOrFears 21 = .ok (.aload_n 0, 1) := dTX2_hauntsOrFears_0_ok 12 (21, .aload_n 0, 1) rfl
theorem dX2_hauntsOrFears_22 : decode cX2_hauntsOrFears 22 = .ok (.iload_n 1, 1) := dTX2_hauntsOrFears_0_ok 13 (22, .iload_n 1, 1) rfl
theorem dX2_hauntsOrFears_23 : decode cX2_hauntsOrFears 23 = .ok (.bipush 7, 2) := dTX2_hauntsOrFears_0_ok 14 (23, .bipush 7, 2) rfl
theorem dX2_hauntsOrFears_25 : decode cX2_hauntsOrFears 25 = .ok (.invokevirtual 56, 3) := dTX2_hauntsOrFears_0_ok 15 (25, .invokevirtual 56, 3) rfl
theorem dX2_hauntsOrFears_28 : decode cX2_hauntsOrFears 28 = .ok (.iconst 1, 1) := dTX2_hauntsOrFears_0_ok 16 (28, .iconst 1, 1) rfl
theorem dX2_hauntsOrFears_29 : decode cX2_hauntsOrFears 29 = .ok (.iadd, 1) := dTX2_hauntsOrFears_0_ok 17 (29, .iadd, 1) rfl
theorem dX2_hauntsOrFears_30 : decode cX2_hauntsOrFears 30 = .ok (.invokevirtual 60, 3) := dTX2_hauntsOrFears_0_ok 18 (30, .invokevirtual 60, 3) rfl
theorem dX2_hauntsOrFears_33 : decode cX2_hauntsOrFears 33 = .ok (.iconst 0, 1) := dTX2_hauntsOrFears_0_ok 19 (33, .iconst 0, 1) rfl
theorem dX2_hauntsOrFears_34 : decode cX2_hauntsOrFears 34 = .ok (.ireturn, 1) := dTX2_hauntsOrFears_0_ok 20 (34, .ireturn, 1) rfl
theorem dX2_hauntsOrFears_35 : decode cX2_hauntsOrFears 35 = .ok (.aload_n 0, 1) := dTX2_hauntsOrFears_0_ok 21 (35, .aload_n 0, 1) rfl
theorem dX2_hauntsOrFears_36 : decode cX2_hauntsOrFears 36 = .ok (.getfield 12, 3) := dTX2_hauntsOrFears_0_ok 22 (36, .getfield 12, 3) rfl
theorem dX2_hauntsOrFears_39 : decode cX2_hauntsOrFears 39 = .ok (.iload_n 2, 1) := dTX2_hauntsOrFears_0_ok 23 (39, .iload_n 2, 1) rfl
theorem dX2_hauntsOrFears_40 : decode cX2_hauntsOrFears 40 = .ok (.invokevirtual 152, 3) := dTX2_hauntsOrFears_0_ok 24 (40, .invokevirtual 152, 3) rfl
theorem dX2_hauntsOrFears_43 : decode cX2_hauntsOrFears 43 = .ok (.ifCond .ne 5, 3) := dTX2_hauntsOrFears_0_ok 25 (43, .ifCond .ne 5, 3) rfl
theorem dX2_hauntsOrFears_46 : decode cX2_hauntsOrFears 46 = .ok (.iconst 0, 1) := dTX2_hauntsOrFears_0_ok 26 (46, .iconst 0, 1) rfl
theorem dX2_hauntsOrFears_47 : decode cX2_hauntsOrFears 47 = .ok (.ireturn, 1) := dTX2_hauntsOrFears_0_ok 27 (47, .ireturn, 1) rfl
theorem dX2_hauntsOrFears_48 : decode cX2_hauntsOrFears 48 = .ok (.aload_n 0, 1) := dTX2_hauntsOrFears_0_ok 28 (48, .aload_n 0, 1) rfl
theorem dX2_hauntsOrFears_49 : decode cX2_hauntsOrFears 49 = .ok (.getfield 12, 3) := dTX2_hauntsOrFears_0_ok 29 (49, .getfield 12, 3) rfl
theorem dX2_hauntsOrFears_52 : decode cX2_hauntsOrFears 52 = .ok (.iload_n 2, 1) := dTX2_hauntsOrFears_0_ok 30 (52, .iload_n 2, 1) rfl
theorem dX2_hauntsOrFears_53 : decode cX2_hauntsOrFears 53 = .ok (.invokevirtual 155, 3) := dTX2_hauntsOrFears_0_ok 31 (53, .invokevirtual 155, 3) rfl
theorem dX2_hauntsOrFears_56 : decode cX2_hauntsOrFears 56 = .ok (.aload_n 0, 1) := dTX2_hauntsOrFears_0_ok 32 (56, .aload_n 0, 1) rfl
theorem dX2_hauntsOrFears_57 : decode cX2_hauntsOrFears 57 = .ok (.iload_n 1, 1) := dTX2_hauntsOrFears_0_ok 33 (57, .iload_n 1, 1) rfl
theorem dX2_hauntsOrFears_58 : decode cX2_hauntsOrFears 58 = .ok (.bipush 6, 2) := dTX2_hauntsOrFears_0_ok 34 (58, .bipush 6, 2) rfl
theorem dX2_hauntsOrFears_60 : decode cX2_hauntsOrFears 60 = .ok (.aload_n 0, 1) := dTX2_hauntsOrFears_0_ok 35 (60, .aload_n 0, 1) rfl
theorem dX2_hauntsOrFears_61 : decode cX2_hauntsOrFears 61 = .ok (.iload_n 1, 1) := dTX2_hauntsOrFears_0_ok 36 (61, .iload_n 1, 1) rfl
theorem dX2_hauntsOrFears_62 : decode cX2_hauntsOrFears 62 = .ok (.bipush 6, 2) := dTX2_hauntsOrFears_0_ok 37 (62, .bipush 6, 2) rfl
theorem dX2_hauntsOrFears_64 : decode cX2_hauntsOrFears 64 = .ok (.invokevirtual 56, 3) := dTX2_hauntsOrFears_0_ok 38 (64, .invokevirtual 56, 3) rfl
theorem dX2_hauntsOrFears_67 : decode cX2_hauntsOrFears 67 = .ok (.iconst 1, 1) := dTX2_hauntsOrFears_0_ok 39 (67, .iconst 1, 1) rfl
theorem dX2_hauntsOrFears_68 : decode cX2_hauntsOrFears 68 = .ok (.iadd, 1) := dTX2_hauntsOrFears_0_ok 40 (68, .iadd, 1) rfl
theorem dX2_hauntsOrFears_69 : decode cX2_hauntsOrFears 69 = .ok (.invokevirtual 60, 3) := dTX2_hauntsOrFears_0_ok 41 (69, .invokevirtual 60, 3) rfl
theorem dX2_hauntsOrFears_72 : decode cX2_hauntsOrFears 72 = .ok (.iconst 1, 1) := dTX2_hauntsOrFears_0_ok 42 (72, .iconst 1, 1) rfl
theorem dX2_hauntsOrFears_73 : decode cX2_hauntsOrFears 73 = .ok (.ireturn, 1) := dTX2_hauntsOrFears_0_ok 43 (73, .ireturn, 1) rfl
noncomputable def dTX3_init_0 : List (Nat × Instr × Nat) := [(0, .aload_n 0, 1), (1, .invokespecial 1, 3), (4, .aload_n 0, 1), (5, .iload_n 1, 1), (6, .ifCond .ge 7, 3), (9, .iconst 0, 1), (10, .goto 4, 3), (13, .iload_n 1, 1), (14, .newarray .int, 2), (16, .putfield 7, 3), (19, .return_, 1)]
theorem dTX3_init_0_ok : ∀ (k : Nat) (q : Nat × Instr × Nat), dTX3_init_0[k]? = some q → decode cX3_init q.1 = .ok q.2 := dT_of (by decide +kernel)
theorem dX3_init_0 : decode cX3_init 0 = .ok (.aload_n 0, 1) := dTX3_init_0_ok 0 (0, .aload_n 0, 1) rfl
theorem dX3_init_1 : decode cX3_init 1 = .ok (.invokespecial 1, 3) := dTX3_init_0_ok 1 (1, .invokespecial 1, 3) rfl
theorem dX3_init_4 : decode cX3_init 4 = .ok (.aload_n 0, 1) := dTX3_init_0_ok 2 (4, .aload_n 0, 1) rfl
theorem dX3_init_5 : decode cX3_init 5 = .ok (.iload_n 1, 1) := dTX3_init_0_ok 3 (5, .iload_n 1, 1) rfl
theorem dX3_init_6 : decode cX3_init 6 = .ok (.ifCond .ge 7, 3) := dTX3_init_0_ok 4 (6, .ifCond .ge 7, 3) rfl
theorem dX3_init_9 : decode cX3_init 9 = .ok (.iconst 0, 1) := dTX3_init_0_ok 5 (9, .iconst 0, 1) rfl
theorem dX3_init_10 : decode cX3_init 10 = .ok (.goto 4, 3) := dTX3_init_0_ok 6 (10, .goto 4, 3) rfl
theorem dX3_init_13 : decode cX3_init 13 = .ok (.iload_n 1, 1) := dTX3_init_0_ok 7 (13, .iload_n 1, 1) rfl
theorem dX3_init_14 : decode cX3_init 14 = .ok (.newarray .int, 2) := dTX3_init_0_ok 8 (14, .newarray .int, 2) rfl
theorem dX3_init_16 : decode cX3_init 16 = .ok (.putfield 7, 3) := dTX3_init_0_ok 9 (16, .putfield 7, 3) rfl
theorem dX3_init_19 : decode cX3_init 19 = .ok (.return_, 1) := dTX3_init_0_ok 10 (19, .return_, 1) rfl
noncomputable def dTX3_get_0 : List (Nat × Instr × Nat) := [(0, .iload_n 1, 1), (1, .ifCond .lt 21, 3), (4, .iload_n 1, 1), (5, .aload_n 0, 1), (6, .getfield 7, 3), (9, .arraylength, 1), (10, .if_icmp .ge 12, 3), (13, .aload_n 0, 1), (14, .getfield 7, 3), (17, .iload_n 1, 1), (18, .iaload, 1), (19, .goto 4, 3), (22, .iconst 0, 1), (23, .ireturn, 1)]
theorem dTX3_get_0_ok : ∀ (k : Nat) (q : Nat × Instr × Nat), dTX3_get_0[k]? = some q → decode cX3_get q.1 = .ok q.2 := dT_of (by decide +kernel)
theorem dX3_get_0 : decode cX3_get 0 = .ok (.iload_n 1, 1) := dTX3_get_0_ok 0 (0, .iload_n 1, 1) rfl
theorem dX3_get_1 : decode cX3_get 1 = .ok (.ifCond .lt 21, 3) := dTX3_get_0_ok 1 (1, .ifCond .lt 21, 3) rfl
theorem dX3_get_4 : decode cX3_get 4 = .ok (.iload_n 1, 1) := dTX3_get_0_ok 2 (4, .iload_n 1, 1) rfl
theorem dX3_get_5 : decode cX3_get 5 = .ok (.aload_n 0, 1) := dTX3_get_0_ok 3 (5, .aload_n 0, 1) rfl
theorem dX3_get_6 : decode cX3_get 6 = .ok (.getfield 7, 3) := dTX3_get_0_ok 4 (6, .getfield 7, 3) rfl
theorem dX3_get_9 : decode cX3_get 9 = .ok (.arraylength, 1) := dTX3_get_0_ok 5 (9, .arraylength, 1) rfl
theorem dX3_get_10 : decode cX3_get 10 = .ok (.if_icmp .ge 12, 3) := dTX3_get_0_ok 6 (10, .if_icmp .ge 12, 3) rfl
theorem dX3_get_13 : decode cX3_get 13 = .ok (.aload_n 0, 1) := dTX3_get_0_ok 7 (13, .aload_n 0, 1) rfl
theorem dX3_get_14 : decode cX3_get 14 = .ok (.getfield 7, 3) := dTX3_get_0_ok 8 (14, .getfield 7, 3) rfl
theorem dX3_get_17 : decode cX3_get 17 = .ok (.iload_n 1, 1) := dTX3_get_0_ok 9 (17, .iload_n 1, 1) rfl
theorem dX3_get_18 : decode cX3_get 18 = .ok (.iaload, 1) := dTX3_get_0_ok 10 (18, .iaload, 1) rfl
theorem dX3_get_19 : decode cX3_get 19 = .ok (.goto 4, 3) := dTX3_get_0_ok 11 (19, .goto 4, 3) rfl
theorem dX3_get_22 : decode cX3_get 22 = .ok (.iconst 0, 1) := dTX3_get_0_ok 12 (22, .iconst 0, 1) rfl
theorem dX3_get_23 : decode cX3_get 23 = .ok (.ireturn, 1) := dTX3_get_0_ok 13 (23, .ireturn, 1) rfl
noncomputable def dTX3_put_0 : List (Nat × Instr × Nat) := [(0, .iload_n 1, 1), (1, .ifCond .lt 19, 3), (4, .iload_n 1, 1), (5, .aload_n 0, 1), (6, .getfield 7, 3), (9, .arraylength, 1), (10, .if_icmp .ge 10, 3), (13, .aload_n 0, 1), (14, .getfield 7, 3), (17, .iload_n 1, 1), (18, .iload_n 2, 1), (19, .iastore, 1), (20, .return_, 1)]
theorem dTX3_put_0_ok : ∀ (k : Nat) (q : Nat × Instr × Nat), dTX3_put_0[k]? = some q → decode cX3_put q.1 = .ok q.2 := dT_of (by decide +kernel)
theorem dX3_put_0 : decode cX3_put 0 = .ok (.iload_n 1, 1) := dTX3_put_0_ok 0 (0, .iload_n 1, 1) rfl
theorem dX3_put_1 : decode cX3_put 1 = .ok (.ifCond .lt 19, 3) := dTX3_put_0_ok 1 (1, .ifCond .lt 19, 3) rfl
theorem dX3_put_4 : decode cX3_put 4 = .ok (.iload_n 1, 1) := dTX3_put_0_ok 2 (4, .iload_n 1, 1) rfl
theorem dX3_put_5 : decode cX3_put 5 = .ok (.aload_n 0, 1) := dTX3_put_0_ok 3 (5, .aload_n 0, 1) rfl
theorem dX3_put_6 : decode cX3_put 6 = .ok (.getfield 7, 3) := dTX3_put_0_ok 4 (6, .getfield 7, 3) rfl
theorem dX3_put_9 : decode cX3_put 9 = .ok (.arraylength, 1) := dTX3_put_0_ok 5 (9, .arraylength, 1) rfl
theorem dX3_put_10 : decode cX3_put 10 = .ok (.if_icmp .ge 10, 3) := dTX3_put_0_ok 6 (10, .if_icmp .ge 10, 3) rfl
theorem dX3_put_13 : decode cX3_put 13 = .ok (.aload_n 0, 1) := dTX3_put_0_ok 7 (13, .aload_n 0, 1) rfl
theorem dX3_put_14 : decode cX3_put 14 = .ok (.getfield 7, 3) := dTX3_put_0_ok 8 (14, .getfield 7, 3) rfl
theorem dX3_put_17 : decode cX3_put 17 = .ok (.iload_n 1, 1) := dTX3_put_0_ok 9 (17, .iload_n 1, 1) rfl
theorem dX3_put_18 : decode cX3_put 18 = .ok (.iload_n 2, 1) := dTX3_put_0_ok 10 (18, .iload_n 2, 1) rfl
theorem dX3_put_19 : decode cX3_put 19 = .ok (.iastore, 1) := dTX3_put_0_ok 11 (19, .iastore, 1) rfl
theorem dX3_put_20 : decode cX3_put 20 = .ok (.return_, 1) := dTX3_put_0_ok 12 (20, .return_, 1) rfl
noncomputable def dTX3_copyFrom_0 : List (Nat × Instr × Nat) := [(0, .iconst 0, 1), (1, .istore_n 2, 1), (2, .iload_n 2, 1), (3, .aload_n 0, 1), (4, .getfield 7, 3), (7, .arraylength, 1), (8, .if_icmp .ge 20, 3), (11, .aload_n 0, 1), (12, .getfield 7, 3), (15, .iload_n 2, 1), (16, .aload_n 1, 1), (17, .iload_n 2, 1), (18, .invokevirtual 13, 3), (21, .iastore, 1), (22, .iinc 2 1, 3), (25, .goto (-23), 3), (28, .return_, 1)]
theorem dTX3_copyFrom_0_ok : ∀ (k : Nat) (q : Nat × Instr × Nat), dTX3_copyFrom_0[k]? = some q → decode cX3_copyFrom q.1 = .ok q.2 := dT_of (by decide +kernel)
theorem dX3_copyFrom_0 : decode cX3_copyFrom 0 = .ok (.iconst 0, 1) := dTX3_copyFrom_0_ok 0 (0, .iconst 0, 1) rfl
theorem dX3_copyFrom_1 : decode cX3_copyFrom 1 = .ok (.istore_n 2, 1) := dTX3_copyFrom_0_ok 1 (1, .istore_n 2, 1) rfl
theorem dX3_copyFrom_2 : decode cX3_copyFrom 2 = .ok (.iload_n 2, 1) := dTX3_copyFrom_0_ok 2 (2, .iload_n 2, 1) rfl
theorem dX3_copyFrom_3 : decode cX3_copyFrom 3 = .ok (.aload_n 0, 1) := dTX3_copyFrom_0_ok 3 (3, .aload_n 0, 1) rfl
theorem dX3_copyFrom_4 : decode cX3_copyFrom 4 = .ok (.getfield 7, 3) := dTX3_copyFrom_0_ok 4 (4, .getfield 7, 3) rfl
theorem dX3_copyFrom_7 : decode cX3_copyFrom 7 = .ok (.arraylength, 1) := dTX3_copyFrom_0_ok 5 (7, .arraylength, 1) rfl
theorem dX3_copyFrom_8 : decode cX3_copyFrom 8 = .ok (.if_icmp .ge 20, 3) := dTX3_copyFrom_0_ok 6 (8, .if_icmp .ge 20, 3) rfl
theorem dX3_copyFrom_11 : decode cX3_copyFrom 11 = .ok (.aload_n 0, 1) := dTX3_copyFrom_0_ok 7 (11, .aload_n 0, 1) rfl
theorem dX3_copyFrom_12 : decode cX3_copyFrom 12 = .ok (.getfield 7, 3) := dTX3_copyFrom_0_ok 8 (12, .getfield 7, 3) rfl
theorem dX3_copyFrom_15 : decode cX3_copyFrom 15 = .ok (.iload_n 2, 1) := dTX3_copyFrom_0_ok 9 (15, .iload_n 2, 1) rfl
theorem dX3_copyFrom_16 : decode cX3_copyFrom 16 = .ok (.aload_n 1, 1) := dTX3_copyFrom_0_ok 10 (16, .aload_n 1, 1) rfl
theorem dX3_copyFrom_17 : decode cX3_copyFrom 17 = .ok (.iload_n 2, 1) := dTX3_copyFrom_0_ok 11 (17, .iload_n 2, 1) rfl
theorem dX3_copyFrom_18 : decode cX3_copyFrom 18 = .ok (.invokevirtual 13, 3) := dTX3_copyFrom_0_ok 12 (18, .invokevirtual 13, 3) rfl
theorem dX3_copyFrom_21 : decode cX3_copyFrom 21 = .ok (.iastore, 1) := dTX3_copyFrom_0_ok 13 (21, .iastore, 1) rfl
theorem dX3_copyFrom_22 : decode cX3_copyFrom 22 = .ok (.iinc 2 1, 3) := dTX3_copyFrom_0_ok 14 (22, .iinc 2 1, 3) rfl
theorem dX3_copyFrom_25 : decode cX3_copyFrom 25 = .ok (.goto (-23), 3) := dTX3_copyFrom_0_ok 15 (25, .goto (-23), 3) rfl
theorem dX3_copyFrom_28 : decode cX3_copyFrom 28 = .ok (.return_, 1) := dTX3_copyFrom_0_ok 16 (28, .return_, 1) rfl
noncomputable def dTX4_init_0 : List (Nat × Instr × Nat) := [(0, .aload_n 0, 1), (1, .invokespecial 3, 3), (4, .return_, 1)]
theorem dTX4_init_0_ok : ∀ (k : Nat) (q : Nat × Instr × Nat), dTX4_init_0[k]? = some q → decode cX4_init q.1 = .ok q.2 := dT_of (by decide +kernel)
theorem dX4_init_0 : decode cX4_init 0 = .ok (.aload_n 0, 1) := dTX4_init_0_ok 0 (0, .aload_n 0, 1) rfl
theorem dX4_init_1 : decode cX4_init 1 = .ok (.invokespecial 3, 3) := dTX4_init_0_ok 1 (1, .invokespecial 3, 3) rfl
theorem dX4_init_4 : decode cX4_init 4 = .ok (.return_, 1) := dTX4_init_0_ok 2 (4, .return_, 1) rfl
noncomputable def dTX4_fewestSteps_0 : List (Nat × Instr × Nat) := [(0, .aload_n 0, 1), (1, .iload_n 2, 1), (2, .invokestatic 9, 3), (5, .putfield 15, 3), (8, .aload_n 0, 1), (9, .iload 4, 2), (11, .putfield 21, 3), (14, .aload_n 1, 1), (15, .getfield 25, 3), (18, .ldc2_w 30, 3), (21, .lxor, 1), (22, .aload_n 0, 1), (23, .getfield 15, 3), (26, .lor, 1), (27, .lstore 5, 2), (29, .aload_n 0, 1), (30, .iload_n 3, 1), (31, .invokestatic 9, 3), (34, .lload 5, 2), (36, .land, 1), (37, .putfield 32, 3), (40, .aload_n 0, 1), (41, .lconst 0, 1), (42, .putfield 35, 3), (45, .iload_n 2, 1), (46, .iload_n 3, 1), (47, .if_icmp .ne 5, 3), (50, .iconst 0, 1), (51, .ireturn, 1), (52, .iconst 1, 1), (53, .istore 7, 2), (55, .iload 7, 2), (57, .bipush 63, 2), (59, .if_icmp .ge 127, 3), (62, .aload_n 0, 1), (63, .getfield 32, 3), (66, .aload_n 1, 1), (67, .aload_n 0, 1), (68, .getfield 32, 3), (71, .iconst 0, 1), (72, .invokevirtual 38, 3), (75, .lload 5, 2), (77, .land, 1), (78, .lor, 1), (79, .lstore 8, 2), (81, .aload_n 0, 1), (82, .getfield 35, 3), (85, .lstore 10, 2), (87, .aload_n 0, 1), (88, .getfield 21, 3), (91, .ifCond .eq 37, 3), (94, .lload 10, 2), (96, .aload_n 1, 1), (97, .aload_n 0, 1), (98, .getfield 35, 3), (101, .iconst 0, 1), (102, .invokevirtual 38, 3), (105, .lload 5, 2), (107, .land, 1), (108, .lor, 1)]
theorem dTX4_fewestSteps_0_ok : ∀ (k : Nat) (q : Nat × Instr × Nat), dTX4_fewestSteps_0[k]? = some q → decode cX4_fewestSteps q.1 = .ok q.2 := dT_of (by decide +kernel)
theorem dX4_fewestSteps_0 : decode cX4_fewestSteps 0 = .ok (.aload_n 0, 1) := dTX4_fewestSteps_0_ok 0 (0, .aload_n 0, 1) rfl
theorem dX4_fewestSteps_1 : decode cX4_fewestSteps 1 = .ok (.iload_n 2, 1) := dTX4_fewestSteps_0_ok 1 (1, .iload_n 2, 1) rfl
theorem dX4_fewestSteps_2 : decode cX4_fewestSteps 2 = .ok (.invokestatic 9, 3) := dTX4_fewestSteps_0_ok 2 (2, .invokestatic 9, 3) rfl
theorem dX4_fewestSteps_5 : decode cX4_fewestSteps 5 = .ok (.putfield 15, 3) := dTX4_fewestSteps_0_ok 3 (5, .putfield 15, 3) rfl
theorem dX4_fewestSteps_8 : decode cX4_fewestSteps 8 = .ok (.aload_n 0, 1) := dTX4_fewestSteps_0_ok 4 (8, .aload_n 0, 1) rfl
theorem dX4_fewestSteps_9 : decode cX4_fewestSteps 9 = .ok (.iload 4, 2) := dTX4_fewestSteps_0_ok 5 (9, .iload 4, 2) rfl
theorem dX4_fewestSteps_11 : decode cX4_fewestSteps 11 = .ok (.putfield 21, 3) := dTX4_fewestSteps_0_ok 6 (11, .putfield 21, 3) rfl
theorem dX4_fewestSteps_14 : decode cX4_fewestSteps 14 = .ok (.aload_n 1, 1) := dTX4_fewestSteps_0_ok 7 (14, .aload_n 1, 1) rfl
theorem dX4_fewestSteps_15 : decode cX4_fewestSteps 15 = .ok (.getfield 25, 3) := dTX4_fewestSteps_0_ok 8 (15, .getfield 25, 3) rfl
theorem dX4_fewestSteps_18 : decode cX4_fewestSteps 18 = .ok (.ldc2_w 30, 3) := dTX4_fewestSteps_0_ok 9 (18, .ldc2_w 30, 3) rfl
theorem dX4_fewestSteps_21 : decode cX4_fewestSteps 21 = .ok (.lxor, 1) := dTX4_fewestSteps_0_ok 10 (21, .lxor, 1) rfl
theorem dX4_fewestSteps_22 : decode cX4_fewestSteps 22 = .ok (.aload_n 0, 1) := dTX4_fewestSteps_0_ok 11 (22, .aload_n 0, 1) rfl
theorem dX4_fewestSteps_23 : decode cX4_fewestSteps 23 = .ok (.getfield 15, 3) := dTX4_fewestSteps_0_ok 12 (23, .getfield 15, 3) rfl
theorem dX4_fewestSteps_26 : decode cX4_fewestSteps 26 = .ok (.lor, 1) := dTX4_fewestSteps_0_ok 13 (26, .lor, 1) rfl
theorem dX4_fewestSteps_27 : decode cX4_fewestSteps 27 = .ok (.lstore 5, 2) := dTX4_fewestSteps_0_ok 14 (27, .lstore 5, 2) rfl
theorem dX4_fewestSteps_29 : decode cX4_fewestSteps 29 = .ok (.aload_n 0, 1) := dTX4_fewestSteps_0_ok 15 (29, .aload_n 0, 1) rfl
theorem dX4_fewestSteps_30 : decode cX4_fewestSteps 30 = .ok (.iload_n 3, 1) := dTX4_fewestSteps_0_ok 16 (30, .iload_n 3, 1) rfl
theorem dX4_fewestSteps_31 : decode cX4_fewestSteps 31 = .ok (.invokestatic 9, 3) := dTX4_fewestSteps_0_ok 17 (31, .invokestatic 9, 3) rfl
theorem dX4_fewestSteps_34 : decode cX4_fewestSteps 34 = .ok (.lload 5, 2) := dTX4_fewestSteps_0_ok 18 (34, .lload 5, 2) rfl
theorem dX4_fewestSteps_36 : decode cX4_fewestSteps 36 = .ok (.land, 1) := dTX4_fewestSteps_0_ok 19 (36, .land, 1) rfl
theorem dX4_fewestSteps_37 : decode cX4_fewestSteps 37 = .ok (.putfield 32, 3) := dTX4_fewestSteps_0_ok 20 (37, .putfield 32, 3) rfl
theorem dX4_fewestSteps_40 : decode cX4_fewestSteps 40 = .ok (.aload_n 0, 1) := dTX4_fewestSteps_0_ok 21 (40, .aload_n 0, 1) rfl
theorem dX4_fewestSteps_41 : decode cX4_fewestSteps 41 = .ok (.lconst 0, 1) := dTX4_fewestSteps_0_ok 22 (41, .lconst 0, 1) rfl
theorem dX4_fewestSteps_42 : decode cX4_fewestSteps 42 = .ok (.putfield 35, 3) := dTX4_fewestSteps_0_ok 23 (42, .putfield 35, 3) rfl
theorem dX4_fewestSteps_45 : decode cX4_fewestSteps 45 = .ok (.iload_n 2, 1) := dTX4_fewestSteps_0_ok 24 (45, .iload_n 2, 1) rfl
theorem dX4_fewestSteps_46 : decode cX4_fewestSteps 46 = .ok (.iload_n 3, 1) := dTX4_fewestSteps_0_ok 25 (46, .iload_n 3, 1) rfl
theorem dX4_fewestSteps_47 : decode cX4_fewestSteps 47 = .ok (.if_icmp .ne 5, 3) := dTX4_fewestSteps_0_ok 26 (47, .if_icmp .ne 5, 3) rfl
theorem dX4_fewestSteps_50 : decode cX4_fewestSteps 50 = .ok (.iconst 0, 1) := dTX4_fewestSteps_0_ok 27 (50, .iconst 0, 1) rfl
theorem dX4_fewestSteps_51 : decode cX4_fewestSteps 51 = .ok (.ireturn, 1) := dTX4_fewestSteps_0_ok 28 (51, .ireturn, 1) rfl
theorem dX4_fewestSteps_52 : decode cX4_fewestSteps 52 = .ok (.iconst 1, 1) := dTX4_fewestSteps_0_ok 29 (52, .iconst 1, 1) rfl
theorem dX4_fewestSteps_53 : decode cX4_fewestSteps 53 = .ok (.istore 7, 2) := dTX4_fewestSteps_0_ok 30 (53, .istore 7, 2) rfl
theorem dX4_fewestSteps_55 : decode cX4_fewestSteps 55 = .ok (.iload 7, 2) := dTX4_fewestSteps_0_ok 31 (55, .iload 7, 2) rfl
theorem dX4_fewestSteps_57 : decode cX4_fewestSteps 57 = .ok (.bipush 63, 2) := dTX4_fewestSteps_0_ok 32 (57, .bipush 63, 2) rfl
theorem dX4_fewestSteps_59 : decode cX4_fewestSteps 59 = .ok (.if_icmp .ge 127, 3) := dTX4_fewestSteps_0_ok 33 (59, .if_icmp .ge 127, 3) rfl
theorem dX4_fewestSteps_62 : decode cX4_fewestSteps 62 = .ok (.aload_n 0, 1) := dTX4_fewestSteps_0_ok 34 (62, .aload_n 0, 1) rfl
theorem dX4_fewestSteps_63 : decode cX4_fewestSteps 63 = .ok (.getfield 32, 3) := dTX4_fewestSteps_0_ok 35 (63, .getfield 32, 3) rfl
theorem dX4_fewestSteps_66 : decode cX4_fewestSteps 66 = .ok (.aload_n 1, 1) := dTX4_fewestSteps_0_ok 36 (66, .aload_n 1, 1) rfl
theorem dX4_fewestSteps_67 : decode cX4_fewestSteps 67 = .ok (.aload_n 0, 1) := dTX4_fewestSteps_0_ok 37 (67, .aload_n 0, 1) rfl
theorem dX4_fewestSteps_68 : decode cX4_fewestSteps 68 = .ok (.getfield 32, 3) := dTX4_fewestSteps_0_ok 38 (68, .getfield 32, 3) rfl
theorem dX4_fewestSteps_71 : decode cX4_fewestSteps 71 = .ok (.iconst 0, 1) := dTX4_fewestSteps_0_ok 39 (71, .iconst 0, 1) rfl
theorem dX4_fewestSteps_72 : decode cX4_fewestSteps 72 = .ok (.invokevirtual 38, 3) := dTX4_fewestSteps_0_ok 40 (72, .invokevirtual 38, 3) rfl
theorem dX4_fewestSteps_75 : decode cX4_fewestSteps 75 = .ok (.lload 5, 2) := dTX4_fewestSteps_0_ok 41 (75, .lload 5, 2) rfl
theorem dX4_fewestSteps_77 : decode cX4_fewestSteps 77 = .ok (.land, 1) := dTX4_fewestSteps_0_ok 42 (77, .land, 1) rfl
theorem dX4_fewestSteps_78 : decode cX4_fewestSteps 78 = .ok (.lor, 1) := dTX4_fewestSteps_0_ok 43 (78, .lor, 1) rfl
theorem dX4_fewestSteps_79 : decode cX4_fewestSteps 79 = .ok (.lstore 8, 2) := dTX4_fewestSteps_0_ok 44 (79, .lstore 8, 2) rfl
theorem dX4_fewestSteps_81 : decode cX4_fewestSteps 81 = .ok (.aload_n 0, 1) := dTX4_fewestSteps_0_ok 45 (81, .aload_n 0, 1) rfl
theorem dX4_fewestSteps_82 : decode cX4_fewestSteps 82 = .ok (.getfield 35, 3) := dTX4_fewestSteps_0_ok 46 (82, .getfield 35, 3) rfl
theorem dX4_fewestSteps_85 : decode cX4_fewestSteps 85 = .ok (.lstore 10, 2) := dTX4_fewestSteps_0_ok 47 (85, .lstore 10, 2) rfl
theorem dX4_fewestSteps_87 : decode cX4_fewestSteps 87 = .ok (.aload_n 0, 1) := dTX4_fewestSteps_0_ok 48 (87, .aload_n 0, 1) rfl
theorem dX4_fewestSteps_88 : decode cX4_fewestSteps 88 = .ok (.getfield 21, 3) := dTX4_fewestSteps_0_ok 49 (88, .getfield 21, 3) rfl
theorem dX4_fewestSteps_91 : decode cX4_fewestSteps 91 = .ok (.ifCond .eq 37, 3) := dTX4_fewestSteps_0_ok 50 (91, .ifCond .eq 37, 3) rfl
theorem dX4_fewestSteps_94 : decode cX4_fewestSteps 94 = .ok (.lload 10, 2) := dTX4_fewestSteps_0_ok 51 (94, .lload 10, 2) rfl
theorem dX4_fewestSteps_96 : decode cX4_fewestSteps 96 = .ok (.aload_n 1, 1) := dTX4_fewestSteps_0_ok 52 (96, .aload_n 1, 1) rfl
theorem dX4_fewestSteps_97 : decode cX4_fewestSteps 97 = .ok (.aload_n 0, 1) := dTX4_fewestSteps_0_ok 53 (97, .aload_n 0, 1) rfl
theorem dX4_fewestSteps_98 : decode cX4_fewestSteps 98 = .ok (.getfield 35, 3) := dTX4_fewestSteps_0_ok 54 (98, .getfield 35, 3) rfl
theorem dX4_fewestSteps_101 : decode cX4_fewestSteps 101 = .ok (.iconst 0, 1) := dTX4_fewestSteps_0_ok 55 (101, .iconst 0, 1) rfl
theorem dX4_fewestSteps_102 : decode cX4_fewestSteps 102 = .ok (.invokevirtual 38, 3) := dTX4_fewestSteps_0_ok 56 (102, .invokevirtual 38, 3) rfl
theorem dX4_fewestSteps_105 : decode cX4_fewestSteps 105 = .ok (.lload 5, 2) := dTX4_fewestSteps_0_ok 57 (105, .lload 5, 2) rfl
theorem dX4_fewestSteps_107 : decode cX4_fewestSteps 107 = .ok (.land, 1) := dTX4_fewestSteps_0_ok 58 (107, .land, 1) rfl
theorem dX4_fewestSteps_108 : decode cX4_fewestSteps 108 = .ok (.lor, 1) := dTX4_fewestSteps_0_ok 59 (108, .lor, 1) rfl
noncomputable def dTX4_fewestSteps_1 : List (Nat × Instr × Nat) := [(109, .lstore 10, 2), (111, .lload 10, 2), (113, .aload_n 1, 1), (114, .aload_n 0, 1), (115, .getfield 32, 3), (118, .iconst 1, 1), (119, .invokevirtual 38, 3), (122, .lload 5, 2), (124, .land, 1), (125, .lor, 1), (126, .lstore 10, 2), (128, .lload 8, 2), (130, .lload 10, 2), (132, .lor, 1), (133, .aload_n 0, 1), (134, .getfield 15, 3), (137, .land, 1), (138, .lconst 0, 1), (139, .lcmp, 1), (140, .ifCond .eq 6, 3), (143, .iload 7, 2), (145, .ireturn, 1), (146, .lload 8, 2), (148, .aload_n 0, 1), (149, .getfield 32, 3), (152, .lcmp, 1), (153, .ifCond .ne 15, 3), (156, .lload 10, 2), (158, .aload_n 0, 1), (159, .getfield 35, 3), (162, .lcmp, 1), (163, .ifCond .ne 5, 3), (166, .iconst (-1), 1), (167, .ireturn, 1), (168, .aload_n 0, 1), (169, .lload 8, 2), (171, .putfield 32, 3), (174, .aload_n 0, 1), (175, .lload 10, 2), (177, .putfield 35, 3), (180, .iinc 7 1, 3), (183, .goto (-128), 3), (186, .iconst (-1), 1), (187, .ireturn, 1)]
theorem dTX4_fewestSteps_1_ok : ∀ (k : Nat) (q : Nat × Instr × Nat), dTX4_fewestSteps_1[k]? = some q → decode cX4_fewestSteps q.1 = .ok q.2 := dT_of (by decide +kernel)
theorem dX4_fewestSteps_109 : decode cX4_fewestSteps 109 = .ok (.lstore 10, 2) := dTX4_fewestSteps_1_ok 0 (109, .lstore 10, 2) rfl
theorem dX4_fewestSteps_111 : decode cX4_fewestSteps 111 = .ok (.lload 10, 2) := dTX4_fewestSteps_1_ok 1 (111, .lload 10, 2) rfl
theorem dX4_fewestSteps_113 : decode cX4_fewestSteps 113 = .ok (.aload_n 1, 1) := dTX4_fewestSteps_1_ok 2 (113, .aload_n 1, 1) rfl
theorem dX4_fewestSteps_114 : decode cX4_fewestSteps 114 = .ok (.aload_n 0, 1) := dTX4_fewestSteps_1_ok 3 (114, .aload_n 0, 1) rfl
theorem dX4_fewestSteps_115 : decode cX4_fewestSteps 115 = .ok (.getfield 32, 3) := dTX4_fewestSteps_1_ok 4 (115, .getfield 32, 3) rfl
theorem dX4_fewestSteps_118 : decode cX4_fewestSteps 118 = .ok (.iconst 1, 1) := dTX4_fewestSteps_1_ok 5 (118, .iconst 1, 1) rfl
theorem dX4_fewestSteps_119 : decode cX4_fewestSteps 119 = .ok (.invokevirtual 38, 3) := dTX4_fewestSteps_1_ok 6 (119, .invokevirtual 38, 3) rfl
theorem dX4_fewestSteps_122 : decode cX4_fewestSteps 122 = .ok (.lload 5, 2) := dTX4_fewestSteps_1_ok 7 (122, .lload 5, 2) rfl
theorem dX4_fewestSteps_124 : decode cX4_fewestSteps 124 = .ok (.land, 1) := dTX4_fewestSteps_1_ok 8 (124, .land, 1) rfl
theorem dX4_fewestSteps_125 : decode cX4_fewestSteps 125 = .ok (.lor, 1) := dTX4_fewestSteps_1_ok 9 (125, .lor, 1) rfl
theorem dX4_fewestSteps_126 : decode cX4_fewestSteps 126 = .ok (.lstore 10, 2) := dTX4_fewestSteps_1_ok 10 (126, .lstore 10, 2) rfl
theorem dX4_fewestSteps_128 : decode cX4_fewestSteps 128 = .ok (.lload 8, 2) := dTX4_fewestSteps_1_ok 11 (128, .lload 8, 2) rfl
theorem dX4_fewestSteps_130 : decode cX4_fewestSteps 130 = .ok (.lload 10, 2) := dTX4_fewestSteps_1_ok 12 (130, .lload 10, 2) rfl
theorem dX4_fewestSteps_132 : decode cX4_fewestSteps 132 = .ok (.lor, 1) := dTX4_fewestSteps_1_ok 13 (132, .lor, 1) rfl
theorem dX4_fewestSteps_133 : decode cX4_fewestSteps 133 = .ok (.aload_n 0, 1) := dTX4_fewestSteps_1_ok 14 (133, .aload_n 0, 1) rfl
theorem dX4_fewestSteps_134 : decode cX4_fewestSteps 134 = .ok (.getfield 15, 3) := dTX4_fewestSteps_1_ok 15 (134, .getfield 15, 3) rfl
theorem dX4_fewestSteps_137 : decode cX4_fewestSteps 137 = .ok (.land, 1) := dTX4_fewestSteps_1_ok 16 (137, .land, 1) rfl
theorem dX4_fewestSteps_138 : decode cX4_fewestSteps 138 = .ok (.lconst 0, 1) := dTX4_fewestSteps_1_ok 17 (138, .lconst 0, 1) rfl
theorem dX4_fewestSteps_139 : decode cX4_fewestSteps 139 = .ok (.lcmp, 1) := dTX4_fewestSteps_1_ok 18 (139, .lcmp, 1) rfl
theorem dX4_fewestSteps_140 : decode cX4_fewestSteps 140 = .ok (.ifCond .eq 6, 3) := dTX4_fewestSteps_1_ok 19 (140, .ifCond .eq 6, 3) rfl
theorem dX4_fewestSteps_143 : decode cX4_fewestSteps 143 = .ok (.iload 7, 2) := dTX4_fewestSteps_1_ok 20 (143, .iload 7, 2) rfl
theorem dX4_fewestSteps_145 : decode cX4_fewestSteps 145 = .ok (.ireturn, 1) := dTX4_fewestSteps_1_ok 21 (145, .ireturn, 1) rfl
theorem dX4_fewestSteps_146 : decode cX4_fewestSteps 146 = .ok (.lload 8, 2) := dTX4_fewestSteps_1_ok 22 (146, .lload 8, 2) rfl
theorem dX4_fewestSteps_148 : decode cX4_fewestSteps 148 = .ok (.aload_n 0, 1) := dTX4_fewestSteps_1_ok 23 (148, .aload_n 0, 1) rfl
theorem dX4_fewestSteps_149 : decode cX4_fewestSteps 149 = .ok (.getfield 32, 3) := dTX4_fewestSteps_1_ok 24 (149, .getfield 32, 3) rfl
theorem dX4_fewestSteps_152 : decode cX4_fewestSteps 152 = .ok (.lcmp, 1) := dTX4_fewestSteps_1_ok 25 (152, .lcmp, 1) rfl
theorem dX4_fewestSteps_153 : decode cX4_fewestSteps 153 = .ok (.ifCond .ne 15, 3) := dTX4_fewestSteps_1_ok 26 (153, .ifCond .ne 15, 3) rfl
theorem dX4_fewestSteps_156 : decode cX4_fewestSteps 156 = .ok (.lload 10, 2) := dTX4_fewestSteps_1_ok 27 (156, .lload 10, 2) rfl
theorem dX4_fewestSteps_158 : decode cX4_fewestSteps 158 = .ok (.aload_n 0, 1) := dTX4_fewestSteps_1_ok 28 (158, .aload_n 0, 1) rfl
theorem dX4_fewestSteps_159 : decode cX4_fewestSteps 159 = .ok (.getfield 35, 3) := dTX4_fewestSteps_1_ok 29 (159, .getfield 35, 3) rfl
theorem dX4_fewestSteps_162 : decode cX4_fewestSteps 162 = .ok (.lcmp, 1) := dTX4_fewestSteps_1_ok 30 (162, .lcmp, 1) rfl
theorem dX4_fewestSteps_163 : decode cX4_fewestSteps 163 = .ok (.ifCond .ne 5, 3) := dTX4_fewestSteps_1_ok 31 (163, .ifCond .ne 5, 3) rfl
theorem dX4_fewestSteps_166 : decode cX4_fewestSteps 166 = .ok (.iconst (-1), 1) := dTX4_fewestSteps_1_ok 32 (166, .iconst (-1), 1) rfl
theorem dX4_fewestSteps_167 : decode cX4_fewestSteps 167 = .ok (.ireturn, 1) := dTX4_fewestSteps_1_ok 33 (167, .ireturn, 1) rfl
theorem dX4_fewestSteps_168 : decode cX4_fewestSteps 168 = .ok (.aload_n 0, 1) := dTX4_fewestSteps_1_ok 34 (168, .aload_n 0, 1) rfl
theorem dX4_fewestSteps_169 : decode cX4_fewestSteps 169 = .ok (.lload 8, 2) := dTX4_fewestSteps_1_ok 35 (169, .lload 8, 2) rfl
theorem dX4_fewestSteps_171 : decode cX4_fewestSteps 171 = .ok (.putfield 32, 3) := dTX4_fewestSteps_1_ok 36 (171, .putfield 32, 3) rfl
theorem dX4_fewestSteps_174 : decode cX4_fewestSteps 174 = .ok (.aload_n 0, 1) := dTX4_fewestSteps_1_ok 37 (174, .aload_n 0, 1) rfl
theorem dX4_fewestSteps_175 : decode cX4_fewestSteps 175 = .ok (.lload 10, 2) := dTX4_fewestSteps_1_ok 38 (175, .lload 10, 2) rfl
theorem dX4_fewestSteps_177 : decode cX4_fewestSteps 177 = .ok (.putfield 35, 3) := dTX4_fewestSteps_1_ok 39 (177, .putfield 35, 3) rfl
theorem dX4_fewestSteps_180 : decode cX4_fewestSteps 180 = .ok (.iinc 7 1, 3) := dTX4_fewestSteps_1_ok 40 (180, .iinc 7 1, 3) rfl
theorem dX4_fewestSteps_183 : decode cX4_fewestSteps 183 = .ok (.goto (-128), 3) := dTX4_fewestSteps_1_ok 41 (183, .goto (-128), 3) rfl
theorem dX4_fewestSteps_186 : decode cX4_fewestSteps 186 = .ok (.iconst (-1), 1) := dTX4_fewestSteps_1_ok 42 (186, .iconst (-1), 1) rfl
theorem dX4_fewestSteps_187 : decode cX4_fewestSteps 187 = .ok (.ireturn, 1) := dTX4_fewestSteps_1_ok 43 (187, .ireturn, 1) rfl
noncomputable def dTX4_firstDirection_0 : List (Nat × Instr × Nat) := [(0, .iconst 0, 1), (1, .istore_n 2, 1), (2, .iload_n 2, 1), (3, .iconst 4, 1), (4, .if_icmp .ge 46, 3), (7, .aload_n 0, 1), (8, .getfield 15, 3), (11, .aload_n 1, 1), (12, .iload_n 2, 1), (13, .invokevirtual 42, 3), (16, .ldc2_w 30, 3), (19, .lxor, 1), (20, .land, 1), (21, .lstore_n 3, 1), (22, .lload_n 3, 1), (23, .iload_n 2, 1), (24, .invokestatic 45, 3), (27, .aload_n 0, 1), (28, .getfield 32, 3), (31, .aload_n 0, 1), (32, .getfield 35, 3), (35, .lor, 1), (36, .land, 1), (37, .lconst 0, 1), (38, .lcmp, 1), (39, .ifCond .eq 5, 3), (42, .iload_n 2, 1), (43, .ireturn, 1), (44, .iinc 2 1, 3), (47, .goto (-45), 3), (50, .iconst 0, 1), (51, .istore_n 2, 1), (52, .iload_n 2, 1), (53, .iconst 4, 1), (54, .if_icmp .ge 44, 3), (57, .aload_n 0, 1), (58, .getfield 15, 3), (61, .aload_n 1, 1), (62, .iload_n 2, 1), (63, .invokevirtual 42, 3), (66, .land, 1), (67, .lstore_n 3, 1), (68, .aload_n 0, 1), (69, .getfield 21, 3), (72, .ifCond .eq 20, 3), (75, .lload_n 3, 1), (76, .iload_n 2, 1), (77, .invokestatic 45, 3), (80, .aload_n 0, 1), (81, .getfield 32, 3), (84, .land, 1), (85, .lconst 0, 1), (86, .lcmp, 1), (87, .ifCond .eq 5, 3), (90, .iload_n 2, 1), (91, .ireturn, 1), (92, .iinc 2 1, 3), (95, .goto (-43), 3), (98, .iconst (-1), 1), (99, .ireturn, 1)]
theorem dTX4_firstDirection_0_ok : ∀ (k : Nat) (q : Nat × Instr × Nat), dTX4_firstDirection_0[k]? = some q → decode cX4_firstDirection q.1 = .ok q.2 := dT_of (by decide +kernel)
theorem dX4_firstDirection_0 : decode cX4_firstDirection 0 = .ok (.iconst 0, 1) := dTX4_firstDirection_0_ok 0 (0, .iconst 0, 1) rfl
theorem dX4_firstDirection_1 : decode cX4_firstDirection 1 = .ok (.istore_n 2, 1) := dTX4_firstDirection_0_ok 1 (1, .istore_n 2, 1) rfl
theorem dX4_firstDirection_2 : decode cX4_firstDirection 2 = .ok (.iload_n 2, 1) := dTX4_firstDirection_0_ok 2 (2, .iload_n 2, 1) rfl
theorem dX4_firstDirection_3 : decode cX4_firstDirection 3 = .ok (.iconst 4, 1) := dTX4_firstDirection_0_ok 3 (3, .iconst 4, 1) rfl
theorem dX4_firstDirection_4 : decode cX4_firstDirection 4 = .ok (.if_icmp .ge 46, 3) := dTX4_firstDirection_0_ok 4 (4, .if_icmp .ge 46, 3) rfl
theorem dX4_firstDirection_7 : decode cX4_firstDirection 7 = .ok (.aload_n 0, 1) := dTX4_firstDirection_0_ok 5 (7, .aload_n 0, 1) rfl
theorem dX4_firstDirection_8 : decode cX4_firstDirection 8 = .ok (.getfield 15, 3) := dTX4_firstDirection_0_ok 6 (8, .getfield 15, 3) rfl
theorem dX4_firstDirection_11 : decode cX4_firstDirection 11 = .ok (.aload_n 1, 1) := dTX4_firstDirection_0_ok 7 (11, .aload_n 1, 1) rfl
theorem dX4_firstDirection_12 : decode cX4_firstDirection 12 = .ok (.iload_n 2, 1) := dTX4_firstDirection_0_ok 8 (12, .iload_n 2, 1) rfl
theorem dX4_firstDirection_13 : decode cX4_firstDirection 13 = .ok (.invokevirtual 42, 3) := dTX4_firstDirection_0_ok 9 (13, .invokevirtual 42, 3) rfl
theorem dX4_firstDirection_16 : decode cX4_firstDirection 16 = .ok (.ldc2_w 30, 3) := dTX4_firstDirection_0_ok 10 (16, .ldc2_w 30, 3) rfl
theorem dX4_firstDirection_19 : decode cX4_firstDirection 19 = .ok (.lxor, 1) := dTX4_firstDirection_0_ok 11 (19, .lxor, 1) rfl
theorem dX4_firstDirection_20 : decode cX4_firstDirection 20 = .ok (.land, 1) := dTX4_firstDirection_0_ok 12 (20, .land, 1) rfl
theorem dX4_firstDirection_21 : decode cX4_firstDirection 21 = .ok (.lstore_n 3, 1) := dTX4_firstDirection_0_ok 13 (21, .lstore_n 3, 1) rfl
theorem dX4_firstDirection_22 : decode cX4_firstDirection 22 = .ok (.lload_n 3, 1) := dTX4_firstDirection_0_ok 14 (22, .lload_n 3, 1) rfl
theorem dX4_firstDirection_23 : decode cX4_firstDirection 23 = .ok (.iload_n 2, 1) := dTX4_firstDirection_0_ok 15 (23, .iload_n 2, 1) rfl
theorem dX4_firstDirection_24 : decode cX4_firstDirection 24 = .ok (.invokestatic 45, 3) := dTX4_firstDirection_0_ok 16 (24, .invokestatic 45, 3) rfl
theorem dX4_firstDirection_27 : decode cX4_firstDirection 27 = .ok (.aload_n 0, 1) := dTX4_firstDirection_0_ok 17 (27, .aload_n 0, 1) rfl
theorem dX4_firstDirection_28 : decode cX4_firstDirection 28 = .ok (.getfield 32, 3) := dTX4_firstDirection_0_ok 18 (28, .getfield 32, 3) rfl
theorem dX4_firstDirection_31 : decode cX4_firstDirection 31 = .ok (.aload_n 0, 1) := dTX4_firstDirection_0_ok 19 (31, .aload_n 0, 1) rfl
theorem dX4_firstDirection_32 : decode cX4_firstDirection 32 = .ok (.getfield 35, 3) := dTX4_firstDirection_0_ok 20 (32, .getfield 35, 3) rfl
theorem dX4_firstDirection_35 : decode cX4_firstDirection 35 = .ok (.lor, 1) := dTX4_firstDirection_0_ok 21 (35, .lor, 1) rfl
theorem dX4_firstDirection_36 : decode cX4_firstDirection 36 = .ok (.land, 1) := dTX4_firstDirection_0_ok 22 (36, .land, 1) rfl
theorem dX4_firstDirection_37 : decode cX4_firstDirection 37 = .ok (.lconst 0, 1) := dTX4_firstDirection_0_ok 23 (37, .lconst 0, 1) rfl
theorem dX4_firstDirection_38 : decode cX4_firstDirection 38 = .ok (.lcmp, 1) := dTX4_firstDirection_0_ok 24 (38, .lcmp, 1) rfl
theorem dX4_firstDirection_39 : decode cX4_firstDirection 39 = .ok (.ifCond .eq 5, 3) := dTX4_firstDirection_0_ok 25 (39, .ifCond .eq 5, 3) rfl
theorem dX4_firstDirection_42 : decode cX4_firstDirection 42 = .ok (.iload_n 2, 1) := dTX4_firstDirection_0_ok 26 (42, .iload_n 2, 1) rfl
theorem dX4_firstDirection_43 : decode cX4_firstDirection 43 = .ok (.ireturn, 1) := dTX4_firstDirection_0_ok 27 (43, .ireturn, 1) rfl
theorem dX4_firstDirection_44 : decode cX4_firstDirection 44 = .ok (.iinc 2 1, 3) := dTX4_firstDirection_0_ok 28 (44, .iinc 2 1, 3) rfl
theorem dX4_firstDirection_47 : decode cX4_firstDirection 47 = .ok (.goto (-45), 3) := dTX4_firstDirection_0_ok 29 (47, .goto (-45), 3) rfl
theorem dX4_firstDirection_50 : decode cX4_firstDirection 50 = .ok (.iconst 0, 1) := dTX4_firstDirection_0_ok 30 (50, .iconst 0, 1) rfl
theorem dX4_firstDirection_51 : decode cX4_firstDirection 51 = .ok (.istore_n 2, 1) := dTX4_firstDirection_0_ok 31 (51, .istore_n 2, 1) rfl
theorem dX4_firstDirection_52 : decode cX4_firstDirection 52 = .ok (.iload_n 2, 1) := dTX4_firstDirection_0_ok 32 (52, .iload_n 2, 1) rfl
theorem dX4_firstDirection_53 : decode cX4_firstDirection 53 = .ok (.iconst 4, 1) := dTX4_firstDirection_0_ok 33 (53, .iconst 4, 1) rfl
theorem dX4_firstDirection_54 : decode cX4_firstDirection 54 = .ok (.if_icmp .ge 44, 3) := dTX4_firstDirection_0_ok 34 (54, .if_icmp .ge 44, 3) rfl
theorem dX4_firstDirection_57 : decode cX4_firstDirection 57 = .ok (.aload_n 0, 1) := dTX4_firstDirection_0_ok 35 (57, .aload_n 0, 1) rfl
theorem dX4_firstDirection_58 : decode cX4_firstDirection 58 = .ok (.getfield 15, 3) := dTX4_firstDirection_0_ok 36 (58, .getfield 15, 3) rfl
theorem dX4_firstDirection_61 : decode cX4_firstDirection 61 = .ok (.aload_n 1, 1) := dTX4_firstDirection_0_ok 37 (61, .aload_n 1, 1) rfl
theorem dX4_firstDirection_62 : decode cX4_firstDirection 62 = .ok (.iload_n 2, 1) := dTX4_firstDirection_0_ok 38 (62, .iload_n 2, 1) rfl
theorem dX4_firstDirection_63 : decode cX4_firstDirection 63 = .ok (.invokevirtual 42, 3) := dTX4_firstDirection_0_ok 39 (63, .invokevirtual 42, 3) rfl
theorem dX4_firstDirection_66 : decode cX4_firstDirection 66 = .ok (.land, 1) := dTX4_firstDirection_0_ok 40 (66, .land, 1) rfl
theorem dX4_firstDirection_67 : decode cX4_firstDirection 67 = .ok (.lstore_n 3, 1) := dTX4_firstDirection_0_ok 41 (67, .lstore_n 3, 1) rfl
theorem dX4_firstDirection_68 : decode cX4_firstDirection 68 = .ok (.aload_n 0, 1) := dTX4_firstDirection_0_ok 42 (68, .aload_n 0, 1) rfl
theorem dX4_firstDirection_69 : decode cX4_firstDirection 69 = .ok (.getfield 21, 3) := dTX4_firstDirection_0_ok 43 (69, .getfield 21, 3) rfl
theorem dX4_firstDirection_72 : decode cX4_firstDirection 72 = .ok (.ifCond .eq 20, 3) := dTX4_firstDirection_0_ok 44 (72, .ifCond .eq 20, 3) rfl
theorem dX4_firstDirection_75 : decode cX4_firstDirection 75 = .ok (.lload_n 3, 1) := dTX4_firstDirection_0_ok 45 (75, .lload_n 3, 1) rfl
theorem dX4_firstDirection_76 : decode cX4_firstDirection 76 = .ok (.iload_n 2, 1) := dTX4_firstDirection_0_ok 46 (76, .iload_n 2, 1) rfl
theorem dX4_firstDirection_77 : decode cX4_firstDirection 77 = .ok (.invokestatic 45, 3) := dTX4_firstDirection_0_ok 47 (77, .invokestatic 45, 3) rfl
theorem dX4_firstDirection_80 : decode cX4_firstDirection 80 = .ok (.aload_n 0, 1) := dTX4_firstDirection_0_ok 48 (80, .aload_n 0, 1) rfl
theorem dX4_firstDirection_81 : decode cX4_firstDirection 81 = .ok (.getfield 32, 3) := dTX4_firstDirection_0_ok 49 (81, .getfield 32, 3) rfl
theorem dX4_firstDirection_84 : decode cX4_firstDirection 84 = .ok (.land, 1) := dTX4_firstDirection_0_ok 50 (84, .land, 1) rfl
theorem dX4_firstDirection_85 : decode cX4_firstDirection 85 = .ok (.lconst 0, 1) := dTX4_firstDirection_0_ok 51 (85, .lconst 0, 1) rfl
theorem dX4_firstDirection_86 : decode cX4_firstDirection 86 = .ok (.lcmp, 1) := dTX4_firstDirection_0_ok 52 (86, .lcmp, 1) rfl
theorem dX4_firstDirection_87 : decode cX4_firstDirection 87 = .ok (.ifCond .eq 5, 3) := dTX4_firstDirection_0_ok 53 (87, .ifCond .eq 5, 3) rfl
theorem dX4_firstDirection_90 : decode cX4_firstDirection 90 = .ok (.iload_n 2, 1) := dTX4_firstDirection_0_ok 54 (90, .iload_n 2, 1) rfl
theorem dX4_firstDirection_91 : decode cX4_firstDirection 91 = .ok (.ireturn, 1) := dTX4_firstDirection_0_ok 55 (91, .ireturn, 1) rfl
theorem dX4_firstDirection_92 : decode cX4_firstDirection 92 = .ok (.iinc 2 1, 3) := dTX4_firstDirection_0_ok 56 (92, .iinc 2 1, 3) rfl
theorem dX4_firstDirection_95 : decode cX4_firstDirection 95 = .ok (.goto (-43), 3) := dTX4_firstDirection_0_ok 57 (95, .goto (-43), 3) rfl
theorem dX4_firstDirection_98 : decode cX4_firstDirection 98 = .ok (.iconst (-1), 1) := dTX4_firstDirection_0_ok 58 (98, .iconst (-1), 1) rfl
theorem dX4_firstDirection_99 : decode cX4_firstDirection 99 = .ok (.ireturn, 1) := dTX4_firstDirection_0_ok 59 (99, .ireturn, 1) rfl
noncomputable def dTX5_init_0 : List (Nat × Instr × Nat) := [(0, .aload_n 0, 1), (1, .invokespecial 1, 3), (4, .aload_n 0, 1), (5, .new 7, 3), (8, .dup, 1), (9, .invokespecial 9, 3), (12, .putfield 10, 3), (15, .aload_n 0, 1), (16, .new 7, 3), (19, .dup, 1), (20, .invokespecial 9, 3), (23, .putfield 16, 3), (26, .return_, 1)]
theorem dTX5_init_0_ok : ∀ (k : Nat) (q : Nat × Instr × Nat), dTX5_init_0[k]? = some q → decode cX5_init q.1 = .ok q.2 := dT_of (by decide +kernel)
theorem dX5_init_0 : decode cX5_init 0 = .ok (.aload_n 0, 1) := dTX5_init_0_ok 0 (0, .aload_n 0, 1) rfl
theorem dX5_init_1 : decode cX5_init 1 = .ok (.invokespecial 1, 3) := dTX5_init_0_ok 1 (1, .invokespecial 1, 3) rfl
theorem dX5_init_4 : decode cX5_init 4 = .ok (.aload_n 0, 1) := dTX5_init_0_ok 2 (4, .aload_n 0, 1) rfl
theorem dX5_init_5 : decode cX5_init 5 = .ok (.new 7, 3) := dTX5_init_0_ok 3 (5, .new 7, 3) rfl
theorem dX5_init_8 : decode cX5_init 8 = .ok (.dup, 1) := dTX5_init_0_ok 4 (8, .dup, 1) rfl
theorem dX5_init_9 : decode cX5_init 9 = .ok (.invokespecial 9, 3) := dTX5_init_0_ok 5 (9, .invokespecial 9, 3) rfl
theorem dX5_init_12 : decode cX5_init 12 = .ok (.putfield 10, 3) := dTX5_init_0_ok 6 (12, .putfield 10, 3) rfl
theorem dX5_init_15 : decode cX5_init 15 = .ok (.aload_n 0, 1) := dTX5_init_0_ok 7 (15, .aload_n 0, 1) rfl
theorem dX5_init_16 : decode cX5_init 16 = .ok (.new 7, 3) := dTX5_init_0_ok 8 (16, .new 7, 3) rfl
theorem dX5_init_19 : decode cX5_init 19 = .ok (.dup, 1) := dTX5_init_0_ok 9 (19, .dup, 1) rfl
theorem dX5_init_20 : decode cX5_init 20 = .ok (.invokespecial 9, 3) := dTX5_init_0_ok 10 (20, .invokespecial 9, 3) rfl
theorem dX5_init_23 : decode cX5_init 23 = .ok (.putfield 16, 3) := dTX5_init_0_ok 11 (23, .putfield 16, 3) rfl
theorem dX5_init_26 : decode cX5_init 26 = .ok (.return_, 1) := dTX5_init_0_ok 12 (26, .return_, 1) rfl
noncomputable def dTX5_wall_0 : List (Nat × Instr × Nat) := [(0, .iload_n 1, 1), (1, .iload_n 2, 1), (2, .invokestatic 19, 3), (5, .istore 4, 2), (7, .iload_n 3, 1), (8, .invokestatic 23, 3), (11, .iload 4, 2), (13, .iload_n 3, 1), (14, .invokestatic 27, 3), (17, .ifCond .eq 13, 3), (20, .new 33, 3), (23, .dup, 1), (24, .ldc 35, 2), (26, .invokespecial 37, 3), (29, .athrow, 1), (30, .aload_n 0, 1), (31, .getfield 10, 3), (34, .getfield 40, 3), (37, .iload 4, 2), (39, .iload_n 3, 1), (40, .invokevirtual 44, 3), (43, .aload_n 0, 1), (44, .getfield 10, 3), (47, .getfield 40, 3), (50, .iload 4, 2), (52, .iload_n 3, 1), (53, .invokevirtual 50, 3), (56, .ireturn, 1)]
theorem dTX5_wall_0_ok : ∀ (k : Nat) (q : Nat × Instr × Nat), dTX5_wall_0[k]? = some q → decode cX5_wall q.1 = .ok q.2 := dT_of (by decide +kernel)
theorem dX5_wall_0 : decode cX5_wall 0 = .ok (.iload_n 1, 1) := dTX5_wall_0_ok 0 (0, .iload_n 1, 1) rfl
theorem dX5_wall_1 : decode cX5_wall 1 = .ok (.iload_n 2, 1) := dTX5_wall_0_ok 1 (1, .iload_n 2, 1) rfl
theorem dX5_wall_2 : decode cX5_wall 2 = .ok (.invokestatic 19, 3) := dTX5_wall_0_ok 2 (2, .invokestatic 19, 3) rfl
theorem dX5_wall_5 : decode cX5_wall 5 = .ok (.istore 4, 2) := dTX5_wall_0_ok 3 (5, .istore 4, 2) rfl
theorem dX5_wall_7 : decode cX5_wall 7 = .ok (.iload_n 3, 1) := dTX5_wall_0_ok 4 (7, .iload_n 3, 1) rfl
theorem dX5_wall_8 : decode cX5_wall 8 = .ok (.invokestatic 23, 3) := dTX5_wall_0_ok 5 (8, .invokestatic 23, 3) rfl
theorem dX5_wall_11 : decode cX5_wall 11 = .ok (.iload 4, 2) := dTX5_wall_0_ok 6 (11, .iload 4, 2) rfl
theorem dX5_wall_13 : decode cX5_wall 13 = .ok (.iload_n 3, 1) := dTX5_wall_0_ok 7 (13, .iload_n 3, 1) rfl
theorem dX5_wall_14 : decode cX5_wall 14 = .ok (.invokestatic 27, 3) := dTX5_wall_0_ok 8 (14, .invokestatic 27, 3) rfl
theorem dX5_wall_17 : decode cX5_wall 17 = .ok (.ifCond .eq 13, 3) := dTX5_wall_0_ok 9 (17, .ifCond .eq 13, 3) rfl
theorem dX5_wall_20 : decode cX5_wall 20 = .ok (.new 33, 3) := dTX5_wall_0_ok 10 (20, .new 33, 3) rfl
theorem dX5_wall_23 : decode cX5_wall 23 = .ok (.dup, 1) := dTX5_wall_0_ok 11 (23, .dup, 1) rfl
theorem dX5_wall_24 : decode cX5_wall 24 = .ok (.ldc 35, 2) := dTX5_wall_0_ok 12 (24, .ldc 35, 2) rfl
theorem dX5_wall_26 : decode cX5_wall 26 = .ok (.invokespecial 37, 3) := dTX5_wall_0_ok 13 (26, .invokespecial 37, 3) rfl
theorem dX5_wall_29 : decode cX5_wall 29 = .ok (.athrow, 1) := dTX5_wall_0_ok 14 (29, .athrow, 1) rfl
theorem dX5_wall_30 : decode cX5_wall 30 = .ok (.aload_n 0, 1) := dTX5_wall_0_ok 15 (30, .aload_n 0, 1) rfl
theorem dX5_wall_31 : decode cX5_wall 31 = .ok (.getfield 10, 3) := dTX5_wall_0_ok 16 (31, .getfield 10, 3) rfl
theorem dX5_wall_34 : decode cX5_wall 34 = .ok (.getfield 40, 3) := dTX5_wall_0_ok 17 (34, .getfield 40, 3) rfl
theorem dX5_wall_37 : decode cX5_wall 37 = .ok (.iload 4, 2) := dTX5_wall_0_ok 18 (37, .iload 4, 2) rfl
theorem dX5_wall_39 : decode cX5_wall 39 = .ok (.iload_n 3, 1) := dTX5_wall_0_ok 19 (39, .iload_n 3, 1) rfl
theorem dX5_wall_40 : decode cX5_wall 40 = .ok (.invokevirtual 44, 3) := dTX5_wall_0_ok 20 (40, .invokevirtual 44, 3) rfl
theorem dX5_wall_43 : decode cX5_wall 43 = .ok (.aload_n 0, 1) := dTX5_wall_0_ok 21 (43, .aload_n 0, 1) rfl
theorem dX5_wall_44 : decode cX5_wall 44 = .ok (.getfield 10, 3) := dTX5_wall_0_ok 22 (44, .getfield 10, 3) rfl
theorem dX5_wall_47 : decode cX5_wall 47 = .ok (.getfield 40, 3) := dTX5_wall_0_ok 23 (47, .getfield 40, 3) rfl
theorem dX5_wall_50 : decode cX5_wall 50 = .ok (.iload 4, 2) := dTX5_wall_0_ok 24 (50, .iload 4, 2) rfl
theorem dX5_wall_52 : decode cX5_wall 52 = .ok (.iload_n 3, 1) := dTX5_wall_0_ok 25 (52, .iload_n 3, 1) rfl
theorem dX5_wall_53 : decode cX5_wall 53 = .ok (.invokevirtual 50, 3) := dTX5_wall_0_ok 26 (53, .invokevirtual 50, 3) rfl
theorem dX5_wall_56 : decode cX5_wall 56 = .ok (.ireturn, 1) := dTX5_wall_0_ok 27 (56, .ireturn, 1) rfl
noncomputable def dTX5_candle_0 : List (Nat × Instr × Nat) := [(0, .iload_n 1, 1), (1, .iload_n 2, 1), (2, .invokestatic 19, 3), (5, .istore 4, 2), (7, .iload_n 3, 1), (8, .iconst 1, 1), (9, .if_icmp .lt 9, 3), (12, .iload_n 3, 1), (13, .bipush 60, 2), (15, .if_icmp .le 13, 3), (18, .new 53, 3), (21, .dup, 1), (22, .ldc 55, 2), (24, .invokespecial 57, 3), (27, .athrow, 1), (28, .aload_n 0, 1), (29, .aload_n 0, 1), (30, .getfield 10, 3), (33, .getfield 40, 3), (36, .invokevirtual 58, 3), (39, .bipush 10, 2), (41, .iload 4, 2), (43, .invokevirtual 62, 3), (46, .aload_n 0, 1), (47, .getfield 10, 3), (50, .getfield 40, 3), (53, .iload 4, 2), (55, .iload_n 3, 1), (56, .invokevirtual 66, 3), (59, .aload_n 0, 1), (60, .getfield 10, 3), (63, .getfield 40, 3), (66, .invokevirtual 58, 3), (69, .ireturn, 1)]
theorem dTX5_candle_0_ok : ∀ (k : Nat) (q : Nat × Instr × Nat), dTX5_candle_0[k]? = some q → decode cX5_candle q.1 = .ok q.2 := dT_of (by decide +kernel)
theorem dX5_candle_0 : decode cX5_candle 0 = .ok (.iload_n 1, 1) := dTX5_candle_0_ok 0 (0, .iload_n 1, 1) rfl
theorem dX5_candle_1 : decode cX5_candle 1 = .ok (.iload_n 2, 1) := dTX5_candle_0_ok 1 (1, .iload_n 2, 1) rfl
theorem dX5_candle_2 : decode cX5_candle 2 = .ok (.invokestatic 19, 3) := dTX5_candle_0_ok 2 (2, .invokestatic 19, 3) rfl
theorem dX5_candle_5 : decode cX5_candle 5 = .ok (.istore 4, 2) := dTX5_candle_0_ok 3 (5, .istore 4, 2) rfl
theorem dX5_candle_7 : decode cX5_candle 7 = .ok (.iload_n 3, 1) := dTX5_candle_0_ok 4 (7, .iload_n 3, 1) rfl
theorem dX5_candle_8 : decode cX5_candle 8 = .ok (.iconst 1, 1) := dTX5_candle_0_ok 5 (8, .iconst 1, 1) rfl
theorem dX5_candle_9 : decode cX5_candle 9 = .ok (.if_icmp .lt 9, 3) := dTX5_candle_0_ok 6 (9, .if_icmp .lt 9, 3) rfl
theorem dX5_candle_12 : decode cX5_candle 12 = .ok (.iload_n 3, 1) := dTX5_candle_0_ok 7 (12, .iload_n 3, 1) rfl
theorem dX5_candle_13 : decode cX5_candle 13 = .ok (.bipush 60, 2) := dTX5_candle_0_ok 8 (13, .bipush 60, 2) rfl
theorem dX5_candle_15 : decode cX5_candle 15 = .ok (.if_icmp .le 13, 3) := dTX5_candle_0_ok 9 (15, .if_icmp .le 13, 3) rfl
theorem dX5_candle_18 : decode cX5_candle 18 = .ok (.new 53, 3) := dTX5_candle_0_ok 10 (18, .new 53, 3) rfl
theorem dX5_candle_21 : decode cX5_candle 21 = .ok (.dup, 1) := dTX5_candle_0_ok 11 (21, .dup, 1) rfl
theorem dX5_candle_22 : decode cX5_candle 22 = .ok (.ldc 55, 2) := dTX5_candle_0_ok 12 (22, .ldc 55, 2) rfl
theorem dX5_candle_24 : decode cX5_candle 24 = .ok (.invokespecial 57, 3) := dTX5_candle_0_ok 13 (24, .invokespecial 57, 3) rfl
theorem dX5_candle_27 : decode cX5_candle 27 = .ok (.athrow, 1) := dTX5_candle_0_ok 14 (27, .athrow, 1) rfl
theorem dX5_candle_28 : decode cX5_candle 28 = .ok (.aload_n 0, 1) := dTX5_candle_0_ok 15 (28, .aload_n 0, 1) rfl
theorem dX5_candle_29 : decode cX5_candle 29 = .ok (.aload_n 0, 1) := dTX5_candle_0_ok 16 (29, .aload_n 0, 1) rfl
theorem dX5_candle_30 : decode cX5_candle 30 = .ok (.getfield 10, 3) := dTX5_candle_0_ok 17 (30, .getfield 10, 3) rfl
theorem dX5_candle_33 : decode cX5_candle 33 = .ok (.getfield 40, 3) := dTX5_candle_0_ok 18 (33, .getfield 40, 3) rfl
theorem dX5_candle_36 : decode cX5_candle 36 = .ok (.invokevirtual 58, 3) := dTX5_candle_0_ok 19 (36, .invokevirtual 58, 3) rfl
theorem dX5_candle_39 : decode cX5_candle 39 = .ok (.bipush 10, 2) := dTX5_candle_0_ok 20 (39, .bipush 10, 2) rfl
theorem dX5_candle_41 : decode cX5_candle 41 = .ok (.iload 4, 2) := dTX5_candle_0_ok 21 (41, .iload 4, 2) rfl
theorem dX5_candle_43 : decode cX5_candle 43 = .ok (.invokevirtual 62, 3) := dTX5_candle_0_ok 22 (43, .invokevirtual 62, 3) rfl
theorem dX5_candle_46 : decode cX5_candle 46 = .ok (.aload_n 0, 1) := dTX5_candle_0_ok 23 (46, .aload_n 0, 1) rfl
theorem dX5_candle_47 : decode cX5_candle 47 = .ok (.getfield 10, 3) := dTX5_candle_0_ok 24 (47, .getfield 10, 3) rfl
theorem dX5_candle_50 : decode cX5_candle 50 = .ok (.getfield 40, 3) := dTX5_candle_0_ok 25 (50, .getfield 40, 3) rfl
theorem dX5_candle_53 : decode cX5_candle 53 = .ok (.iload 4, 2) := dTX5_candle_0_ok 26 (53, .iload 4, 2) rfl
theorem dX5_candle_55 : decode cX5_candle 55 = .ok (.iload_n 3, 1) := dTX5_candle_0_ok 27 (55, .iload_n 3, 1) rfl
theorem dX5_candle_56 : decode cX5_candle 56 = .ok (.invokevirtual 66, 3) := dTX5_candle_0_ok 28 (56, .invokevirtual 66, 3) rfl
theorem dX5_candle_59 : decode cX5_candle 59 = .ok (.aload_n 0, 1) := dTX5_candle_0_ok 29 (59, .aload_n 0, 1) rfl
theorem dX5_candle_60 : decode cX5_candle 60 = .ok (.getfield 10, 3) := dTX5_candle_0_ok 30 (60, .getfield 10, 3) rfl
theorem dX5_candle_63 : decode cX5_candle 63 = .ok (.getfield 40, 3) := dTX5_candle_0_ok 31 (63, .getfield 40, 3) rfl
theorem dX5_candle_66 : decode cX5_candle 66 = .ok (.invokevirtual 58, 3) := dTX5_candle_0_ok 32 (66, .invokevirtual 58, 3) rfl
theorem dX5_candle_69 : decode cX5_candle 69 = .ok (.ireturn, 1) := dTX5_candle_0_ok 33 (69, .ireturn, 1) rfl
noncomputable def dTX5_mirror_0 : List (Nat × Instr × Nat) := [(0, .iload_n 1, 1), (1, .iload_n 2, 1), (2, .invokestatic 19, 3), (5, .istore 4, 2), (7, .aload_n 0, 1), (8, .aload_n 0, 1), (9, .getfield 10, 3), (12, .getfield 40, 3), (15, .invokevirtual 69, 3), (18, .bipush 10, 2), (20, .iload 4, 2), (22, .invokevirtual 62, 3), (25, .aload_n 0, 1), (26, .getfield 10, 3), (29, .getfield 40, 3), (32, .iload 4, 2), (34, .iload_n 3, 1), (35, .invokevirtual 72, 3), (38, .aload_n 0, 1), (39, .getfield 10, 3), (42, .getfield 40, 3), (45, .invokevirtual 69, 3), (48, .ireturn, 1)]
theorem dTX5_mirror_0_ok : ∀ (k : Nat) (q : Nat × Instr × Nat), dTX5_mirror_0[k]? = some q → decode cX5_mirror q.1 = .ok q.2 := dT_of (by decide +kernel)
theorem dX5_mirror_0 : decode cX5_mirror 0 = .ok (.iload_n 1, 1) := dTX5_mirror_0_ok 0 (0, .iload_n 1, 1) rfl
theorem dX5_mirror_1 : decode cX5_mirror 1 = .ok (.iload_n 2, 1) := dTX5_mirror_0_ok 1 (1, .iload_n 2, 1) rfl
theorem dX5_mirror_2 : decode cX5_mirror 2 = .ok (.invokestatic 19, 3) := dTX5_mirror_0_ok 2 (2, .invokestatic 19, 3) rfl
theorem dX5_mirror_5 : decode cX5_mirror 5 = .ok (.istore 4, 2) := dTX5_mirror_0_ok 3 (5, .istore 4, 2) rfl
theorem dX5_mirror_7 : decode cX5_mirror 7 = .ok (.aload_n 0, 1) := dTX5_mirror_0_ok 4 (7, .aload_n 0, 1) rfl
theorem dX5_mirror_8 : decode cX5_mirror 8 = .ok (.aload_n 0, 1) := dTX5_mirror_0_ok 5 (8, .aload_n 0, 1) rfl
theorem dX5_mirror_9 : decode cX5_mirror 9 = .ok (.getfield 10, 3) := dTX5_mirror_0_ok 6 (9, .getfield 10, 3) rfl
theorem dX5_mirror_12 : decode cX5_mirror 12 = .ok (.getfield 40, 3) := dTX5_mirror_0_ok 7 (12, .getfield 40, 3) rfl
theorem dX5_mirror_15 : decode cX5_mirror 15 = .ok (.invokevirtual 69, 3) := dTX5_mirror_0_ok 8 (15, .invokevirtual 69, 3) rfl
theorem dX5_mirror_18 : decode cX5_mirror 18 = .ok (.bipush 10, 2) := dTX5_mirror_0_ok 9 (18, .bipush 10, 2) rfl
theorem dX5_mirror_20 : decode cX5_mirror 20 = .ok (.iload 4, 2) := dTX5_mirror_0_ok 10 (20, .iload 4, 2) rfl
theorem dX5_mirror_22 : decode cX5_mirror 22 = .ok (.invokevirtual 62, 3) := dTX5_mirror_0_ok 11 (22, .invokevirtual 62, 3) rfl
theorem dX5_mirror_25 : decode cX5_mirror 25 = .ok (.aload_n 0, 1) := dTX5_mirror_0_ok 12 (25, .aload_n 0, 1) rfl
theorem dX5_mirror_26 : decode cX5_mirror 26 = .ok (.getfield 10, 3) := dTX5_mirror_0_ok 13 (26, .getfield 10, 3) rfl
theorem dX5_mirror_29 : decode cX5_mirror 29 = .ok (.getfield 40, 3) := dTX5_mirror_0_ok 14 (29, .getfield 40, 3) rfl
theorem dX5_mirror_32 : decode cX5_mirror 32 = .ok (.iload 4, 2) := dTX5_mirror_0_ok 15 (32, .iload 4, 2) rfl
theorem dX5_mirror_34 : decode cX5_mirror 34 = .ok (.iload_n 3, 1) := dTX5_mirror_0_ok 16 (34, .iload_n 3, 1) rfl
theorem dX5_mirror_35 : decode cX5_mirror 35 = .ok (.invokevirtual 72, 3) := dTX5_mirror_0_ok 17 (35, .invokevirtual 72, 3) rfl
theorem dX5_mirror_38 : decode cX5_mirror 38 = .ok (.aload_n 0, 1) := dTX5_mirror_0_ok 18 (38, .aload_n 0, 1) rfl
theorem dX5_mirror_39 : decode cX5_mirror 39 = .ok (.getfield 10, 3) := dTX5_mirror_0_ok 19 (39, .getfield 10, 3) rfl
theorem dX5_mirror_42 : decode cX5_mirror 42 = .ok (.getfield 40, 3) := dTX5_mirror_0_ok 20 (42, .getfield 40, 3) rfl
theorem dX5_mirror_45 : decode cX5_mirror 45 = .ok (.invokevirtual 69, 3) := dTX5_mirror_0_ok 21 (45, .invokevirtual 69, 3) rfl
theorem dX5_mirror_48 : decode cX5_mirror 48 = .ok (.ireturn, 1) := dTX5_mirror_0_ok 22 (48, .ireturn, 1) rfl
noncomputable def dTX5_tally_0 : List (Nat × Instr × Nat) := [(0, .iload_n 1, 1), (1, .iload_n 2, 1), (2, .invokestatic 19, 3), (5, .istore_n 3, 1), (6, .aload_n 0, 1), (7, .aload_n 0, 1), (8, .getfield 10, 3), (11, .getfield 40, 3), (14, .invokevirtual 76, 3), (17, .bipush 6, 2), (19, .iload_n 3, 1), (20, .invokevirtual 62, 3), (23, .aload_n 0, 1), (24, .getfield 10, 3), (27, .getfield 40, 3), (30, .iload_n 3, 1), (31, .invokevirtual 79, 3), (34, .aload_n 0, 1), (35, .getfield 10, 3), (38, .getfield 40, 3), (41, .invokevirtual 76, 3), (44, .ireturn, 1)]
theorem dTX5_tally_0_ok : ∀ (k : Nat) (q : Nat × Instr × Nat), dTX5_tally_0[k]? = some q → decode cX5_tally q.1 = .ok q.2 := dT_of (by decide +kernel)
theorem dX5_tally_0 : decode cX5_tally 0 = .ok (.iload_n 1, 1) := dTX5_tally_0_ok 0 (0, .iload_n 1, 1) rfl
theorem dX5_tally_1 : decode cX5_tally 1 = .ok (.iload_n 2, 1) := dTX5_tally_0_ok 1 (1, .iload_n 2, 1) rfl
theorem dX5_tally_2 : decode cX5_tally 2 = .ok (.invokestatic 19, 3) := dTX5_tally_0_ok 2 (2, .invokestatic 19, 3) rfl
theorem dX5_tally_5 : decode cX5_tally 5 = .ok (.istore_n 3, 1) := dTX5_tally_0_ok 3 (5, .istore_n 3, 1) rfl
theorem dX5_tally_6 : decode cX5_tally 6 = .ok (.aload_n 0, 1) := dTX5_tally_0_ok 4 (6, .aload_n 0, 1) rfl
theorem dX5_tally_7 : decode cX5_tally 7 = .ok (.aload_n 0, 1) := dTX5_tally_0_ok 5 (7, .aload_n 0, 1) rfl
theorem dX5_tally_8 : decode cX5_tally 8 = .ok (.getfield 10, 3) := dTX5_tally_0_ok 6 (8, .getfield 10, 3) rfl
theorem dX5_tally_11 : decode cX5_tally 11 = .ok (.getfield 40, 3) := dTX5_tally_0_ok 7 (11, .getfield 40, 3) rfl
theorem dX5_tally_14 : decode cX5_tally 14 = .ok (.invokevirtual 76, 3) := dTX5_tally_0_ok 8 (14, .invokevirtual 76, 3) rfl
theorem dX5_tally_17 : decode cX5_tally 17 = .ok (.bipush 6, 2) := dTX5_tally_0_ok 9 (17, .bipush 6, 2) rfl
theorem dX5_tally_19 : decode cX5_tally 19 = .ok (.iload_n 3, 1) := dTX5_tally_0_ok 10 (19, .iload_n 3, 1) rfl
theorem dX5_tally_20 : decode cX5_tally 20 = .ok (.invokevirtual 62, 3) := dTX5_tally_0_ok 11 (20, .invokevirtual 62, 3) rfl
theorem dX5_tally_23 : decode cX5_tally 23 = .ok (.aload_n 0, 1) := dTX5_tally_0_ok 12 (23, .aload_n 0, 1) rfl
theorem dX5_tally_24 : decode cX5_tally 24 = .ok (.getfield 10, 3) := dTX5_tally_0_ok 13 (24, .getfield 10, 3) rfl
theorem dX5_tally_27 : decode cX5_tally 27 = .ok (.getfield 40, 3) := dTX5_tally_0_ok 14 (27, .getfield 40, 3) rfl
theorem dX5_tally_30 : decode cX5_tally 30 = .ok (.iload_n 3, 1) := dTX5_tally_0_ok 15 (30, .iload_n 3, 1) rfl
theorem dX5_tally_31 : decode cX5_tally 31 = .ok (.invokevirtual 79, 3) := dTX5_tally_0_ok 16 (31, .invokevirtual 79, 3) rfl
theorem dX5_tally_34 : decode cX5_tally 34 = .ok (.aload_n 0, 1) := dTX5_tally_0_ok 17 (34, .aload_n 0, 1) rfl
theorem dX5_tally_35 : decode cX5_tally 35 = .ok (.getfield 10, 3) := dTX5_tally_0_ok 18 (35, .getfield 10, 3) rfl
theorem dX5_tally_38 : decode cX5_tally 38 = .ok (.getfield 40, 3) := dTX5_tally_0_ok 19 (38, .getfield 40, 3) rfl
theorem dX5_tally_41 : decode cX5_tally 41 = .ok (.invokevirtual 76, 3) := dTX5_tally_0_ok 20 (41, .invokevirtual 76, 3) rfl
theorem dX5_tally_44 : decode cX5_tally 44 = .ok (.ireturn, 1) := dTX5_tally_0_ok 21 (44, .ireturn, 1) rfl
noncomputable def dTX5_remove_0 : List (Nat × Instr × Nat) := [(0, .iload_n 1, 1), (1, .iload_n 2, 1), (2, .invokestatic 19, 3), (5, .istore_n 3, 1), (6, .aload_n 0, 1), (7, .getfield 10, 3), (10, .getfield 40, 3), (13, .iload_n 3, 1), (14, .invokevirtual 82, 3), (17, .istore 4, 2), (19, .iload 4, 2), (21, .ifCond .ne 13, 3), (24, .new 33, 3), (27, .dup, 1), (28, .ldc 86, 2), (30, .invokespecial 37, 3), (33, .athrow, 1), (34, .aload_n 0, 1), (35, .getfield 10, 3), (38, .getfield 40, 3), (41, .iload_n 3, 1), (42, .invokevirtual 88, 3), (45, .iload 4, 2), (47, .ireturn, 1)]
theorem dTX5_remove_0_ok : ∀ (k : Nat) (q : Nat × Instr × Nat), dTX5_remove_0[k]? = some q → decode cX5_remove q.1 = .ok q.2 := dT_of (by decide +kernel)
theorem dX5_remove_0 : decode cX5_remove 0 = .ok (.iload_n 1, 1) := dTX5_remove_0_ok 0 (0, .iload_n 1, 1) rfl
theorem dX5_remove_1 : decode cX5_remove 1 = .ok (.iload_n 2, 1) := dTX5_remove_0_ok 1 (1, .iload_n 2, 1) rfl
theorem dX5_remove_2 : decode cX5_remove 2 = .ok (.invokestatic 19, 3) := dTX5_remove_0_ok 2 (2, .invokestatic 19, 3) rfl
theorem dX5_remove_5 : decode cX5_remove 5 = .ok (.istore_n 3, 1) := dTX5_remove_0_ok 3 (5, .istore_n 3, 1) rfl
theorem dX5_remove_6 : decode cX5_remove 6 = .ok (.aload_n 0, 1) := dTX5_remove_0_ok 4 (6, .aload_n 0, 1) rfl
theorem dX5_remove_7 : decode cX5_remove 7 = .ok (.getfield 10, 3) := dTX5_remove_0_ok 5 (7, .getfield 10, 3) rfl
theorem dX5_remove_10 : decode cX5_remove 10 = .ok (.getfield 40, 3) := dTX5_remove_0_ok 6 (10, .getfield 40, 3) rfl
theorem dX5_remove_13 : decode cX5_remove 13 = .ok (.iload_n 3, 1) := dTX5_remove_0_ok 7 (13, .iload_n 3, 1) rfl
theorem dX5_remove_14 : decode cX5_remove 14 = .ok (.invokevirtual 82, 3) := dTX5_remove_0_ok 8 (14, .invokevirtual 82, 3) rfl
theorem dX5_remove_17 : decode cX5_remove 17 = .ok (.istore 4, 2) := dTX5_remove_0_ok 9 (17, .istore 4, 2) rfl
theorem dX5_remove_19 : decode cX5_remove 19 = .ok (.iload 4, 2) := dTX5_remove_0_ok 10 (19, .iload 4, 2) rfl
theorem dX5_remove_21 : decode cX5_remove 21 = .ok (.ifCond .ne 13, 3) := dTX5_remove_0_ok 11 (21, .ifCond .ne 13, 3) rfl
theorem dX5_remove_24 : decode cX5_remove 24 = .ok (.new 33, 3) := dTX5_remove_0_ok 12 (24, .new 33, 3) rfl
theorem dX5_remove_27 : decode cX5_remove 27 = .ok (.dup, 1) := dTX5_remove_0_ok 13 (27, .dup, 1) rfl
theorem dX5_remove_28 : decode cX5_remove 28 = .ok (.ldc 86, 2) := dTX5_remove_0_ok 14 (28, .ldc 86, 2) rfl
theorem dX5_remove_30 : decode cX5_remove 30 = .ok (.invokespecial 37, 3) := dTX5_remove_0_ok 15 (30, .invokespecial 37, 3) rfl
theorem dX5_remove_33 : decode cX5_remove 33 = .ok (.athrow, 1) := dTX5_remove_0_ok 16 (33, .athrow, 1) rfl
theorem dX5_remove_34 : decode cX5_remove 34 = .ok (.aload_n 0, 1) := dTX5_remove_0_ok 17 (34, .aload_n 0, 1) rfl
theorem dX5_remove_35 : decode cX5_remove 35 = .ok (.getfield 10, 3) := dTX5_remove_0_ok 18 (35, .getfield 10, 3) rfl
theorem dX5_remove_38 : decode cX5_remove 38 = .ok (.getfield 40, 3) := dTX5_remove_0_ok 19 (38, .getfield 40, 3) rfl
theorem dX5_remove_41 : decode cX5_remove 41 = .ok (.iload_n 3, 1) := dTX5_remove_0_ok 20 (41, .iload_n 3, 1) rfl
theorem dX5_remove_42 : decode cX5_remove 42 = .ok (.invokevirtual 88, 3) := dTX5_remove_0_ok 21 (42, .invokevirtual 88, 3) rfl
theorem dX5_remove_45 : decode cX5_remove 45 = .ok (.iload 4, 2) := dTX5_remove_0_ok 22 (45, .iload 4, 2) rfl
theorem dX5_remove_47 : decode cX5_remove 47 = .ok (.ireturn, 1) := dTX5_remove_0_ok 23 (47, .ireturn, 1) rfl
noncomputable def dTX5_light_0 : List (Nat × Instr × Nat) := [(0, .iload_n 1, 1), (1, .iload_n 2, 1), (2, .invokestatic 19, 3), (5, .istore_n 3, 1), (6, .aload_n 0, 1), (7, .getfield 10, 3), (10, .getfield 40, 3), (13, .iload_n 3, 1), (14, .invokevirtual 91, 3), (17, .ifCond .ne 13, 3), (20, .new 33, 3), (23, .dup, 1), (24, .ldc 95, 2), (26, .invokespecial 37, 3), (29, .athrow, 1), (30, .aload_n 0, 1), (31, .getfield 10, 3), (34, .getfield 40, 3), (37, .iload_n 3, 1), (38, .invokevirtual 97, 3), (41, .aload_n 0, 1), (42, .getfield 10, 3), (45, .getfield 40, 3), (48, .iload_n 3, 1), (49, .invokevirtual 100, 3), (52, .ireturn, 1)]
theorem dTX5_light_0_ok : ∀ (k : Nat) (q : Nat × Instr × Nat), dTX5_light_0[k]? = some q → decode cX5_light q.1 = .ok q.2 := dT_of (by decide +kernel)
theorem dX5_light_0 : decode cX5_light 0 = .ok (.iload_n 1, 1) := dTX5_light_0_ok 0 (0, .iload_n 1, 1) rfl
theorem dX5_light_1 : decode cX5_light 1 = .ok (.iload_n 2, 1) := dTX5_light_0_ok 1 (1, .iload_n 2, 1) rfl
theorem dX5_light_2 : decode cX5_light 2 = .ok (.invokestatic 19, 3) := dTX5_light_0_ok 2 (2, .invokestatic 19, 3) rfl
theorem dX5_light_5 : decode cX5_light 5 = .ok (.istore_n 3, 1) := dTX5_light_0_ok 3 (5, .istore_n 3, 1) rfl
theorem dX5_light_6 : decode cX5_light 6 = .ok (.aload_n 0, 1) := dTX5_light_0_ok 4 (6, .aload_n 0, 1) rfl
theorem dX5_light_7 : decode cX5_light 7 = .ok (.getfield 10, 3) := dTX5_light_0_ok 5 (7, .getfield 10, 3) rfl
theorem dX5_light_10 : decode cX5_light 10 = .ok (.getfield 40, 3) := dTX5_light_0_ok 6 (10, .getfield 40, 3) rfl
theorem dX5_light_13 : decode cX5_light 13 = .ok (.iload_n 3, 1) := dTX5_light_0_ok 7 (13, .iload_n 3, 1) rfl
theorem dX5_light_14 : decode cX5_light 14 = .ok (.invokevirtual 91, 3) := dTX5_light_0_ok 8 (14, .invokevirtual 91, 3) rfl
theorem dX5_light_17 : decode cX5_light 17 = .ok (.ifCond .ne 13, 3) := dTX5_light_0_ok 9 (17, .ifCond .ne 13, 3) rfl
theorem dX5_light_20 : decode cX5_light 20 = .ok (.new 33, 3) := dTX5_light_0_ok 10 (20, .new 33, 3) rfl
theorem dX5_light_23 : decode cX5_light 23 = .ok (.dup, 1) := dTX5_light_0_ok 11 (23, .dup, 1) rfl
theorem dX5_light_24 : decode cX5_light 24 = .ok (.ldc 95, 2) := dTX5_light_0_ok 12 (24, .ldc 95, 2) rfl
theorem dX5_light_26 : decode cX5_light 26 = .ok (.invokespecial 37, 3) := dTX5_light_0_ok 13 (26, .invokespecial 37, 3) rfl
theorem dX5_light_29 : decode cX5_light 29 = .ok (.athrow, 1) := dTX5_light_0_ok 14 (29, .athrow, 1) rfl
theorem dX5_light_30 : decode cX5_light 30 = .ok (.aload_n 0, 1) := dTX5_light_0_ok 15 (30, .aload_n 0, 1) rfl
theorem dX5_light_31 : decode cX5_light 31 = .ok (.getfield 10, 3) := dTX5_light_0_ok 16 (31, .getfield 10, 3) rfl
theorem dX5_light_34 : decode cX5_light 34 = .ok (.getfield 40, 3) := dTX5_light_0_ok 17 (34, .getfield 40, 3) rfl
theorem dX5_light_37 : decode cX5_light 37 = .ok (.iload_n 3, 1) := dTX5_light_0_ok 18 (37, .iload_n 3, 1) rfl
theorem dX5_light_38 : decode cX5_light 38 = .ok (.invokevirtual 97, 3) := dTX5_light_0_ok 19 (38, .invokevirtual 97, 3) rfl
theorem dX5_light_41 : decode cX5_light 41 = .ok (.aload_n 0, 1) := dTX5_light_0_ok 20 (41, .aload_n 0, 1) rfl
theorem dX5_light_42 : decode cX5_light 42 = .ok (.getfield 10, 3) := dTX5_light_0_ok 21 (42, .getfield 10, 3) rfl
theorem dX5_light_45 : decode cX5_light 45 = .ok (.getfield 40, 3) := dTX5_light_0_ok 22 (45, .getfield 40, 3) rfl
theorem dX5_light_48 : decode cX5_light 48 = .ok (.iload_n 3, 1) := dTX5_light_0_ok 23 (48, .iload_n 3, 1) rfl
theorem dX5_light_49 : decode cX5_light 49 = .ok (.invokevirtual 100, 3) := dTX5_light_0_ok 24 (49, .invokevirtual 100, 3) rfl
theorem dX5_light_52 : decode cX5_light 52 = .ok (.ireturn, 1) := dTX5_light_0_ok 25 (52, .ireturn, 1) rfl
noncomputable def dTX5_come_0 : List (Nat × Instr × Nat) := [(0, .iload_n 1, 1), (1, .iload_n 2, 1), (2, .invokestatic 19, 3), (5, .istore 4, 2), (7, .iload_n 3, 1), (8, .iconst 1, 1), (9, .if_icmp .lt 8, 3), (12, .iload_n 3, 1), (13, .iconst 3, 1), (14, .if_icmp .le 13, 3), (17, .new 53, 3), (20, .dup, 1), (21, .ldc 103, 2), (23, .invokespecial 57, 3), (26, .athrow, 1), (27, .aload_n 0, 1), (28, .getfield 10, 3), (31, .getfield 105, 3), (34, .bipush 6, 2), (36, .if_icmp .lt 13, 3), (39, .new 33, 3), (42, .dup, 1), (43, .ldc 109, 2), (45, .invokespecial 37, 3), (48, .athrow, 1), (49, .aload_n 0, 1), (50, .getfield 10, 3), (53, .iload 4, 2), (55, .iload_n 3, 1), (56, .invokevirtual 111, 3), (59, .ireturn, 1)]
theorem dTX5_come_0_ok : ∀ (k : Nat) (q : Nat × Instr × Nat), dTX5_come_0[k]? = some q → decode cX5_come q.1 = .ok q.2 := dT_of (by decide +kernel)
theorem dX5_come_0 : decode cX5_come 0 = .ok (.iload_n 1, 1) := dTX5_come_0_ok 0 (0, .iload_n 1, 1) rfl
theorem dX5_come_1 : decode cX5_come 1 = .ok (.iload_n 2, 1) := dTX5_come_0_ok 1 (1, .iload_n 2, 1) rfl
theorem dX5_come_2 : decode cX5_come 2 = .ok (.invokestatic 19, 3) := dTX5_come_0_ok 2 (2, .invokestatic 19, 3) rfl
theorem dX5_come_5 : decode cX5_come 5 = .ok (.istore 4, 2) := dTX5_come_0_ok 3 (5, .istore 4, 2) rfl
theorem dX5_come_7 : decode cX5_come 7 = .ok (.iload_n 3, 1) := dTX5_come_0_ok 4 (7, .iload_n 3, 1) rfl
theorem dX5_come_8 : decode cX5_come 8 = .ok (.iconst 1, 1) := dTX5_come_0_ok 5 (8, .iconst 1, 1) rfl
theorem dX5_come_9 : decode cX5_come 9 = .ok (.if_icmp .lt 8, 3) := dTX5_come_0_ok 6 (9, .if_icmp .lt 8, 3) rfl
theorem dX5_come_12 : decode cX5_come 12 = .ok (.iload_n 3, 1) := dTX5_come_0_ok 7 (12, .iload_n 3, 1) rfl
theorem dX5_come_13 : decode cX5_come 13 = .ok (.iconst 3, 1) := dTX5_come_0_ok 8 (13, .iconst 3, 1) rfl
theorem dX5_come_14 : decode cX5_come 14 = .ok (.if_icmp .le 13, 3) := dTX5_come_0_ok 9 (14, .if_icmp .le 13, 3) rfl
theorem dX5_come_17 : decode cX5_come 17 = .ok (.new 53, 3) := dTX5_come_0_ok 10 (17, .new 53, 3) rfl
theorem dX5_come_20 : decode cX5_come 20 = .ok (.dup, 1) := dTX5_come_0_ok 11 (20, .dup, 1) rfl
theorem dX5_come_21 : decode cX5_come 21 = .ok (.ldc 103, 2) := dTX5_come_0_ok 12 (21, .ldc 103, 2) rfl
theorem dX5_come_23 : decode cX5_come 23 = .ok (.invokespecial 57, 3) := dTX5_come_0_ok 13 (23, .invokespecial 57, 3) rfl
theorem dX5_come_26 : decode cX5_come 26 = .ok (.athrow, 1) := dTX5_come_0_ok 14 (26, .athrow, 1) rfl
theorem dX5_come_27 : decode cX5_come 27 = .ok (.aload_n 0, 1) := dTX5_come_0_ok 15 (27, .aload_n 0, 1) rfl
theorem dX5_come_28 : decode cX5_come 28 = .ok (.getfield 10, 3) := dTX5_come_0_ok 16 (28, .getfield 10, 3) rfl
theorem dX5_come_31 : decode cX5_come 31 = .ok (.getfield 105, 3) := dTX5_come_0_ok 17 (31, .getfield 105, 3) rfl
theorem dX5_come_34 : decode cX5_come 34 = .ok (.bipush 6, 2) := dTX5_come_0_ok 18 (34, .bipush 6, 2) rfl
theorem dX5_come_36 : decode cX5_come 36 = .ok (.if_icmp .lt 13, 3) := dTX5_come_0_ok 19 (36, .if_icmp .lt 13, 3) rfl
theorem dX5_come_39 : decode cX5_come 39 = .ok (.new 33, 3) := dTX5_come_0_ok 20 (39, .new 33, 3) rfl
theorem dX5_come_42 : decode cX5_come 42 = .ok (.dup, 1) := dTX5_come_0_ok 21 (42, .dup, 1) rfl
theorem dX5_come_43 : decode cX5_come 43 = .ok (.ldc 109, 2) := dTX5_come_0_ok 22 (43, .ldc 109, 2) rfl
theorem dX5_come_45 : decode cX5_come 45 = .ok (.invokespecial 37, 3) := dTX5_come_0_ok 23 (45, .invokespecial 37, 3) rfl
theorem dX5_come_48 : decode cX5_come 48 = .ok (.athrow, 1) := dTX5_come_0_ok 24 (48, .athrow, 1) rfl
theorem dX5_come_49 : decode cX5_come 49 = .ok (.aload_n 0, 1) := dTX5_come_0_ok 25 (49, .aload_n 0, 1) rfl
theorem dX5_come_50 : decode cX5_come 50 = .ok (.getfield 10, 3) := dTX5_come_0_ok 26 (50, .getfield 10, 3) rfl
theorem dX5_come_53 : decode cX5_come 53 = .ok (.iload 4, 2) := dTX5_come_0_ok 27 (53, .iload 4, 2) rfl
theorem dX5_come_55 : decode cX5_come 55 = .ok (.iload_n 3, 1) := dTX5_come_0_ok 28 (55, .iload_n 3, 1) rfl
theorem dX5_come_56 : decode cX5_come 56 = .ok (.invokevirtual 111, 3) := dTX5_come_0_ok 29 (56, .invokevirtual 111, 3) rfl
theorem dX5_come_59 : decode cX5_come 59 = .ok (.ireturn, 1) := dTX5_come_0_ok 30 (59, .ireturn, 1) rfl
noncomputable def dTX5_send_0 : List (Nat × Instr × Nat) := [(0, .aload_n 0, 1), (1, .iload_n 1, 1), (2, .invokevirtual 114, 3), (5, .iload_n 2, 1), (6, .iload_n 3, 1), (7, .invokestatic 19, 3), (10, .istore 4, 2), (12, .aload_n 0, 1), (13, .getfield 10, 3), (16, .iload_n 1, 1), (17, .iload 4, 2), (19, .invokevirtual 117, 3), (22, .aload_n 0, 1), (23, .getfield 10, 3), (26, .iload_n 1, 1), (27, .iload 4, 2), (29, .invokevirtual 120, 3), (32, .ireturn, 1)]
theorem dTX5_send_0_ok : ∀ (k : Nat) (q : Nat × Instr × Nat), dTX5_send_0[k]? = some q → decode cX5_send q.1 = .ok q.2 := dT_of (by decide +kernel)
theorem dX5_send_0 : decode cX5_send 0 = .ok (.aload_n 0, 1) := dTX5_send_0_ok 0 (0, .aload_n 0, 1) rfl
theorem dX5_send_1 : decode cX5_send 1 = .ok (.iload_n 1, 1) := dTX5_send_0_ok 1 (1, .iload_n 1, 1) rfl
theorem dX5_send_2 : decode cX5_send 2 = .ok (.invokevirtual 114, 3) := dTX5_send_0_ok 2 (2, .invokevirtual 114, 3) rfl
theorem dX5_send_5 : decode cX5_send 5 = .ok (.iload_n 2, 1) := dTX5_send_0_ok 3 (5, .iload_n 2, 1) rfl
theorem dX5_send_6 : decode cX5_send 6 = .ok (.iload_n 3, 1) := dTX5_send_0_ok 4 (6, .iload_n 3, 1) rfl
theorem dX5_send_7 : decode cX5_send 7 = .ok (.invokestatic 19, 3) := dTX5_send_0_ok 5 (7, .invokestatic 19, 3) rfl
theorem dX5_send_10 : decode cX5_send 10 = .ok (.istore 4, 2) := dTX5_send_0_ok 6 (10, .istore 4, 2) rfl
theorem dX5_send_12 : decode cX5_send 12 = .ok (.aload_n 0, 1) := dTX5_send_0_ok 7 (12, .aload_n 0, 1) rfl
theorem dX5_send_13 : decode cX5_send 13 = .ok (.getfield 10, 3) := dTX5_send_0_ok 8 (13, .getfield 10, 3) rfl
theorem dX5_send_16 : decode cX5_send 16 = .ok (.iload_n 1, 1) := dTX5_send_0_ok 9 (16, .iload_n 1, 1) rfl
theorem dX5_send_17 : decode cX5_send 17 = .ok (.iload 4, 2) := dTX5_send_0_ok 10 (17, .iload 4, 2) rfl
theorem dX5_send_19 : decode cX5_send 19 = .ok (.invokevirtual 117, 3) := dTX5_send_0_ok 11 (19, .invokevirtual 117, 3) rfl
theorem dX5_send_22 : decode cX5_send 22 = .ok (.aload_n 0, 1) := dTX5_send_0_ok 12 (22, .aload_n 0, 1) rfl
theorem dX5_send_23 : decode cX5_send 23 = .ok (.getfield 10, 3) := dTX5_send_0_ok 13 (23, .getfield 10, 3) rfl
theorem dX5_send_26 : decode cX5_send 26 = .ok (.iload_n 1, 1) := dTX5_send_0_ok 14 (26, .iload_n 1, 1) rfl
theorem dX5_send_27 : decode cX5_send 27 = .ok (.iload 4, 2) := dTX5_send_0_ok 15 (27, .iload 4, 2) rfl
theorem dX5_send_29 : decode cX5_send 29 = .ok (.invokevirtual 120, 3) := dTX5_send_0_ok 16 (29, .invokevirtual 120, 3) rfl
theorem dX5_send_32 : decode cX5_send 32 = .ok (.ireturn, 1) := dTX5_send_0_ok 17 (32, .ireturn, 1) rfl
noncomputable def dTX5_rite_0 : List (Nat × Instr × Nat) := [(0, .aload_n 0, 1), (1, .iload_n 1, 1), (2, .invokevirtual 114, 3), (5, .aload_n 0, 1), (6, .getfield 10, 3), (9, .iload_n 1, 1), (10, .invokevirtual 123, 3), (13, .ifCond .eq 13, 3), (16, .new 33, 3), (19, .dup, 1), (20, .ldc 126, 2), (22, .invokespecial 37, 3), (25, .athrow, 1), (26, .aload_n 0, 1), (27, .getfield 10, 3), (30, .iload_n 1, 1), (31, .iconst 5, 1), (32, .iconst 1, 1), (33, .invokevirtual 128, 3), (36, .aload_n 0, 1), (37, .getfield 10, 3), (40, .iconst 5, 1), (41, .invokevirtual 131, 3), (44, .ireturn, 1)]
theorem dTX5_rite_0_ok : ∀ (k : Nat) (q : Nat × Instr × Nat), dTX5_rite_0[k]? = some q → decode cX5_rite q.1 = .ok q.2 := dT_of (by decide +kernel)
theorem dX5_rite_0 : decode cX5_rite 0 = .ok (.aload_n 0, 1) := dTX5_rite_0_ok 0 (0, .aload_n 0, 1) rfl
theorem dX5_rite_1 : decode cX5_rite 1 = .ok (.iload_n 1, 1) := dTX5_rite_0_ok 1 (1, .iload_n 1, 1) rfl
theorem dX5_rite_2 : decode cX5_rite 2 = .ok (.invokevirtual 114, 3) := dTX5_rite_0_ok 2 (2, .invokevirtual 114, 3) rfl
theorem dX5_rite_5 : decode cX5_rite 5 = .ok (.aload_n 0, 1) := dTX5_rite_0_ok 3 (5, .aload_n 0, 1) rfl
theorem dX5_rite_6 : decode cX5_rite 6 = .ok (.getfield 10, 3) := dTX5_rite_0_ok 4 (6, .getfield 10, 3) rfl
theorem dX5_rite_9 : decode cX5_rite 9 = .ok (.iload_n 1, 1) := dTX5_rite_0_ok 5 (9, .iload_n 1, 1) rfl
theorem dX5_rite_10 : decode cX5_rite 10 = .ok (.invokevirtual 123, 3) := dTX5_rite_0_ok 6 (10, .invokevirtual 123, 3) rfl
theorem dX5_rite_13 : decode cX5_rite 13 = .ok (.ifCond .eq 13, 3) := dTX5_rite_0_ok 7 (13, .ifCond .eq 13, 3) rfl
theorem dX5_rite_16 : decode cX5_rite 16 = .ok (.new 33, 3) := dTX5_rite_0_ok 8 (16, .new 33, 3) rfl
theorem dX5_rite_19 : decode cX5_rite 19 = .ok (.dup, 1) := dTX5_rite_0_ok 9 (19, .dup, 1) rfl
theorem dX5_rite_20 : decode cX5_rite 20 = .ok (.ldc 126, 2) := dTX5_rite_0_ok 10 (20, .ldc 126, 2) rfl
theorem dX5_rite_22 : decode cX5_rite 22 = .ok (.invokespecial 37, 3) := dTX5_rite_0_ok 11 (22, .invokespecial 37, 3) rfl
theorem dX5_rite_25 : decode cX5_rite 25 = .ok (.athrow, 1) := dTX5_rite_0_ok 12 (25, .athrow, 1) rfl
theorem dX5_rite_26 : decode cX5_rite 26 = .ok (.aload_n 0, 1) := dTX5_rite_0_ok 13 (26, .aload_n 0, 1) rfl
theorem dX5_rite_27 : decode cX5_rite 27 = .ok (.getfield 10, 3) := dTX5_rite_0_ok 14 (27, .getfield 10, 3) rfl
theorem dX5_rite_30 : decode cX5_rite 30 = .ok (.iload_n 1, 1) := dTX5_rite_0_ok 15 (30, .iload_n 1, 1) rfl
theorem dX5_rite_31 : decode cX5_rite 31 = .ok (.iconst 5, 1) := dTX5_rite_0_ok 16 (31, .iconst 5, 1) rfl
theorem dX5_rite_32 : decode cX5_rite 32 = .ok (.iconst 1, 1) := dTX5_rite_0_ok 17 (32, .iconst 1, 1) rfl
theorem dX5_rite_33 : decode cX5_rite 33 = .ok (.invokevirtual 128, 3) := dTX5_rite_0_ok 18 (33, .invokevirtual 128, 3) rfl
theorem dX5_rite_36 : decode cX5_rite 36 = .ok (.aload_n 0, 1) := dTX5_rite_0_ok 19 (36, .aload_n 0, 1) rfl
theorem dX5_rite_37 : decode cX5_rite 37 = .ok (.getfield 10, 3) := dTX5_rite_0_ok 20 (37, .getfield 10, 3) rfl
theorem dX5_rite_40 : decode cX5_rite 40 = .ok (.iconst 5, 1) := dTX5_rite_0_ok 21 (40, .iconst 5, 1) rfl
theorem dX5_rite_41 : decode cX5_rite 41 = .ok (.invokevirtual 131, 3) := dTX5_rite_0_ok 22 (41, .invokevirtual 131, 3) rfl
theorem dX5_rite_44 : decode cX5_rite 44 = .ok (.ireturn, 1) := dTX5_rite_0_ok 23 (44, .ireturn, 1) rfl
noncomputable def dTX5_cell_0 : List (Nat × Instr × Nat) := [(0, .iload_n 1, 1), (1, .iload_n 2, 1), (2, .invokestatic 19, 3), (5, .istore 4, 2), (7, .iload_n 3, 1), (8, .iconst 5, 1), (9, .invokestatic 134, 3), (12, .aload_n 0, 1), (13, .getfield 10, 3), (16, .iload 4, 2), (18, .iload_n 3, 1), (19, .invokevirtual 137, 3), (22, .ireturn, 1)]
theorem dTX5_cell_0_ok : ∀ (k : Nat) (q : Nat × Instr × Nat), dTX5_cell_0[k]? = some q → decode cX5_cell q.1 = .ok q.2 := dT_of (by decide +kernel)
theorem dX5_cell_0 : decode cX5_cell 0 = .ok (.iload_n 1, 1) := dTX5_cell_0_ok 0 (0, .iload_n 1, 1) rfl
theorem dX5_cell_1 : decode cX5_cell 1 = .ok (.iload_n 2, 1) := dTX5_cell_0_ok 1 (1, .iload_n 2, 1) rfl
theorem dX5_cell_2 : decode cX5_cell 2 = .ok (.invokestatic 19, 3) := dTX5_cell_0_ok 2 (2, .invokestatic 19, 3) rfl
theorem dX5_cell_5 : decode cX5_cell 5 = .ok (.istore 4, 2) := dTX5_cell_0_ok 3 (5, .istore 4, 2) rfl
theorem dX5_cell_7 : decode cX5_cell 7 = .ok (.iload_n 3, 1) := dTX5_cell_0_ok 4 (7, .iload_n 3, 1) rfl
theorem dX5_cell_8 : decode cX5_cell 8 = .ok (.iconst 5, 1) := dTX5_cell_0_ok 5 (8, .iconst 5, 1) rfl
theorem dX5_cell_9 : decode cX5_cell 9 = .ok (.invokestatic 134, 3) := dTX5_cell_0_ok 6 (9, .invokestatic 134, 3) rfl
theorem dX5_cell_12 : decode cX5_cell 12 = .ok (.aload_n 0, 1) := dTX5_cell_0_ok 7 (12, .aload_n 0, 1) rfl
theorem dX5_cell_13 : decode cX5_cell 13 = .ok (.getfield 10, 3) := dTX5_cell_0_ok 8 (13, .getfield 10, 3) rfl
theorem dX5_cell_16 : decode cX5_cell 16 = .ok (.iload 4, 2) := dTX5_cell_0_ok 9 (16, .iload 4, 2) rfl
theorem dX5_cell_18 : decode cX5_cell 18 = .ok (.iload_n 3, 1) := dTX5_cell_0_ok 10 (18, .iload_n 3, 1) rfl
theorem dX5_cell_19 : decode cX5_cell 19 = .ok (.invokevirtual 137, 3) := dTX5_cell_0_ok 11 (19, .invokevirtual 137, 3) rfl
theorem dX5_cell_22 : decode cX5_cell 22 = .ok (.ireturn, 1) := dTX5_cell_0_ok 12 (22, .ireturn, 1) rfl
noncomputable def dTX5_walled_0 : List (Nat × Instr × Nat) := [(0, .iload_n 1, 1), (1, .iload_n 2, 1), (2, .invokestatic 19, 3), (5, .istore 4, 2), (7, .iload_n 3, 1), (8, .invokestatic 23, 3), (11, .iload 4, 2), (13, .iload_n 3, 1), (14, .invokestatic 27, 3), (17, .ifCond .ne 19, 3), (20, .aload_n 0, 1), (21, .getfield 10, 3), (24, .getfield 40, 3), (27, .iload 4, 2), (29, .iload_n 3, 1), (30, .invokevirtual 50, 3), (33, .ifCond .eq 7, 3), (36, .iconst 1, 1), (37, .goto 4, 3), (40, .iconst 0, 1), (41, .ireturn, 1)]
theorem dTX5_walled_0_ok : ∀ (k : Nat) (q : Nat × Instr × Nat), dTX5_walled_0[k]? = some q → decode cX5_walled q.1 = .ok q.2 := dT_of (by decide +kernel)
theorem dX5_walled_0 : decode cX5_walled 0 = .ok (.iload_n 1, 1) := dTX5_walled_0_ok 0 (0, .iload_n 1, 1) rfl
theorem dX5_walled_1 : decode cX5_walled 1 = .ok (.iload_n 2, 1) := dTX5_walled_0_ok 1 (1, .iload_n 2, 1) rfl
theorem dX5_walled_2 : decode cX5_walled 2 = .ok (.invokestatic 19, 3) := dTX5_walled_0_ok 2 (2, .invokestatic 19, 3) rfl
theorem dX5_walled_5 : decode cX5_walled 5 = .ok (.istore 4, 2) := dTX5_walled_0_ok 3 (5, .istore 4, 2) rfl
theorem dX5_walled_7 : decode cX5_walled 7 = .ok (.iload_n 3, 1) := dTX5_walled_0_ok 4 (7, .iload_n 3, 1) rfl
theorem dX5_walled_8 : decode cX5_walled 8 = .ok (.invokestatic 23, 3) := dTX5_walled_0_ok 5 (8, .invokestatic 23, 3) rfl
theorem dX5_walled_11 : decode cX5_walled 11 = .ok (.iload 4, 2) := dTX5_walled_0_ok 6 (11, .iload 4, 2) rfl
theorem dX5_walled_13 : decode cX5_walled 13 = .ok (.iload_n 3, 1) := dTX5_walled_0_ok 7 (13, .iload_n 3, 1) rfl
theorem dX5_walled_14 : decode cX5_walled 14 = .ok (.invokestatic 27, 3) := dTX5_walled_0_ok 8 (14, .invokestatic 27, 3) rfl
theorem dX5_walled_17 : decode cX5_walled 17 = .ok (.ifCond .ne 19, 3) := dTX5_walled_0_ok 9 (17, .ifCond .ne 19, 3) rfl
theorem dX5_walled_20 : decode cX5_walled 20 = .ok (.aload_n 0, 1) := dTX5_walled_0_ok 10 (20, .aload_n 0, 1) rfl
theorem dX5_walled_21 : decode cX5_walled 21 = .ok (.getfield 10, 3) := dTX5_walled_0_ok 11 (21, .getfield 10, 3) rfl
theorem dX5_walled_24 : decode cX5_walled 24 = .ok (.getfield 40, 3) := dTX5_walled_0_ok 12 (24, .getfield 40, 3) rfl
theorem dX5_walled_27 : decode cX5_walled 27 = .ok (.iload 4, 2) := dTX5_walled_0_ok 13 (27, .iload 4, 2) rfl
theorem dX5_walled_29 : decode cX5_walled 29 = .ok (.iload_n 3, 1) := dTX5_walled_0_ok 14 (29, .iload_n 3, 1) rfl
theorem dX5_walled_30 : decode cX5_walled 30 = .ok (.invokevirtual 50, 3) := dTX5_walled_0_ok 15 (30, .invokevirtual 50, 3) rfl
theorem dX5_walled_33 : decode cX5_walled 33 = .ok (.ifCond .eq 7, 3) := dTX5_walled_0_ok 16 (33, .ifCond .eq 7, 3) rfl
theorem dX5_walled_36 : decode cX5_walled 36 = .ok (.iconst 1, 1) := dTX5_walled_0_ok 17 (36, .iconst 1, 1) rfl
theorem dX5_walled_37 : decode cX5_walled 37 = .ok (.goto 4, 3) := dTX5_walled_0_ok 18 (37, .goto 4, 3) rfl
theorem dX5_walled_40 : decode cX5_walled 40 = .ok (.iconst 0, 1) := dTX5_walled_0_ok 19 (40, .iconst 0, 1) rfl
theorem dX5_walled_41 : decode cX5_walled 41 = .ok (.ireturn, 1) := dTX5_walled_0_ok 20 (41, .ireturn, 1) rfl
noncomputable def dTX5_ghost_0 : List (Nat × Instr × Nat) := [(0, .aload_n 0, 1), (1, .iload_n 1, 1), (2, .invokevirtual 114, 3), (5, .iload_n 2, 1), (6, .bipush 8, 2), (8, .invokestatic 134, 3), (11, .aload_n 0, 1), (12, .getfield 10, 3), (15, .iload_n 1, 1), (16, .iload_n 2, 1), (17, .invokevirtual 140, 3), (20, .ireturn, 1)]
theorem dTX5_ghost_0_ok : ∀ (k : Nat) (q : Nat × Instr × Nat), dTX5_ghost_0[k]? = some q → decode cX5_ghost q.1 = .ok q.2 := dT_of (by decide +kernel)
theorem dX5_ghost_0 : decode cX5_ghost 0 = .ok (.aload_n 0, 1) := dTX5_ghost_0_ok 0 (0, .aload_n 0, 1) rfl
theorem dX5_ghost_1 : decode cX5_ghost 1 = .ok (.iload_n 1, 1) := dTX5_ghost_0_ok 1 (1, .iload_n 1, 1) rfl
theorem dX5_ghost_2 : decode cX5_ghost 2 = .ok (.invokevirtual 114, 3) := dTX5_ghost_0_ok 2 (2, .invokevirtual 114, 3) rfl
theorem dX5_ghost_5 : decode cX5_ghost 5 = .ok (.iload_n 2, 1) := dTX5_ghost_0_ok 3 (5, .iload_n 2, 1) rfl
theorem dX5_ghost_6 : decode cX5_ghost 6 = .ok (.bipush 8, 2) := dTX5_ghost_0_ok 4 (6, .bipush 8, 2) rfl
theorem dX5_ghost_8 : decode cX5_ghost 8 = .ok (.invokestatic 134, 3) := dTX5_ghost_0_ok 5 (8, .invokestatic 134, 3) rfl
theorem dX5_ghost_11 : decode cX5_ghost 11 = .ok (.aload_n 0, 1) := dTX5_ghost_0_ok 6 (11, .aload_n 0, 1) rfl
theorem dX5_ghost_12 : decode cX5_ghost 12 = .ok (.getfield 10, 3) := dTX5_ghost_0_ok 7 (12, .getfield 10, 3) rfl
theorem dX5_ghost_15 : decode cX5_ghost 15 = .ok (.iload_n 1, 1) := dTX5_ghost_0_ok 8 (15, .iload_n 1, 1) rfl
theorem dX5_ghost_16 : decode cX5_ghost 16 = .ok (.iload_n 2, 1) := dTX5_ghost_0_ok 9 (16, .iload_n 2, 1) rfl
theorem dX5_ghost_17 : decode cX5_ghost 17 = .ok (.invokevirtual 140, 3) := dTX5_ghost_0_ok 10 (17, .invokevirtual 140, 3) rfl
theorem dX5_ghost_20 : decode cX5_ghost 20 = .ok (.ireturn, 1) := dTX5_ghost_0_ok 11 (20, .ireturn, 1) rfl
noncomputable def dTX5_count_0 : List (Nat × Instr × Nat) := [(0, .iload_n 1, 1), (1, .bipush 10, 2), (3, .invokestatic 134, 3), (6, .aload_n 0, 1), (7, .getfield 10, 3), (10, .iload_n 1, 1), (11, .invokevirtual 143, 3), (14, .ireturn, 1)]
theorem dTX5_count_0_ok : ∀ (k : Nat) (q : Nat × Instr × Nat), dTX5_count_0[k]? = some q → decode cX5_count q.1 = .ok q.2 := dT_of (by decide +kernel)
theorem dX5_count_0 : decode cX5_count 0 = .ok (.iload_n 1, 1) := dTX5_count_0_ok 0 (0, .iload_n 1, 1) rfl
theorem dX5_count_1 : decode cX5_count 1 = .ok (.bipush 10, 2) := dTX5_count_0_ok 1 (1, .bipush 10, 2) rfl
theorem dX5_count_3 : decode cX5_count 3 = .ok (.invokestatic 134, 3) := dTX5_count_0_ok 2 (3, .invokestatic 134, 3) rfl
theorem dX5_count_6 : decode cX5_count 6 = .ok (.aload_n 0, 1) := dTX5_count_0_ok 3 (6, .aload_n 0, 1) rfl
theorem dX5_count_7 : decode cX5_count 7 = .ok (.getfield 10, 3) := dTX5_count_0_ok 4 (7, .getfield 10, 3) rfl
theorem dX5_count_10 : decode cX5_count 10 = .ok (.iload_n 1, 1) := dTX5_count_0_ok 5 (10, .iload_n 1, 1) rfl
theorem dX5_count_11 : decode cX5_count 11 = .ok (.invokevirtual 143, 3) := dTX5_count_0_ok 6 (11, .invokevirtual 143, 3) rfl
theorem dX5_count_14 : decode cX5_count 14 = .ok (.ireturn, 1) := dTX5_count_0_ok 7 (14, .ireturn, 1) rfl
noncomputable def dTX5_way_0 : List (Nat × Instr × Nat) := [(0, .aload_n 0, 1), (1, .iload_n 1, 1), (2, .invokevirtual 114, 3), (5, .iload_n 2, 1), (6, .iload_n 3, 1), (7, .invokestatic 19, 3), (10, .istore 4, 2), (12, .aload_n 0, 1), (13, .getfield 10, 3), (16, .iload_n 1, 1), (17, .iload 4, 2), (19, .invokevirtual 120, 3), (22, .ireturn, 1)]
theorem dTX5_way_0_ok : ∀ (k : Nat) (q : Nat × Instr × Nat), dTX5_way_0[k]? = some q → decode cX5_way q.1 = .ok q.2 := dT_of (by decide +kernel)
theorem dX5_way_0 : decode cX5_way 0 = .ok (.aload_n 0, 1) := dTX5_way_0_ok 0 (0, .aload_n 0, 1) rfl
theorem dX5_way_1 : decode cX5_way 1 = .ok (.iload_n 1, 1) := dTX5_way_0_ok 1 (1, .iload_n 1, 1) rfl
theorem dX5_way_2 : decode cX5_way 2 = .ok (.invokevirtual 114, 3) := dTX5_way_0_ok 2 (2, .invokevirtual 114, 3) rfl
theorem dX5_way_5 : decode cX5_way 5 = .ok (.iload_n 2, 1) := dTX5_way_0_ok 3 (5, .iload_n 2, 1) rfl
theorem dX5_way_6 : decode cX5_way 6 = .ok (.iload_n 3, 1) := dTX5_way_0_ok 4 (6, .iload_n 3, 1) rfl
theorem dX5_way_7 : decode cX5_way 7 = .ok (.invokestatic 19, 3) := dTX5_way_0_ok 5 (7, .invokestatic 19, 3) rfl
theorem dX5_way_10 : decode cX5_way 10 = .ok (.istore 4, 2) := dTX5_way_0_ok 6 (10, .istore 4, 2) rfl
theorem dX5_way_12 : decode cX5_way 12 = .ok (.aload_n 0, 1) := dTX5_way_0_ok 7 (12, .aload_n 0, 1) rfl
theorem dX5_way_13 : decode cX5_way 13 = .ok (.getfield 10, 3) := dTX5_way_0_ok 8 (13, .getfield 10, 3) rfl
theorem dX5_way_16 : decode cX5_way 16 = .ok (.iload_n 1, 1) := dTX5_way_0_ok 9 (16, .iload_n 1, 1) rfl
theorem dX5_way_17 : decode cX5_way 17 = .ok (.iload 4, 2) := dTX5_way_0_ok 10 (17, .iload 4, 2) rfl
theorem dX5_way_19 : decode cX5_way 19 = .ok (.invokevirtual 120, 3) := dTX5_way_0_ok 11 (19, .invokevirtual 120, 3) rfl
theorem dX5_way_22 : decode cX5_way 22 = .ok (.ireturn, 1) := dTX5_way_0_ok 12 (22, .ireturn, 1) rfl
noncomputable def dTX5_next_0 : List (Nat × Instr × Nat) := [(0, .aload_n 0, 1), (1, .iload_n 1, 1), (2, .invokevirtual 114, 3), (5, .aload_n 0, 1), (6, .getfield 10, 3), (9, .iload_n 1, 1), (10, .invokevirtual 156, 3), (13, .ireturn, 1)]
theorem dTX5_next_0_ok : ∀ (k : Nat) (q : Nat × Instr × Nat), dTX5_next_0[k]? = some q → decode cX5_next q.1 = .ok q.2 := dT_of (by decide +kernel)
theorem dX5_next_0 : decode cX5_next 0 = .ok (.aload_n 0, 1) := dTX5_next_0_ok 0 (0, .aload_n 0, 1) rfl
theorem dX5_next_1 : decode cX5_next 1 = .ok (.iload_n 1, 1) := dTX5_next_0_ok 1 (1, .iload_n 1, 1) rfl
theorem dX5_next_2 : decode cX5_next 2 = .ok (.invokevirtual 114, 3) := dTX5_next_0_ok 2 (2, .invokevirtual 114, 3) rfl
theorem dX5_next_5 : decode cX5_next 5 = .ok (.aload_n 0, 1) := dTX5_next_0_ok 3 (5, .aload_n 0, 1) rfl
theorem dX5_next_6 : decode cX5_next 6 = .ok (.getfield 10, 3) := dTX5_next_0_ok 4 (6, .getfield 10, 3) rfl
theorem dX5_next_9 : decode cX5_next 9 = .ok (.iload_n 1, 1) := dTX5_next_0_ok 5 (9, .iload_n 1, 1) rfl
theorem dX5_next_10 : decode cX5_next 10 = .ok (.invokevirtual 156, 3) := dTX5_next_0_ok 6 (10, .invokevirtual 156, 3) rfl
theorem dX5_next_13 : decode cX5_next 13 = .ok (.ireturn, 1) := dTX5_next_0_ok 7 (13, .ireturn, 1) rfl
noncomputable def dTX5_pass_0 : List (Nat × Instr × Nat) := [(0, .iload_n 1, 1), (1, .bipush 40, 2), (3, .invokestatic 159, 3), (6, .iconst 0, 1), (7, .istore_n 2, 1), (8, .iconst 0, 1), (9, .istore_n 3, 1), (10, .iload_n 3, 1), (11, .iload_n 1, 1), (12, .if_icmp .ge 19, 3), (15, .iload_n 2, 1), (16, .aload_n 0, 1), (17, .getfield 10, 3), (20, .invokevirtual 162, 3), (23, .iadd, 1), (24, .istore_n 2, 1), (25, .iinc 3 1, 3), (28, .goto (-18), 3), (31, .iload_n 2, 1), (32, .ireturn, 1)]
theorem dTX5_pass_0_ok : ∀ (k : Nat) (q : Nat × Instr × Nat), dTX5_pass_0[k]? = some q → decode cX5_pass q.1 = .ok q.2 := dT_of (by decide +kernel)
theorem dX5_pass_0 : decode cX5_pass 0 = .ok (.iload_n 1, 1) := dTX5_pass_0_ok 0 (0, .iload_n 1, 1) rfl
theorem dX5_pass_1 : decode cX5_pass 1 = .ok (.bipush 40, 2) := dTX5_pass_0_ok 1 (1, .bipush 40, 2) rfl
theorem dX5_pass_3 : decode cX5_pass 3 = .ok (.invokestatic 159, 3) := dTX5_pass_0_ok 2 (3, .invokestatic 159, 3) rfl
theorem dX5_pass_6 : decode cX5_pass 6 = .ok (.iconst 0, 1) := dTX5_pass_0_ok 3 (6, .iconst 0, 1) rfl
theorem dX5_pass_7 : decode cX5_pass 7 = .ok (.istore_n 2, 1) := dTX5_pass_0_ok 4 (7, .istore_n 2, 1) rfl
theorem dX5_pass_8 : decode cX5_pass 8 = .ok (.iconst 0, 1) := dTX5_pass_0_ok 5 (8, .iconst 0, 1) rfl
theorem dX5_pass_9 : decode cX5_pass 9 = .ok (.istore_n 3, 1) := dTX5_pass_0_ok 6 (9, .istore_n 3, 1) rfl
theorem dX5_pass_10 : decode cX5_pass 10 = .ok (.iload_n 3, 1) := dTX5_pass_0_ok 7 (10, .iload_n 3, 1) rfl
theorem dX5_pass_11 : decode cX5_pass 11 = .ok (.iload_n 1, 1) := dTX5_pass_0_ok 8 (11, .iload_n 1, 1) rfl
theorem dX5_pass_12 : decode cX5_pass 12 = .ok (.if_icmp .ge 19, 3) := dTX5_pass_0_ok 9 (12, .if_icmp .ge 19, 3) rfl
theorem dX5_pass_15 : decode cX5_pass 15 = .ok (.iload_n 2, 1) := dTX5_pass_0_ok 10 (15, .iload_n 2, 1) rfl
theorem dX5_pass_16 : decode cX5_pass 16 = .ok (.aload_n 0, 1) := dTX5_pass_0_ok 11 (16, .aload_n 0, 1) rfl
theorem dX5_pass_17 : decode cX5_pass 17 = .ok (.getfield 10, 3) := dTX5_pass_0_ok 12 (17, .getfield 10, 3) rfl
theorem dX5_pass_20 : decode cX5_pass 20 = .ok (.invokevirtual 162, 3) := dTX5_pass_0_ok 13 (20, .invokevirtual 162, 3) rfl
theorem dX5_pass_23 : decode cX5_pass 23 = .ok (.iadd, 1) := dTX5_pass_0_ok 14 (23, .iadd, 1) rfl
theorem dX5_pass_24 : decode cX5_pass 24 = .ok (.istore_n 2, 1) := dTX5_pass_0_ok 15 (24, .istore_n 2, 1) rfl
theorem dX5_pass_25 : decode cX5_pass 25 = .ok (.iinc 3 1, 3) := dTX5_pass_0_ok 16 (25, .iinc 3 1, 3) rfl
theorem dX5_pass_28 : decode cX5_pass 28 = .ok (.goto (-18), 3) := dTX5_pass_0_ok 17 (28, .goto (-18), 3) rfl
theorem dX5_pass_31 : decode cX5_pass 31 = .ok (.iload_n 2, 1) := dTX5_pass_0_ok 18 (31, .iload_n 2, 1) rfl
theorem dX5_pass_32 : decode cX5_pass 32 = .ok (.ireturn, 1) := dTX5_pass_0_ok 19 (32, .ireturn, 1) rfl
noncomputable def dTX5_foresee_0 : List (Nat × Instr × Nat) := [(0, .iload_n 1, 1), (1, .bipush 40, 2), (3, .invokestatic 159, 3), (6, .iload_n 2, 1), (7, .iconst 4, 1), (8, .invokestatic 134, 3), (11, .aload_n 0, 1), (12, .iload_n 1, 1), (13, .iconst (-1), 1), (14, .invokevirtual 165, 3), (17, .istore_n 3, 1), (18, .iload_n 2, 1), (19, .tableswitch 49 0 2 #[25, 27, 38], 25), (44, .iload_n 3, 1), (45, .ireturn, 1), (46, .aload_n 0, 1), (47, .getfield 16, 3), (50, .getfield 40, 3), (53, .invokevirtual 168, 3), (56, .ireturn, 1), (57, .aload_n 0, 1), (58, .getfield 16, 3), (61, .getfield 40, 3), (64, .invokevirtual 171, 3), (67, .ireturn, 1), (68, .aload_n 0, 1), (69, .getfield 16, 3), (72, .invokevirtual 174, 3), (75, .ireturn, 1)]
theorem dTX5_foresee_0_ok : ∀ (k : Nat) (q : Nat × Instr × Nat), dTX5_foresee_0[k]? = some q → decode cX5_foresee q.1 = .ok q.2 := dT_of (by decide +kernel)
theorem dX5_foresee_0 : decode cX5_foresee 0 = .ok (.iload_n 1, 1) := dTX5_foresee_0_ok 0 (0, .iload_n 1, 1) rfl
theorem dX5_foresee_1 : decode cX5_foresee 1 = .ok (.bipush 40, 2) := dTX5_foresee_0_ok 1 (1, .bipush 40, 2) rfl
theorem dX5_foresee_3 : decode cX5_foresee 3 = .ok (.invokestatic 159, 3) := dTX5_foresee_0_ok 2 (3, .invokestatic 159, 3) rfl
theorem dX5_foresee_6 : decode cX5_foresee 6 = .ok (.iload_n 2, 1) := dTX5_foresee_0_ok 3 (6, .iload_n 2, 1) rfl
theorem dX5_foresee_7 : decode cX5_foresee 7 = .ok (.iconst 4, 1) := dTX5_foresee_0_ok 4 (7, .iconst 4, 1) rfl
theorem dX5_foresee_8 : decode cX5_foresee 8 = .ok (.invokestatic 134, 3) := dTX5_foresee_0_ok 5 (8, .invokestatic 134, 3) rfl
theorem dX5_foresee_11 : decode cX5_foresee 11 = .ok (.aload_n 0, 1) := dTX5_foresee_0_ok 6 (11, .aload_n 0, 1) rfl
theorem dX5_foresee_12 : decode cX5_foresee 12 = .ok (.iload_n 1, 1) := dTX5_foresee_0_ok 7 (12, .iload_n 1, 1) rfl
theorem dX5_foresee_13 : decode cX5_foresee 13 = .ok (.iconst (-1), 1) := dTX5_foresee_0_ok 8 (13, .iconst (-1), 1) rfl
theorem dX5_foresee_14 : decode cX5_foresee 14 = .ok (.invokevirtual 165, 3) := dTX5_foresee_0_ok 9 (14, .invokevirtual 165, 3) rfl
theorem dX5_foresee_17 : decode cX5_foresee 17 = .ok (.istore_n 3, 1) := dTX5_foresee_0_ok 10 (17, .istore_n 3, 1) rfl
theorem dX5_foresee_18 : decode cX5_foresee 18 = .ok (.iload_n 2, 1) := dTX5_foresee_0_ok 11 (18, .iload_n 2, 1) rfl
theorem dX5_foresee_19 : decode cX5_foresee 19 = .ok (.tableswitch 49 0 2 #[25, 27, 38], 25) := dTX5_foresee_0_ok 12 (19, .tableswitch 49 0 2 #[25, 27, 38], 25) rfl
theorem dX5_foresee_44 : decode cX5_foresee 44 = .ok (.iload_n 3, 1) := dTX5_foresee_0_ok 13 (44, .iload_n 3, 1) rfl
theorem dX5_foresee_45 : decode cX5_foresee 45 = .ok (.ireturn, 1) := dTX5_foresee_0_ok 14 (45, .ireturn, 1) rfl
theorem dX5_foresee_46 : decode cX5_foresee 46 = .ok (.aload_n 0, 1) := dTX5_foresee_0_ok 15 (46, .aload_n 0, 1) rfl
theorem dX5_foresee_47 : decode cX5_foresee 47 = .ok (.getfield 16, 3) := dTX5_foresee_0_ok 16 (47, .getfield 16, 3) rfl
theorem dX5_foresee_50 : decode cX5_foresee 50 = .ok (.getfield 40, 3) := dTX5_foresee_0_ok 17 (50, .getfield 40, 3) rfl
theorem dX5_foresee_53 : decode cX5_foresee 53 = .ok (.invokevirtual 168, 3) := dTX5_foresee_0_ok 18 (53, .invokevirtual 168, 3) rfl
theorem dX5_foresee_56 : decode cX5_foresee 56 = .ok (.ireturn, 1) := dTX5_foresee_0_ok 19 (56, .ireturn, 1) rfl
theorem dX5_foresee_57 : decode cX5_foresee 57 = .ok (.aload_n 0, 1) := dTX5_foresee_0_ok 20 (57, .aload_n 0, 1) rfl
theorem dX5_foresee_58 : decode cX5_foresee 58 = .ok (.getfield 16, 3) := dTX5_foresee_0_ok 21 (58, .getfield 16, 3) rfl
theorem dX5_foresee_61 : decode cX5_foresee 61 = .ok (.getfield 40, 3) := dTX5_foresee_0_ok 22 (61, .getfield 40, 3) rfl
theorem dX5_foresee_64 : decode cX5_foresee 64 = .ok (.invokevirtual 171, 3) := dTX5_foresee_0_ok 23 (64, .invokevirtual 171, 3) rfl
theorem dX5_foresee_67 : decode cX5_foresee 67 = .ok (.ireturn, 1) := dTX5_foresee_0_ok 24 (67, .ireturn, 1) rfl
theorem dX5_foresee_68 : decode cX5_foresee 68 = .ok (.aload_n 0, 1) := dTX5_foresee_0_ok 25 (68, .aload_n 0, 1) rfl
theorem dX5_foresee_69 : decode cX5_foresee 69 = .ok (.getfield 16, 3) := dTX5_foresee_0_ok 26 (69, .getfield 16, 3) rfl
theorem dX5_foresee_72 : decode cX5_foresee 72 = .ok (.invokevirtual 174, 3) := dTX5_foresee_0_ok 27 (72, .invokevirtual 174, 3) rfl
theorem dX5_foresee_75 : decode cX5_foresee 75 = .ok (.ireturn, 1) := dTX5_foresee_0_ok 28 (75, .ireturn, 1) rfl
noncomputable def dTX5_mean_0 : List (Nat × Instr × Nat) := [(0, .aload_n 0, 1), (1, .getfield 10, 3), (4, .getfield 40, 3), (7, .invokevirtual 76, 3), (10, .istore_n 1, 1), (11, .iload_n 1, 1), (12, .ifCond .ne 7, 3), (15, .dconst 0, 1), (16, .goto 17, 3), (19, .aload_n 0, 1), (20, .getfield 10, 3), (23, .getfield 40, 3), (26, .invokevirtual 189, 3), (29, .i2d, 1), (30, .iload_n 1, 1), (31, .i2d, 1), (32, .ddiv, 1), (33, .dreturn, 1)]
theorem dTX5_mean_0_ok : ∀ (k : Nat) (q : Nat × Instr × Nat), dTX5_mean_0[k]? = some q → decode cX5_mean q.1 = .ok q.2 := dT_of (by decide +kernel)
theorem dX5_mean_0 : decode cX5_mean 0 = .ok (.aload_n 0, 1) := dTX5_mean_0_ok 0 (0, .aload_n 0, 1) rfl
theorem dX5_mean_1 : decode cX5_mean 1 = .ok (.getfield 10, 3) := dTX5_mean_0_ok 1 (1, .getfield 10, 3) rfl
theorem dX5_mean_4 : decode cX5_mean 4 = .ok (.getfield 40, 3) := dTX5_mean_0_ok 2 (4, .getfield 40, 3) rfl
theorem dX5_mean_7 : decode cX5_mean 7 = .ok (.invokevirtual 76, 3) := dTX5_mean_0_ok 3 (7, .invokevirtual 76, 3) rfl
theorem dX5_mean_10 : decode cX5_mean 10 = .ok (.istore_n 1, 1) := dTX5_mean_0_ok 4 (10, .istore_n 1, 1) rfl
theorem dX5_mean_11 : decode cX5_mean 11 = .ok (.iload_n 1, 1) := dTX5_mean_0_ok 5 (11, .iload_n 1, 1) rfl
theorem dX5_mean_12 : decode cX5_mean 12 = .ok (.ifCond .ne 7, 3) := dTX5_mean_0_ok 6 (12, .ifCond .ne 7, 3) rfl
theorem dX5_mean_15 : decode cX5_mean 15 = .ok (.dconst 0, 1) := dTX5_mean_0_ok 7 (15, .dconst 0, 1) rfl
theorem dX5_mean_16 : decode cX5_mean 16 = .ok (.goto 17, 3) := dTX5_mean_0_ok 8 (16, .goto 17, 3) rfl
theorem dX5_mean_19 : decode cX5_mean 19 = .ok (.aload_n 0, 1) := dTX5_mean_0_ok 9 (19, .aload_n 0, 1) rfl
theorem dX5_mean_20 : decode cX5_mean 20 = .ok (.getfield 10, 3) := dTX5_mean_0_ok 10 (20, .getfield 10, 3) rfl
theorem dX5_mean_23 : decode cX5_mean 23 = .ok (.getfield 40, 3) := dTX5_mean_0_ok 11 (23, .getfield 40, 3) rfl
theorem dX5_mean_26 : decode cX5_mean 26 = .ok (.invokevirtual 189, 3) := dTX5_mean_0_ok 12 (26, .invokevirtual 189, 3) rfl
theorem dX5_mean_29 : decode cX5_mean 29 = .ok (.i2d, 1) := dTX5_mean_0_ok 13 (29, .i2d, 1) rfl
theorem dX5_mean_30 : decode cX5_mean 30 = .ok (.iload_n 1, 1) := dTX5_mean_0_ok 14 (30, .iload_n 1, 1) rfl
theorem dX5_mean_31 : decode cX5_mean 31 = .ok (.i2d, 1) := dTX5_mean_0_ok 15 (31, .i2d, 1) rfl
theorem dX5_mean_32 : decode cX5_mean 32 = .ok (.ddiv, 1) := dTX5_mean_0_ok 16 (32, .ddiv, 1) rfl
theorem dX5_mean_33 : decode cX5_mean 33 = .ok (.dreturn, 1) := dTX5_mean_0_ok 17 (33, .dreturn, 1) rfl
noncomputable def dTX5_hauntsAhead_0 : List (Nat × Instr × Nat) := [(0, .aload_n 0, 1), (1, .getfield 16, 3), (4, .aload_n 0, 1), (5, .getfield 10, 3), (8, .invokevirtual 182, 3), (11, .iload_n 2, 1), (12, .iconst (-1), 1), (13, .if_icmp .eq 14, 3), (16, .aload_n 0, 1), (17, .getfield 16, 3), (20, .getfield 40, 3), (23, .iload_n 2, 1), (24, .invokevirtual 97, 3), (27, .iconst 0, 1), (28, .istore_n 3, 1), (29, .iconst 0, 1), (30, .istore 4, 2), (32, .iload 4, 2), (34, .iload_n 1, 1), (35, .if_icmp .ge 19, 3), (38, .iload_n 3, 1), (39, .aload_n 0, 1), (40, .getfield 16, 3), (43, .invokevirtual 162, 3), (46, .iadd, 1), (47, .istore_n 3, 1), (48, .iinc 4 1, 3), (51, .goto (-19), 3), (54, .iload_n 3, 1), (55, .ireturn, 1)]
theorem dTX5_hauntsAhead_0_ok : ∀ (k : Nat) (q : Nat × Instr × Nat), dTX5_hauntsAhead_0[k]? = some q → decode cX5_hauntsAhead q.1 = .ok q.2 := dT_of (by decide +kernel)
theorem dX5_hauntsAhead_0 : decode cX5_hauntsAhead 0 = .ok (.aload_n 0, 1) := dTX5_hauntsAhead_0_ok 0 (0, .aload_n 0, 1) rfl
theorem dX5_hauntsAhead_1 : decode cX5_hauntsAhead 1 = .ok (.getfield 16, 3) := dTX5_hauntsAhead_0_ok 1 (1, .getfield 16, 3) rfl
theorem dX5_hauntsAhead_4 : decode cX5_hauntsAhead 4 = .ok (.aload_n 0, 1) := dTX5_hauntsAhead_0_ok 2 (4, .aload_n 0, 1) rfl
theorem dX5_hauntsAhead_5 : decode cX5_hauntsAhead 5 = .ok (.getfield 10, 3) := dTX5_hauntsAhead_0_ok 3 (5, .getfield 10, 3) rfl
theorem dX5_hauntsAhead_8 : decode cX5_hauntsAhead 8 = .ok (.invokevirtual 182, 3) := dTX5_hauntsAhead_0_ok 4 (8, .invokevirtual 182, 3) rfl
theorem dX5_hauntsAhead_11 : decode cX5_hauntsAhead 11 = .ok (.iload_n 2, 1) := dTX5_hauntsAhead_0_ok 5 (11, .iload_n 2, 1) rfl
theorem dX5_hauntsAhead_12 : decode cX5_hauntsAhead 12 = .ok (.iconst (-1), 1) := dTX5_hauntsAhead_0_ok 6 (12, .iconst (-1), 1) rfl
theorem dX5_hauntsAhead_13 : decode cX5_hauntsAhead 13 = .ok (.if_icmp .eq 14, 3) := dTX5_hauntsAhead_0_ok 7 (13, .if_icmp .eq 14, 3) rfl
theorem dX5_hauntsAhead_16 : decode cX5_hauntsAhead 16 = .ok (.aload_n 0, 1) := dTX5_hauntsAhead_0_ok 8 (16, .aload_n 0, 1) rfl
theorem dX5_hauntsAhead_17 : decode cX5_hauntsAhead 17 = .ok (.getfield 16, 3) := dTX5_hauntsAhead_0_ok 9 (17, .getfield 16, 3) rfl
theorem dX5_hauntsAhead_20 : decode cX5_hauntsAhead 20 = .ok (.getfield 40, 3) := dTX5_hauntsAhead_0_ok 10 (20, .getfield 40, 3) rfl
theorem dX5_hauntsAhead_23 : decode cX5_hauntsAhead 23 = .ok (.iload_n 2, 1) := dTX5_hauntsAhead_0_ok 11 (23, .iload_n 2, 1) rfl
theorem dX5_hauntsAhead_24 : decode cX5_hauntsAhead 24 = .ok (.invokevirtual 97, 3) := dTX5_hauntsAhead_0_ok 12 (24, .invokevirtual 97, 3) rfl
theorem dX5_hauntsAhead_27 : decode cX5_hauntsAhead 27 = .ok (.iconst 0, 1) := dTX5_hauntsAhead_0_ok 13 (27, .iconst 0, 1) rfl
theorem dX5_hauntsAhead_28 : decode cX5_hauntsAhead 28 = .ok (.istore_n 3, 1) := dTX5_hauntsAhead_0_ok 14 (28, .istore_n 3, 1) rfl
theorem dX5_hauntsAhead_29 : decode cX5_hauntsAhead 29 = .ok (.iconst 0, 1) := dTX5_hauntsAhead_0_ok 15 (29, .iconst 0, 1) rfl
theorem dX5_hauntsAhead_30 : decode cX5_hauntsAhead 30 = .ok (.istore 4, 2) := dTX5_hauntsAhead_0_ok 16 (30, .istore 4, 2) rfl
theorem dX5_hauntsAhead_32 : decode cX5_hauntsAhead 32 = .ok (.iload 4, 2) := dTX5_hauntsAhead_0_ok 17 (32, .iload 4, 2) rfl
theorem dX5_hauntsAhead_34 : decode cX5_hauntsAhead 34 = .ok (.iload_n 1, 1) := dTX5_hauntsAhead_0_ok 18 (34, .iload_n 1, 1) rfl
theorem dX5_hauntsAhead_35 : decode cX5_hauntsAhead 35 = .ok (.if_icmp .ge 19, 3) := dTX5_hauntsAhead_0_ok 19 (35, .if_icmp .ge 19, 3) rfl
theorem dX5_hauntsAhead_38 : decode cX5_hauntsAhead 38 = .ok (.iload_n 3, 1) := dTX5_hauntsAhead_0_ok 20 (38, .iload_n 3, 1) rfl
theorem dX5_hauntsAhead_39 : decode cX5_hauntsAhead 39 = .ok (.aload_n 0, 1) := dTX5_hauntsAhead_0_ok 21 (39, .aload_n 0, 1) rfl
theorem dX5_hauntsAhead_40 : decode cX5_hauntsAhead 40 = .ok (.getfield 16, 3) := dTX5_hauntsAhead_0_ok 22 (40, .getfield 16, 3) rfl
theorem dX5_hauntsAhead_43 : decode cX5_hauntsAhead 43 = .ok (.invokevirtual 162, 3) := dTX5_hauntsAhead_0_ok 23 (43, .invokevirtual 162, 3) rfl
theorem dX5_hauntsAhead_46 : decode cX5_hauntsAhead 46 = .ok (.iadd, 1) := dTX5_hauntsAhead_0_ok 24 (46, .iadd, 1) rfl
theorem dX5_hauntsAhead_47 : decode cX5_hauntsAhead 47 = .ok (.istore_n 3, 1) := dTX5_hauntsAhead_0_ok 25 (47, .istore_n 3, 1) rfl
theorem dX5_hauntsAhead_48 : decode cX5_hauntsAhead 48 = .ok (.iinc 4 1, 3) := dTX5_hauntsAhead_0_ok 26 (48, .iinc 4 1, 3) rfl
theorem dX5_hauntsAhead_51 : decode cX5_hauntsAhead 51 = .ok (.goto (-19), 3) := dTX5_hauntsAhead_0_ok 27 (51, .goto (-19), 3) rfl
theorem dX5_hauntsAhead_54 : decode cX5_hauntsAhead 54 = .ok (.iload_n 3, 1) := dTX5_hauntsAhead_0_ok 28 (54, .iload_n 3, 1) rfl
theorem dX5_hauntsAhead_55 : decode cX5_hauntsAhead 55 = .ok (.ireturn, 1) := dTX5_hauntsAhead_0_ok 29 (55, .ireturn, 1) rfl
noncomputable def dTX5_checkedCell_0 : List (Nat × Instr × Nat) := [(0, .iload_n 0, 1), (1, .ifCond .lt 19, 3), (4, .iload_n 0, 1), (5, .bipush 9, 2), (7, .if_icmp .ge 13, 3), (10, .iload_n 1, 1), (11, .ifCond .lt 9, 3), (14, .iload_n 1, 1), (15, .bipush 7, 2), (17, .if_icmp .lt 13, 3), (20, .new 196, 3), (23, .dup, 1), (24, .ldc 198, 2), (26, .invokespecial 200, 3), (29, .athrow, 1), (30, .bipush 9, 2), (32, .iload_n 1, 1), (33, .imul, 1), (34, .iload_n 0, 1), (35, .iadd, 1), (36, .ireturn, 1)]
theorem dTX5_checkedCell_0_ok : ∀ (k : Nat) (q : Nat × Instr × Nat), dTX5_checkedCell_0[k]? = some q → decode cX5_checkedCell q.1 = .ok q.2 := dT_of (by decide +kernel)
theorem dX5_checkedCell_0 : decode cX5_checkedCell 0 = .ok (.iload_n 0, 1) := dTX5_checkedCell_0_ok 0 (0, .iload_n 0, 1) rfl
theorem dX5_checkedCell_1 : decode cX5_checkedCell 1 = .ok (.ifCond .lt 19, 3) := dTX5_checkedCell_0_ok 1 (1, .ifCond .lt 19, 3) rfl
theorem dX5_checkedCell_4 : decode cX5_checkedCell 4 = .ok (.iload_n 0, 1) := dTX5_checkedCell_0_ok 2 (4, .iload_n 0, 1) rfl
theorem dX5_checkedCell_5 : decode cX5_checkedCell 5 = .ok (.bipush 9, 2) := dTX5_checkedCell_0_ok 3 (5, .bipush 9, 2) rfl
theorem dX5_checkedCell_7 : decode cX5_checkedCell 7 = .ok (.if_icmp .ge 13, 3) := dTX5_checkedCell_0_ok 4 (7, .if_icmp .ge 13, 3) rfl
theorem dX5_checkedCell_10 : decode cX5_checkedCell 10 = .ok (.iload_n 1, 1) := dTX5_checkedCell_0_ok 5 (10, .iload_n 1, 1) rfl
theorem dX5_checkedCell_11 : decode cX5_checkedCell 11 = .ok (.ifCond .lt 9, 3) := dTX5_checkedCell_0_ok 6 (11, .ifCond .lt 9, 3) rfl
theorem dX5_checkedCell_14 : decode cX5_checkedCell 14 = .ok (.iload_n 1, 1) := dTX5_checkedCell_0_ok 7 (14, .iload_n 1, 1) rfl
theorem dX5_checkedCell_15 : decode cX5_checkedCell 15 = .ok (.bipush 7, 2) := dTX5_checkedCell_0_ok 8 (15, .bipush 7, 2) rfl
theorem dX5_checkedCell_17 : decode cX5_checkedCell 17 = .ok (.if_icmp .lt 13, 3) := dTX5_checkedCell_0_ok 9 (17, .if_icmp .lt 13, 3) rfl
theorem dX5_checkedCell_20 : decode cX5_checkedCell 20 = .ok (.new 196, 3) := dTX5_checkedCell_0_ok 10 (20, .new 196, 3) rfl
theorem dX5_checkedCell_23 : decode cX5_checkedCell 23 = .ok (.dup, 1) := dTX5_checkedCell_0_ok 11 (23, .dup, 1) rfl
theorem dX5_checkedCell_24 : decode cX5_checkedCell 24 = .ok (.ldc 198, 2) := dTX5_checkedCell_0_ok 12 (24, .ldc 198, 2) rfl
theorem dX5_checkedCell_26 : decode cX5_checkedCell 26 = .ok (.invokespecial 200, 3) := dTX5_checkedCell_0_ok 13 (26, .invokespecial 200, 3) rfl
theorem dX5_checkedCell_29 : decode cX5_checkedCell 29 = .ok (.athrow, 1) := dTX5_checkedCell_0_ok 14 (29, .athrow, 1) rfl
theorem dX5_checkedCell_30 : decode cX5_checkedCell 30 = .ok (.bipush 9, 2) := dTX5_checkedCell_0_ok 15 (30, .bipush 9, 2) rfl
theorem dX5_checkedCell_32 : decode cX5_checkedCell 32 = .ok (.iload_n 1, 1) := dTX5_checkedCell_0_ok 16 (32, .iload_n 1, 1) rfl
theorem dX5_checkedCell_33 : decode cX5_checkedCell 33 = .ok (.imul, 1) := dTX5_checkedCell_0_ok 17 (33, .imul, 1) rfl
theorem dX5_checkedCell_34 : decode cX5_checkedCell 34 = .ok (.iload_n 0, 1) := dTX5_checkedCell_0_ok 18 (34, .iload_n 0, 1) rfl
theorem dX5_checkedCell_35 : decode cX5_checkedCell 35 = .ok (.iadd, 1) := dTX5_checkedCell_0_ok 19 (35, .iadd, 1) rfl
theorem dX5_checkedCell_36 : decode cX5_checkedCell 36 = .ok (.ireturn, 1) := dTX5_checkedCell_0_ok 20 (36, .ireturn, 1) rfl
noncomputable def dTX5_checkDirection_0 : List (Nat × Instr × Nat) := [(0, .iload_n 0, 1), (1, .ifCond .lt 8, 3), (4, .iload_n 0, 1), (5, .iconst 4, 1), (6, .if_icmp .lt 13, 3), (9, .new 53, 3), (12, .dup, 1), (13, .ldc 201, 2), (15, .invokespecial 57, 3), (18, .athrow, 1), (19, .return_, 1)]
theorem dTX5_checkDirection_0_ok : ∀ (k : Nat) (q : Nat × Instr × Nat), dTX5_checkDirection_0[k]? = some q → decode cX5_checkDirection q.1 = .ok q.2 := dT_of (by decide +kernel)
theorem dX5_checkDirection_0 : decode cX5_checkDirection 0 = .ok (.iload_n 0, 1) := dTX5_checkDirection_0_ok 0 (0, .iload_n 0, 1) rfl
theorem dX5_checkDirection_1 : decode cX5_checkDirection 1 = .ok (.ifCond .lt 8, 3) := dTX5_checkDirection_0_ok 1 (1, .ifCond .lt 8, 3) rfl
theorem dX5_checkDirection_4 : decode cX5_checkDirection 4 = .ok (.iload_n 0, 1) := dTX5_checkDirection_0_ok 2 (4, .iload_n 0, 1) rfl
theorem dX5_checkDirection_5 : decode cX5_checkDirection 5 = .ok (.iconst 4, 1) := dTX5_checkDirection_0_ok 3 (5, .iconst 4, 1) rfl
theorem dX5_checkDirection_6 : decode cX5_checkDirection 6 = .ok (.if_icmp .lt 13, 3) := dTX5_checkDirection_0_ok 4 (6, .if_icmp .lt 13, 3) rfl
theorem dX5_checkDirection_9 : decode cX5_checkDirection 9 = .ok (.new 53, 3) := dTX5_checkDirection_0_ok 5 (9, .new 53, 3) rfl
theorem dX5_checkDirection_12 : decode cX5_checkDirection 12 = .ok (.dup, 1) := dTX5_checkDirection_0_ok 6 (12, .dup, 1) rfl
theorem dX5_checkDirection_13 : decode cX5_checkDirection 13 = .ok (.ldc 201, 2) := dTX5_checkDirection_0_ok 7 (13, .ldc 201, 2) rfl
theorem dX5_checkDirection_15 : decode cX5_checkDirection 15 = .ok (.invokespecial 57, 3) := dTX5_checkDirection_0_ok 8 (15, .invokespecial 57, 3) rfl
theorem dX5_checkDirection_18 : decode cX5_checkDirection 18 = .ok (.athrow, 1) := dTX5_checkDirection_0_ok 9 (18, .athrow, 1) rfl
theorem dX5_checkDirection_19 : decode cX5_checkDirection 19 = .ok (.return_, 1) := dTX5_checkDirection_0_ok 10 (19, .return_, 1) rfl
noncomputable def dTX5_checkWhat_0 : List (Nat × Instr × Nat) := [(0, .iload_n 0, 1), (1, .ifCond .lt 8, 3), (4, .iload_n 0, 1), (5, .iload_n 1, 1), (6, .if_icmp .lt 13, 3), (9, .new 196, 3), (12, .dup, 1), (13, .ldc 203, 2), (15, .invokespecial 200, 3), (18, .athrow, 1), (19, .return_, 1)]
theorem dTX5_checkWhat_0_ok : ∀ (k : Nat) (q : Nat × Instr × Nat), dTX5_checkWhat_0[k]? = some q → decode cX5_checkWhat q.1 = .ok q.2 := dT_of (by decide +kernel)
theorem dX5_checkWhat_0 : decode cX5_checkWhat 0 = .ok (.iload_n 0, 1) := dTX5_checkWhat_0_ok 0 (0, .iload_n 0, 1) rfl
theorem dX5_checkWhat_1 : decode cX5_checkWhat 1 = .ok (.ifCond .lt 8, 3) := dTX5_checkWhat_0_ok 1 (1, .ifCond .lt 8, 3) rfl
theorem dX5_checkWhat_4 : decode cX5_checkWhat 4 = .ok (.iload_n 0, 1) := dTX5_checkWhat_0_ok 2 (4, .iload_n 0, 1) rfl
theorem dX5_checkWhat_5 : decode cX5_checkWhat 5 = .ok (.iload_n 1, 1) := dTX5_checkWhat_0_ok 3 (5, .iload_n 1, 1) rfl
theorem dX5_checkWhat_6 : decode cX5_checkWhat 6 = .ok (.if_icmp .lt 13, 3) := dTX5_checkWhat_0_ok 4 (6, .if_icmp .lt 13, 3) rfl
theorem dX5_checkWhat_9 : decode cX5_checkWhat 9 = .ok (.new 196, 3) := dTX5_checkWhat_0_ok 5 (9, .new 196, 3) rfl
theorem dX5_checkWhat_12 : decode cX5_checkWhat 12 = .ok (.dup, 1) := dTX5_checkWhat_0_ok 6 (12, .dup, 1) rfl
theorem dX5_checkWhat_13 : decode cX5_checkWhat 13 = .ok (.ldc 203, 2) := dTX5_checkWhat_0_ok 7 (13, .ldc 203, 2) rfl
theorem dX5_checkWhat_15 : decode cX5_checkWhat 15 = .ok (.invokespecial 200, 3) := dTX5_checkWhat_0_ok 8 (15, .invokespecial 200, 3) rfl
theorem dX5_checkWhat_18 : decode cX5_checkWhat 18 = .ok (.athrow, 1) := dTX5_checkWhat_0_ok 9 (18, .athrow, 1) rfl
theorem dX5_checkWhat_19 : decode cX5_checkWhat 19 = .ok (.return_, 1) := dTX5_checkWhat_0_ok 10 (19, .return_, 1) rfl
noncomputable def dTX5_checkHours_0 : List (Nat × Instr × Nat) := [(0, .iload_n 0, 1), (1, .iconst 1, 1), (2, .if_icmp .lt 8, 3), (5, .iload_n 0, 1), (6, .iload_n 1, 1), (7, .if_icmp .le 13, 3), (10, .new 53, 3), (13, .dup, 1), (14, .ldc 205, 2), (16, .invokespecial 57, 3), (19, .athrow, 1), (20, .return_, 1)]
theorem dTX5_checkHours_0_ok : ∀ (k : Nat) (q : Nat × Instr × Nat), dTX5_checkHours_0[k]? = some q → decode cX5_checkHours q.1 = .ok q.2 := dT_of (by decide +kernel)
theorem dX5_checkHours_0 : decode cX5_checkHours 0 = .ok (.iload_n 0, 1) := dTX5_checkHours_0_ok 0 (0, .iload_n 0, 1) rfl
theorem dX5_checkHours_1 : decode cX5_checkHours 1 = .ok (.iconst 1, 1) := dTX5_checkHours_0_ok 1 (1, .iconst 1, 1) rfl
theorem dX5_checkHours_2 : decode cX5_checkHours 2 = .ok (.if_icmp .lt 8, 3) := dTX5_checkHours_0_ok 2 (2, .if_icmp .lt 8, 3) rfl
theorem dX5_checkHours_5 : decode cX5_checkHours 5 = .ok (.iload_n 0, 1) := dTX5_checkHours_0_ok 3 (5, .iload_n 0, 1) rfl
theorem dX5_checkHours_6 : decode cX5_checkHours 6 = .ok (.iload_n 1, 1) := dTX5_checkHours_0_ok 4 (6, .iload_n 1, 1) rfl
theorem dX5_checkHours_7 : decode cX5_checkHours 7 = .ok (.if_icmp .le 13, 3) := dTX5_checkHours_0_ok 5 (7, .if_icmp .le 13, 3) rfl
theorem dX5_checkHours_10 : decode cX5_checkHours 10 = .ok (.new 53, 3) := dTX5_checkHours_0_ok 6 (10, .new 53, 3) rfl
theorem dX5_checkHours_13 : decode cX5_checkHours 13 = .ok (.dup, 1) := dTX5_checkHours_0_ok 7 (13, .dup, 1) rfl
theorem dX5_checkHours_14 : decode cX5_checkHours 14 = .ok (.ldc 205, 2) := dTX5_checkHours_0_ok 8 (14, .ldc 205, 2) rfl
theorem dX5_checkHours_16 : decode cX5_checkHours 16 = .ok (.invokespecial 57, 3) := dTX5_checkHours_0_ok 9 (16, .invokespecial 57, 3) rfl
theorem dX5_checkHours_19 : decode cX5_checkHours 19 = .ok (.athrow, 1) := dTX5_checkHours_0_ok 10 (19, .athrow, 1) rfl
theorem dX5_checkHours_20 : decode cX5_checkHours 20 = .ok (.return_, 1) := dTX5_checkHours_0_ok 11 (20, .return_, 1) rfl
noncomputable def dTX5_checkGhost_0 : List (Nat × Instr × Nat) := [(0, .iload_n 1, 1), (1, .ifCond .lt 14, 3), (4, .iload_n 1, 1), (5, .aload_n 0, 1), (6, .getfield 10, 3), (9, .getfield 105, 3), (12, .if_icmp .lt 13, 3), (15, .new 196, 3), (18, .dup, 1), (19, .ldc 207, 2), (21, .invokespecial 200, 3), (24, .athrow, 1), (25, .return_, 1)]
theorem dTX5_checkGhost_0_ok : ∀ (k : Nat) (q : Nat × Instr × Nat), dTX5_checkGhost_0[k]? = some q → decode cX5_checkGhost q.1 = .ok q.2 := dT_of (by decide +kernel)
theorem dX5_checkGhost_0 : decode cX5_checkGhost 0 = .ok (.iload_n 1, 1) := dTX5_checkGhost_0_ok 0 (0, .iload_n 1, 1) rfl
theorem dX5_checkGhost_1 : decode cX5_checkGhost 1 = .ok (.ifCond .lt 14, 3) := dTX5_checkGhost_0_ok 1 (1, .ifCond .lt 14, 3) rfl
theorem dX5_checkGhost_4 : decode cX5_checkGhost 4 = .ok (.iload_n 1, 1) := dTX5_checkGhost_0_ok 2 (4, .iload_n 1, 1) rfl
theorem dX5_checkGhost_5 : decode cX5_checkGhost 5 = .ok (.aload_n 0, 1) := dTX5_checkGhost_0_ok 3 (5, .aload_n 0, 1) rfl
theorem dX5_checkGhost_6 : decode cX5_checkGhost 6 = .ok (.getfield 10, 3) := dTX5_checkGhost_0_ok 4 (6, .getfield 10, 3) rfl
theorem dX5_checkGhost_9 : decode cX5_checkGhost 9 = .ok (.getfield 105, 3) := dTX5_checkGhost_0_ok 5 (9, .getfield 105, 3) rfl
theorem dX5_checkGhost_12 : decode cX5_checkGhost 12 = .ok (.if_icmp .lt 13, 3) := dTX5_checkGhost_0_ok 6 (12, .if_icmp .lt 13, 3) rfl
theorem dX5_checkGhost_15 : decode cX5_checkGhost 15 = .ok (.new 196, 3) := dTX5_checkGhost_0_ok 7 (15, .new 196, 3) rfl
theorem dX5_checkGhost_18 : decode cX5_checkGhost 18 = .ok (.dup, 1) := dTX5_checkGhost_0_ok 8 (18, .dup, 1) rfl
theorem dX5_checkGhost_19 : decode cX5_checkGhost 19 = .ok (.ldc 207, 2) := dTX5_checkGhost_0_ok 9 (19, .ldc 207, 2) rfl
theorem dX5_checkGhost_21 : decode cX5_checkGhost 21 = .ok (.invokespecial 200, 3) := dTX5_checkGhost_0_ok 10 (21, .invokespecial 200, 3) rfl
theorem dX5_checkGhost_24 : decode cX5_checkGhost 24 = .ok (.athrow, 1) := dTX5_checkGhost_0_ok 11 (24, .athrow, 1) rfl
theorem dX5_checkGhost_25 : decode cX5_checkGhost 25 = .ok (.return_, 1) := dTX5_checkGhost_0_ok 12 (25, .return_, 1) rfl
noncomputable def dTX5_checkRoomFor_0 : List (Nat × Instr × Nat) := [(0, .iload_n 1, 1), (1, .iload_n 2, 1), (2, .if_icmp .ge 17, 3), (5, .aload_n 0, 1), (6, .getfield 10, 3), (9, .getfield 40, 3), (12, .iload_n 3, 1), (13, .invokevirtual 82, 3), (16, .ifCond .eq 13, 3), (19, .new 33, 3), (22, .dup, 1), (23, .ldc 209, 2), (25, .invokespecial 37, 3), (28, .athrow, 1), (29, .return_, 1)]
theorem dTX5_checkRoomFor_0_ok : ∀ (k : Nat) (q : Nat × Instr × Nat), dTX5_checkRoomFor_0[k]? = some q → decode cX5_checkRoomFor q.1 = .ok q.2 := dT_of (by decide +kernel)
theorem dX5_checkRoomFor_0 : decode cX5_checkRoomFor 0 = .ok (.iload_n 1, 1) := dTX5_checkRoomFor_0_ok 0 (0, .iload_n 1, 1) rfl
theorem dX5_checkRoomFor_1 : decode cX5_checkRoomFor 1 = .ok (.iload_n 2, 1) := dTX5_checkRoomFor_0_ok 1 (1, .iload_n 2, 1) rfl
theorem dX5_checkRoomFor_2 : decode cX5_checkRoomFor 2 = .ok (.if_icmp .ge 17, 3) := dTX5_checkRoomFor_0_ok 2 (2, .if_icmp .ge 17, 3) rfl
theorem dX5_checkRoomFor_5 : decode cX5_checkRoomFor 5 = .ok (.aload_n 0, 1) := dTX5_checkRoomFor_0_ok 3 (5, .aload_n 0, 1) rfl
theorem dX5_checkRoomFor_6 : decode cX5_checkRoomFor 6 = .ok (.getfield 10, 3) := dTX5_checkRoomFor_0_ok 4 (6, .getfield 10, 3) rfl
theorem dX5_checkRoomFor_9 : decode cX5_checkRoomFor 9 = .ok (.getfield 40, 3) := dTX5_checkRoomFor_0_ok 5 (9, .getfield 40, 3) rfl
theorem dX5_checkRoomFor_12 : decode cX5_checkRoomFor 12 = .ok (.iload_n 3, 1) := dTX5_checkRoomFor_0_ok 6 (12, .iload_n 3, 1) rfl
theorem dX5_checkRoomFor_13 : decode cX5_checkRoomFor 13 = .ok (.invokevirtual 82, 3) := dTX5_checkRoomFor_0_ok 7 (13, .invokevirtual 82, 3) rfl
theorem dX5_checkRoomFor_16 : decode cX5_checkRoomFor 16 = .ok (.ifCond .eq 13, 3) := dTX5_checkRoomFor_0_ok 8 (16, .ifCond .eq 13, 3) rfl
theorem dX5_checkRoomFor_19 : decode cX5_checkRoomFor 19 = .ok (.new 33, 3) := dTX5_checkRoomFor_0_ok 9 (19, .new 33, 3) rfl
theorem dX5_checkRoomFor_22 : decode cX5_checkRoomFor 22 = .ok (.dup, 1) := dTX5_checkRoomFor_0_ok 10 (22, .dup, 1) rfl
theorem dX5_checkRoomFor_23 : decode cX5_checkRoomFor 23 = .ok (.ldc 209, 2) := dTX5_checkRoomFor_0_ok 11 (23, .ldc 209, 2) rfl
theorem dX5_checkRoomFor_25 : decode cX5_checkRoomFor 25 = .ok (.invokespecial 37, 3) := dTX5_checkRoomFor_0_ok 12 (25, .invokespecial 37, 3) rfl
theorem dX5_checkRoomFor_28 : decode cX5_checkRoomFor 28 = .ok (.athrow, 1) := dTX5_checkRoomFor_0_ok 13 (28, .athrow, 1) rfl
theorem dX5_checkRoomFor_29 : decode cX5_checkRoomFor 29 = .ok (.return_, 1) := dTX5_checkRoomFor_0_ok 14 (29, .return_, 1) rfl
noncomputable def dTX6_init_0 : List (Nat × Instr × Nat) := [(0, .aload_n 0, 1), (1, .invokespecial 1, 3), (4, .aload_n 0, 1), (5, .iconst 1, 1), (6, .putfield 7, 3), (9, .return_, 1)]
theorem dTX6_init_0_ok : ∀ (k : Nat) (q : Nat × Instr × Nat), dTX6_init_0[k]? = some q → decode cX6_init q.1 = .ok q.2 := dT_of (by decide +kernel)
theorem dX6_init_0 : decode cX6_init 0 = .ok (.aload_n 0, 1) := dTX6_init_0_ok 0 (0, .aload_n 0, 1) rfl
theorem dX6_init_1 : decode cX6_init 1 = .ok (.invokespecial 1, 3) := dTX6_init_0_ok 1 (1, .invokespecial 1, 3) rfl
theorem dX6_init_4 : decode cX6_init 4 = .ok (.aload_n 0, 1) := dTX6_init_0_ok 2 (4, .aload_n 0, 1) rfl
theorem dX6_init_5 : decode cX6_init 5 = .ok (.iconst 1, 1) := dTX6_init_0_ok 3 (5, .iconst 1, 1) rfl
theorem dX6_init_6 : decode cX6_init 6 = .ok (.putfield 7, 3) := dTX6_init_0_ok 4 (6, .putfield 7, 3) rfl
theorem dX6_init_9 : decode cX6_init 9 = .ok (.return_, 1) := dTX6_init_0_ok 5 (9, .return_, 1) rfl
noncomputable def dTX7_init_0 : List (Nat × Instr × Nat) := [(0, .aload_n 0, 1), (1, .invokespecial 1, 3), (4, .aload_n 0, 1), (5, .bipush 9, 2), (7, .bipush 7, 2), (9, .iconst 4, 1), (10, .multianewarray 7 3, 4), (14, .putfield 9, 3), (17, .aload_n 0, 1), (18, .bipush 9, 2), (20, .bipush 7, 2), (22, .multianewarray 14 2, 4), (26, .putfield 16, 3), (29, .aload_n 0, 1), (30, .bipush 9, 2), (32, .bipush 7, 2), (34, .multianewarray 14 2, 4), (38, .putfield 19, 3), (41, .aload_n 0, 1), (42, .bipush 9, 2), (44, .bipush 7, 2), (46, .multianewarray 22 2, 4), (50, .putfield 24, 3), (53, .aload_n 0, 1), (54, .iconst 0, 1), (55, .anewarray 27, 3), (58, .putfield 29, 3), (61, .aload_n 0, 1), (62, .bipush 126, 2), (64, .newarray .int, 2), (66, .putfield 33, 3), (69, .aload_n 0, 1), (70, .bipush 126, 2), (72, .newarray .int, 2), (74, .putfield 37, 3), (77, .return_, 1)]
theorem dTX7_init_0_ok : ∀ (k : Nat) (q : Nat × Instr × Nat), dTX7_init_0[k]? = some q → decode cX7_init q.1 = .ok q.2 := dT_of (by decide +kernel)
theorem dX7_init_0 : decode cX7_init 0 = .ok (.aload_n 0, 1) := dTX7_init_0_ok 0 (0, .aload_n 0, 1) rfl
theorem dX7_init_1 : decode cX7_init 1 = .ok (.invokespecial 1, 3) := dTX7_init_0_ok 1 (1, .invokespecial 1, 3) rfl
theorem dX7_init_4 : decode cX7_init 4 = .ok (.aload_n 0, 1) := dTX7_init_0_ok 2 (4, .aload_n 0, 1) rfl
theorem dX7_init_5 : decode cX7_init 5 = .ok (.bipush 9, 2) := dTX7_init_0_ok 3 (5, .bipush 9, 2) rfl
theorem dX7_init_7 : decode cX7_init 7 = .ok (.bipush 7, 2) := dTX7_init_0_ok 4 (7, .bipush 7, 2) rfl
theorem dX7_init_9 : decode cX7_init 9 = .ok (.iconst 4, 1) := dTX7_init_0_ok 5 (9, .iconst 4, 1) rfl
theorem dX7_init_10 : decode cX7_init 10 = .ok (.multianewarray 7 3, 4) := dTX7_init_0_ok 6 (10, .multianewarray 7 3, 4) rfl
theorem dX7_init_14 : decode cX7_init 14 = .ok (.putfield 9, 3) := dTX7_init_0_ok 7 (14, .putfield 9, 3) rfl
theorem dX7_init_17 : decode cX7_init 17 = .ok (.aload_n 0, 1) := dTX7_init_0_ok 8 (17, .aload_n 0, 1) rfl
theorem dX7_init_18 : decode cX7_init 18 = .ok (.bipush 9, 2) := dTX7_init_0_ok 9 (18, .bipush 9, 2) rfl
theorem dX7_init_20 : decode cX7_init 20 = .ok (.bipush 7, 2) := dTX7_init_0_ok 10 (20, .bipush 7, 2) rfl
theorem dX7_init_22 : decode cX7_init 22 = .ok (.multianewarray 14 2, 4) := dTX7_init_0_ok 11 (22, .multianewarray 14 2, 4) rfl
theorem dX7_init_26 : decode cX7_init 26 = .ok (.putfield 16, 3) := dTX7_init_0_ok 12 (26, .putfield 16, 3) rfl
theorem dX7_init_29 : decode cX7_init 29 = .ok (.aload_n 0, 1) := dTX7_init_0_ok 13 (29, .aload_n 0, 1) rfl
theorem dX7_init_30 : decode cX7_init 30 = .ok (.bipush 9, 2) := dTX7_init_0_ok 14 (30, .bipush 9, 2) rfl
theorem dX7_init_32 : decode cX7_init 32 = .ok (.bipush 7, 2) := dTX7_init_0_ok 15 (32, .bipush 7, 2) rfl
theorem dX7_init_34 : decode cX7_init 34 = .ok (.multianewarray 14 2, 4) := dTX7_init_0_ok 16 (34, .multianewarray 14 2, 4) rfl
theorem dX7_init_38 : decode cX7_init 38 = .ok (.putfield 19, 3) := dTX7_init_0_ok 17 (38, .putfield 19, 3) rfl
theorem dX7_init_41 : decode cX7_init 41 = .ok (.aload_n 0, 1) := dTX7_init_0_ok 18 (41, .aload_n 0, 1) rfl
theorem dX7_init_42 : decode cX7_init 42 = .ok (.bipush 9, 2) := dTX7_init_0_ok 19 (42, .bipush 9, 2) rfl
theorem dX7_init_44 : decode cX7_init 44 = .ok (.bipush 7, 2) := dTX7_init_0_ok 20 (44, .bipush 7, 2) rfl
theorem dX7_init_46 : decode cX7_init 46 = .ok (.multianewarray 22 2, 4) := dTX7_init_0_ok 21 (46, .multianewarray 22 2, 4) rfl
theorem dX7_init_50 : decode cX7_init 50 = .ok (.putfield 24, 3) := dTX7_init_0_ok 22 (50, .putfield 24, 3) rfl
theorem dX7_init_53 : decode cX7_init 53 = .ok (.aload_n 0, 1) := dTX7_init_0_ok 23 (53, .aload_n 0, 1) rfl
theorem dX7_init_54 : decode cX7_init 54 = .ok (.iconst 0, 1) := dTX7_init_0_ok 24 (54, .iconst 0, 1) rfl
theorem dX7_init_55 : decode cX7_init 55 = .ok (.anewarray 27, 3) := dTX7_init_0_ok 25 (55, .anewarray 27, 3) rfl
theorem dX7_init_58 : decode cX7_init 58 = .ok (.putfield 29, 3) := dTX7_init_0_ok 26 (58, .putfield 29, 3) rfl
theorem dX7_init_61 : decode cX7_init 61 = .ok (.aload_n 0, 1) := dTX7_init_0_ok 27 (61, .aload_n 0, 1) rfl
theorem dX7_init_62 : decode cX7_init 62 = .ok (.bipush 126, 2) := dTX7_init_0_ok 28 (62, .bipush 126, 2) rfl
theorem dX7_init_64 : decode cX7_init 64 = .ok (.newarray .int, 2) := dTX7_init_0_ok 29 (64, .newarray .int, 2) rfl
theorem dX7_init_66 : decode cX7_init 66 = .ok (.putfield 33, 3) := dTX7_init_0_ok 30 (66, .putfield 33, 3) rfl
theorem dX7_init_69 : decode cX7_init 69 = .ok (.aload_n 0, 1) := dTX7_init_0_ok 31 (69, .aload_n 0, 1) rfl
theorem dX7_init_70 : decode cX7_init 70 = .ok (.bipush 126, 2) := dTX7_init_0_ok 32 (70, .bipush 126, 2) rfl
theorem dX7_init_72 : decode cX7_init 72 = .ok (.newarray .int, 2) := dTX7_init_0_ok 33 (72, .newarray .int, 2) rfl
theorem dX7_init_74 : decode cX7_init 74 = .ok (.putfield 37, 3) := dTX7_init_0_ok 34 (74, .putfield 37, 3) rfl
theorem dX7_init_77 : decode cX7_init 77 = .ok (.return_, 1) := dTX7_init_0_ok 35 (77, .return_, 1) rfl
noncomputable def dTX7_goX_0 : List (Nat × Instr × Nat) := [(0, .iload_n 0, 1), (1, .iconst 1, 1), (2, .if_icmp .ne 7, 3), (5, .iconst 1, 1), (6, .goto 13, 3), (9, .iload_n 0, 1), (10, .iconst 3, 1), (11, .if_icmp .ne 7, 3), (14, .iconst (-1), 1), (15, .goto 4, 3), (18, .iconst 0, 1), (19, .ireturn, 1)]
theorem dTX7_goX_0_ok : ∀ (k : Nat) (q : Nat × Instr × Nat), dTX7_goX_0[k]? = some q → decode cX7_goX q.1 = .ok q.2 := dT_of (by decide +kernel)
theorem dX7_goX_0 : decode cX7_goX 0 = .ok (.iload_n 0, 1) := dTX7_goX_0_ok 0 (0, .iload_n 0, 1) rfl
theorem dX7_goX_1 : decode cX7_goX 1 = .ok (.iconst 1, 1) := dTX7_goX_0_ok 1 (1, .iconst 1, 1) rfl
theorem dX7_goX_2 : decode cX7_goX 2 = .ok (.if_icmp .ne 7, 3) := dTX7_goX_0_ok 2 (2, .if_icmp .ne 7, 3) rfl
theorem dX7_goX_5 : decode cX7_goX 5 = .ok (.iconst 1, 1) := dTX7_goX_0_ok 3 (5, .iconst 1, 1) rfl
theorem dX7_goX_6 : decode cX7_goX 6 = .ok (.goto 13, 3) := dTX7_goX_0_ok 4 (6, .goto 13, 3) rfl
theorem dX7_goX_9 : decode cX7_goX 9 = .ok (.iload_n 0, 1) := dTX7_goX_0_ok 5 (9, .iload_n 0, 1) rfl
theorem dX7_goX_10 : decode cX7_goX 10 = .ok (.iconst 3, 1) := dTX7_goX_0_ok 6 (10, .iconst 3, 1) rfl
theorem dX7_goX_11 : decode cX7_goX 11 = .ok (.if_icmp .ne 7, 3) := dTX7_goX_0_ok 7 (11, .if_icmp .ne 7, 3) rfl
theorem dX7_goX_14 : decode cX7_goX 14 = .ok (.iconst (-1), 1) := dTX7_goX_0_ok 8 (14, .iconst (-1), 1) rfl
theorem dX7_goX_15 : decode cX7_goX 15 = .ok (.goto 4, 3) := dTX7_goX_0_ok 9 (15, .goto 4, 3) rfl
theorem dX7_goX_18 : decode cX7_goX 18 = .ok (.iconst 0, 1) := dTX7_goX_0_ok 10 (18, .iconst 0, 1) rfl
theorem dX7_goX_19 : decode cX7_goX 19 = .ok (.ireturn, 1) := dTX7_goX_0_ok 11 (19, .ireturn, 1) rfl
noncomputable def dTX7_goY_0 : List (Nat × Instr × Nat) := [(0, .iload_n 0, 1), (1, .iconst 2, 1), (2, .if_icmp .ne 7, 3), (5, .iconst 1, 1), (6, .goto 12, 3), (9, .iload_n 0, 1), (10, .ifCond .ne 7, 3), (13, .iconst (-1), 1), (14, .goto 4, 3), (17, .iconst 0, 1), (18, .ireturn, 1)]
theorem dTX7_goY_0_ok : ∀ (k : Nat) (q : Nat × Instr × Nat), dTX7_goY_0[k]? = some q → decode cX7_goY q.1 = .ok q.2 := dT_of (by decide +kernel)
theorem dX7_goY_0 : decode cX7_goY 0 = .ok (.iload_n 0, 1) := dTX7_goY_0_ok 0 (0, .iload_n 0, 1) rfl
theorem dX7_goY_1 : decode cX7_goY 1 = .ok (.iconst 2, 1) := dTX7_goY_0_ok 1 (1, .iconst 2, 1) rfl
theorem dX7_goY_2 : decode cX7_goY 2 = .ok (.if_icmp .ne 7, 3) := dTX7_goY_0_ok 2 (2, .if_icmp .ne 7, 3) rfl
theorem dX7_goY_5 : decode cX7_goY 5 = .ok (.iconst 1, 1) := dTX7_goY_0_ok 3 (5, .iconst 1, 1) rfl
theorem dX7_goY_6 : decode cX7_goY 6 = .ok (.goto 12, 3) := dTX7_goY_0_ok 4 (6, .goto 12, 3) rfl
theorem dX7_goY_9 : decode cX7_goY 9 = .ok (.iload_n 0, 1) := dTX7_goY_0_ok 5 (9, .iload_n 0, 1) rfl
theorem dX7_goY_10 : decode cX7_goY 10 = .ok (.ifCond .ne 7, 3) := dTX7_goY_0_ok 6 (10, .ifCond .ne 7, 3) rfl
theorem dX7_goY_13 : decode cX7_goY 13 = .ok (.iconst (-1), 1) := dTX7_goY_0_ok 7 (13, .iconst (-1), 1) rfl
theorem dX7_goY_14 : decode cX7_goY 14 = .ok (.goto 4, 3) := dTX7_goY_0_ok 8 (14, .goto 4, 3) rfl
theorem dX7_goY_17 : decode cX7_goY 17 = .ok (.iconst 0, 1) := dTX7_goY_0_ok 9 (17, .iconst 0, 1) rfl
theorem dX7_goY_18 : decode cX7_goY 18 = .ok (.ireturn, 1) := dTX7_goY_0_ok 10 (18, .ireturn, 1) rfl
noncomputable def dTX7_isIn_0 : List (Nat × Instr × Nat) := [(0, .iload_n 0, 1), (1, .ifCond .lt 23, 3), (4, .iload_n 0, 1), (5, .bipush 9, 2), (7, .if_icmp .ge 17, 3), (10, .iload_n 1, 1), (11, .ifCond .lt 13, 3), (14, .iload_n 1, 1), (15, .bipush 7, 2), (17, .if_icmp .ge 7, 3), (20, .iconst 1, 1), (21, .goto 4, 3), (24, .iconst 0, 1), (25, .ireturn, 1)]
theorem dTX7_isIn_0_ok : ∀ (k : Nat) (q : Nat × Instr × Nat), dTX7_isIn_0[k]? = some q → decode cX7_isIn q.1 = .ok q.2 := dT_of (by decide +kernel)
theorem dX7_isIn_0 : decode cX7_isIn 0 = .ok (.iload_n 0, 1) := dTX7_isIn_0_ok 0 (0, .iload_n 0, 1) rfl
theorem dX7_isIn_1 : decode cX7_isIn 1 = .ok (.ifCond .lt 23, 3) := dTX7_isIn_0_ok 1 (1, .ifCond .lt 23, 3) rfl
theorem dX7_isIn_4 : decode cX7_isIn 4 = .ok (.iload_n 0, 1) := dTX7_isIn_0_ok 2 (4, .iload_n 0, 1) rfl
theorem dX7_isIn_5 : decode cX7_isIn 5 = .ok (.bipush 9, 2) := dTX7_isIn_0_ok 3 (5, .bipush 9, 2) rfl
theorem dX7_isIn_7 : decode cX7_isIn 7 = .ok (.if_icmp .ge 17, 3) := dTX7_isIn_0_ok 4 (7, .if_icmp .ge 17, 3) rfl
theorem dX7_isIn_10 : decode cX7_isIn 10 = .ok (.iload_n 1, 1) := dTX7_isIn_0_ok 5 (10, .iload_n 1, 1) rfl
theorem dX7_isIn_11 : decode cX7_isIn 11 = .ok (.ifCond .lt 13, 3) := dTX7_isIn_0_ok 6 (11, .ifCond .lt 13, 3) rfl
theorem dX7_isIn_14 : decode cX7_isIn 14 = .ok (.iload_n 1, 1) := dTX7_isIn_0_ok 7 (14, .iload_n 1, 1) rfl
theorem dX7_isIn_15 : decode cX7_isIn 15 = .ok (.bipush 7, 2) := dTX7_isIn_0_ok 8 (15, .bipush 7, 2) rfl
theorem dX7_isIn_17 : decode cX7_isIn 17 = .ok (.if_icmp .ge 7, 3) := dTX7_isIn_0_ok 9 (17, .if_icmp .ge 7, 3) rfl
theorem dX7_isIn_20 : decode cX7_isIn 20 = .ok (.iconst 1, 1) := dTX7_isIn_0_ok 10 (20, .iconst 1, 1) rfl
theorem dX7_isIn_21 : decode cX7_isIn 21 = .ok (.goto 4, 3) := dTX7_isIn_0_ok 11 (21, .goto 4, 3) rfl
theorem dX7_isIn_24 : decode cX7_isIn 24 = .ok (.iconst 0, 1) := dTX7_isIn_0_ok 12 (24, .iconst 0, 1) rfl
theorem dX7_isIn_25 : decode cX7_isIn 25 = .ok (.ireturn, 1) := dTX7_isIn_0_ok 13 (25, .ireturn, 1) rfl
noncomputable def dTX7_turnWall_0 : List (Nat × Instr × Nat) := [(0, .aload_n 0, 1), (1, .getfield 9, 3), (4, .iload_n 1, 1), (5, .aaload, 1), (6, .iload_n 2, 1), (7, .aaload, 1), (8, .iload_n 3, 1), (9, .aload_n 0, 1), (10, .getfield 9, 3), (13, .iload_n 1, 1), (14, .aaload, 1), (15, .iload_n 2, 1), (16, .aaload, 1), (17, .iload_n 3, 1), (18, .baload, 1), (19, .ifCond .ne 7, 3), (22, .iconst 1, 1), (23, .goto 4, 3), (26, .iconst 0, 1), (27, .bastore, 1), (28, .aload_n 0, 1), (29, .getfield 9, 3), (32, .iload_n 1, 1), (33, .iload_n 3, 1), (34, .invokestatic 49, 3), (37, .iadd, 1), (38, .aaload, 1), (39, .iload_n 2, 1), (40, .iload_n 3, 1), (41, .invokestatic 53, 3), (44, .iadd, 1), (45, .aaload, 1), (46, .iload_n 3, 1), (47, .iconst 2, 1), (48, .iadd, 1), (49, .iconst 4, 1), (50, .irem, 1), (51, .aload_n 0, 1), (52, .getfield 9, 3), (55, .iload_n 1, 1), (56, .aaload, 1), (57, .iload_n 2, 1), (58, .aaload, 1), (59, .iload_n 3, 1), (60, .baload, 1), (61, .bastore, 1), (62, .return_, 1)]
theorem dTX7_turnWall_0_ok : ∀ (k : Nat) (q : Nat × Instr × Nat), dTX7_turnWall_0[k]? = some q → decode cX7_turnWall q.1 = .ok q.2 := dT_of (by decide +kernel)
theorem dX7_turnWall_0 : decode cX7_turnWall 0 = .ok (.aload_n 0, 1) := dTX7_turnWall_0_ok 0 (0, .aload_n 0, 1) rfl
theorem dX7_turnWall_1 : decode cX7_turnWall 1 = .ok (.getfield 9, 3) := dTX7_turnWall_0_ok 1 (1, .getfield 9, 3) rfl
theorem dX7_turnWall_4 : decode cX7_turnWall 4 = .ok (.iload_n 1, 1) := dTX7_turnWall_0_ok 2 (4, .iload_n 1, 1) rfl
theorem dX7_turnWall_5 : decode cX7_turnWall 5 = .ok (.aaload, 1) := dTX7_turnWall_0_ok 3 (5, .aaload, 1) rfl
theorem dX7_turnWall_6 : decode cX7_turnWall 6 = .ok (.iload_n 2, 1) := dTX7_turnWall_0_ok 4 (6, .iload_n 2, 1) rfl
theorem dX7_turnWall_7 : decode cX7_turnWall 7 = .ok (.aaload, 1) := dTX7_turnWall_0_ok 5 (7, .aaload, 1) rfl
theorem dX7_turnWall_8 : decode cX7_turnWall 8 = .ok (.iload_n 3, 1) := dTX7_turnWall_0_ok 6 (8, .iload_n 3, 1) rfl
theorem dX7_turnWall_9 : decode cX7_turnWall 9 = .ok (.aload_n 0, 1) := dTX7_turnWall_0_ok 7 (9, .aload_n 0, 1) rfl
theorem dX7_turnWall_10 : decode cX7_turnWall 10 = .ok (.getfield 9, 3) := dTX7_turnWall_0_ok 8 (10, .getfield 9, 3) rfl
theorem dX7_turnWall_13 : decode cX7_turnWall 13 = .ok (.iload_n 1, 1) := dTX7_turnWall_0_ok 9 (13, .iload_n 1, 1) rfl
theorem dX7_turnWall_14 : decode cX7_turnWall 14 = .ok (.aaload, 1) := dTX7_turnWall_0_ok 10 (14, .aaload, 1) rfl
theorem dX7_turnWall_15 : decode cX7_turnWall 15 = .ok (.iload_n 2, 1) := dTX7_turnWall_0_ok 11 (15, .iload_n 2, 1) rfl
theorem dX7_turnWall_16 : decode cX7_turnWall 16 = .ok (.aaload, 1) := dTX7_turnWall_0_ok 12 (16, .aaload, 1) rfl
theorem dX7_turnWall_17 : decode cX7_turnWall 17 = .ok (.iload_n 3, 1) := dTX7_turnWall_0_ok 13 (17, .iload_n 3, 1) rfl
theorem dX7_turnWall_18 : decode cX7_turnWall 18 = .ok (.baload, 1) := dTX7_turnWall_0_ok 14 (18, .baload, 1) rfl
theorem dX7_turnWall_19 : decode cX7_turnWall 19 = .ok (.ifCond .ne 7, 3) := dTX7_turnWall_0_ok 15 (19, .ifCond .ne 7, 3) rfl
theorem dX7_turnWall_22 : decode cX7_turnWall 22 = .ok (.iconst 1, 1) := dTX7_turnWall_0_ok 16 (22, .iconst 1, 1) rfl
theorem dX7_turnWall_23 : decode cX7_turnWall 23 = .ok (.goto 4, 3) := dTX7_turnWall_0_ok 17 (23, .goto 4, 3) rfl
theorem dX7_turnWall_26 : decode cX7_turnWall 26 = .ok (.iconst 0, 1) := dTX7_turnWall_0_ok 18 (26, .iconst 0, 1) rfl
theorem dX7_turnWall_27 : decode cX7_turnWall 27 = .ok (.bastore, 1) := dTX7_turnWall_0_ok 19 (27, .bastore, 1) rfl
theorem dX7_turnWall_28 : decode cX7_turnWall 28 = .ok (.aload_n 0, 1) := dTX7_turnWall_0_ok 20 (28, .aload_n 0, 1) rfl
theorem dX7_turnWall_29 : decode cX7_turnWall 29 = .ok (.getfield 9, 3) := dTX7_turnWall_0_ok 21 (29, .getfield 9, 3) rfl
theorem dX7_turnWall_32 : decode cX7_turnWall 32 = .ok (.iload_n 1, 1) := dTX7_turnWall_0_ok 22 (32, .iload_n 1, 1) rfl
theorem dX7_turnWall_33 : decode cX7_turnWall 33 = .ok (.iload_n 3, 1) := dTX7_turnWall_0_ok 23 (33, .iload_n 3, 1) rfl
theorem dX7_turnWall_34 : decode cX7_turnWall 34 = .ok (.invokestatic 49, 3) := dTX7_turnWall_0_ok 24 (34, .invokestatic 49, 3) rfl
theorem dX7_turnWall_37 : decode cX7_turnWall 37 = .ok (.iadd, 1) := dTX7_turnWall_0_ok 25 (37, .iadd, 1) rfl
theorem dX7_turnWall_38 : decode cX7_turnWall 38 = .ok (.aaload, 1) := dTX7_turnWall_0_ok 26 (38, .aaload, 1) rfl
theorem dX7_turnWall_39 : decode cX7_turnWall 39 = .ok (.iload_n 2, 1) := dTX7_turnWall_0_ok 27 (39, .iload_n 2, 1) rfl
theorem dX7_turnWall_40 : decode cX7_turnWall 40 = .ok (.iload_n 3, 1) := dTX7_turnWall_0_ok 28 (40, .iload_n 3, 1) rfl
theorem dX7_turnWall_41 : decode cX7_turnWall 41 = .ok (.invokestatic 53, 3) := dTX7_turnWall_0_ok 29 (41, .invokestatic 53, 3) rfl
theorem dX7_turnWall_44 : decode cX7_turnWall 44 = .ok (.iadd, 1) := dTX7_turnWall_0_ok 30 (44, .iadd, 1) rfl
theorem dX7_turnWall_45 : decode cX7_turnWall 45 = .ok (.aaload, 1) := dTX7_turnWall_0_ok 31 (45, .aaload, 1) rfl
theorem dX7_turnWall_46 : decode cX7_turnWall 46 = .ok (.iload_n 3, 1) := dTX7_turnWall_0_ok 32 (46, .iload_n 3, 1) rfl
theorem dX7_turnWall_47 : decode cX7_turnWall 47 = .ok (.iconst 2, 1) := dTX7_turnWall_0_ok 33 (47, .iconst 2, 1) rfl
theorem dX7_turnWall_48 : decode cX7_turnWall 48 = .ok (.iadd, 1) := dTX7_turnWall_0_ok 34 (48, .iadd, 1) rfl
theorem dX7_turnWall_49 : decode cX7_turnWall 49 = .ok (.iconst 4, 1) := dTX7_turnWall_0_ok 35 (49, .iconst 4, 1) rfl
theorem dX7_turnWall_50 : decode cX7_turnWall 50 = .ok (.irem, 1) := dTX7_turnWall_0_ok 36 (50, .irem, 1) rfl
theorem dX7_turnWall_51 : decode cX7_turnWall 51 = .ok (.aload_n 0, 1) := dTX7_turnWall_0_ok 37 (51, .aload_n 0, 1) rfl
theorem dX7_turnWall_52 : decode cX7_turnWall 52 = .ok (.getfield 9, 3) := dTX7_turnWall_0_ok 38 (52, .getfield 9, 3) rfl
theorem dX7_turnWall_55 : decode cX7_turnWall 55 = .ok (.iload_n 1, 1) := dTX7_turnWall_0_ok 39 (55, .iload_n 1, 1) rfl
theorem dX7_turnWall_56 : decode cX7_turnWall 56 = .ok (.aaload, 1) := dTX7_turnWall_0_ok 40 (56, .aaload, 1) rfl
theorem dX7_turnWall_57 : decode cX7_turnWall 57 = .ok (.iload_n 2, 1) := dTX7_turnWall_0_ok 41 (57, .iload_n 2, 1) rfl
theorem dX7_turnWall_58 : decode cX7_turnWall 58 = .ok (.aaload, 1) := dTX7_turnWall_0_ok 42 (58, .aaload, 1) rfl
theorem dX7_turnWall_59 : decode cX7_turnWall 59 = .ok (.iload_n 3, 1) := dTX7_turnWall_0_ok 43 (59, .iload_n 3, 1) rfl
theorem dX7_turnWall_60 : decode cX7_turnWall 60 = .ok (.baload, 1) := dTX7_turnWall_0_ok 44 (60, .baload, 1) rfl
theorem dX7_turnWall_61 : decode cX7_turnWall 61 = .ok (.bastore, 1) := dTX7_turnWall_0_ok 45 (61, .bastore, 1) rfl
theorem dX7_turnWall_62 : decode cX7_turnWall 62 = .ok (.return_, 1) := dTX7_turnWall_0_ok 46 (62, .return_, 1) rfl
noncomputable def dTX7_things_0 : List (Nat × Instr × Nat) := [(0, .iconst 0, 1), (1, .istore_n 2, 1), (2, .iconst 0, 1), (3, .istore_n 3, 1), (4, .iload_n 3, 1), (5, .bipush 9, 2), (7, .if_icmp .ge 46, 3), (10, .iconst 0, 1), (11, .istore 4, 2), (13, .iload 4, 2), (15, .bipush 7, 2), (17, .if_icmp .ge 30, 3), (20, .iload_n 2, 1), (21, .aload_n 0, 1), (22, .getfield 16, 3), (25, .iload_n 3, 1), (26, .aaload, 1), (27, .iload 4, 2), (29, .iaload, 1), (30, .iload_n 1, 1), (31, .if_icmp .ne 7, 3), (34, .iconst 1, 1), (35, .goto 4, 3), (38, .iconst 0, 1), (39, .iadd, 1), (40, .istore_n 2, 1), (41, .iinc 4 1, 3), (44, .goto (-31), 3), (47, .iinc 3 1, 3), (50, .goto (-46), 3), (53, .iload_n 2, 1), (54, .ireturn, 1)]
theorem dTX7_things_0_ok : ∀ (k : Nat) (q : Nat × Instr × Nat), dTX7_things_0[k]? = some q → decode cX7_things q.1 = .ok q.2 := dT_of (by decide +kernel)
theorem dX7_things_0 : decode cX7_things 0 = .ok (.iconst 0, 1) := dTX7_things_0_ok 0 (0, .iconst 0, 1) rfl
theorem dX7_things_1 : decode cX7_things 1 = .ok (.istore_n 2, 1) := dTX7_things_0_ok 1 (1, .istore_n 2, 1) rfl
theorem dX7_things_2 : decode cX7_things 2 = .ok (.iconst 0, 1) := dTX7_things_0_ok 2 (2, .iconst 0, 1) rfl
theorem dX7_things_3 : decode cX7_things 3 = .ok (.istore_n 3, 1) := dTX7_things_0_ok 3 (3, .istore_n 3, 1) rfl
theorem dX7_things_4 : decode cX7_things 4 = .ok (.iload_n 3, 1) := dTX7_things_0_ok 4 (4, .iload_n 3, 1) rfl
theorem dX7_things_5 : decode cX7_things 5 = .ok (.bipush 9, 2) := dTX7_things_0_ok 5 (5, .bipush 9, 2) rfl
theorem dX7_things_7 : decode cX7_things 7 = .ok (.if_icmp .ge 46, 3) := dTX7_things_0_ok 6 (7, .if_icmp .ge 46, 3) rfl
theorem dX7_things_10 : decode cX7_things 10 = .ok (.iconst 0, 1) := dTX7_things_0_ok 7 (10, .iconst 0, 1) rfl
theorem dX7_things_11 : decode cX7_things 11 = .ok (.istore 4, 2) := dTX7_things_0_ok 8 (11, .istore 4, 2) rfl
theorem dX7_things_13 : decode cX7_things 13 = .ok (.iload 4, 2) := dTX7_things_0_ok 9 (13, .iload 4, 2) rfl
theorem dX7_things_15 : decode cX7_things 15 = .ok (.bipush 7, 2) := dTX7_things_0_ok 10 (15, .bipush 7, 2) rfl
theorem dX7_things_17 : decode cX7_things 17 = .ok (.if_icmp .ge 30, 3) := dTX7_things_0_ok 11 (17, .if_icmp .ge 30, 3) rfl
theorem dX7_things_20 : decode cX7_things 20 = .ok (.iload_n 2, 1) := dTX7_things_0_ok 12 (20, .iload_n 2, 1) rfl
theorem dX7_things_21 : decode cX7_things 21 = .ok (.aload_n 0, 1) := dTX7_things_0_ok 13 (21, .aload_n 0, 1) rfl
theorem dX7_things_22 : decode cX7_things 22 = .ok (.getfield 16, 3) := dTX7_things_0_ok 14 (22, .getfield 16, 3) rfl
theorem dX7_things_25 : decode cX7_things 25 = .ok (.iload_n 3, 1) := dTX7_things_0_ok 15 (25, .iload_n 3, 1) rfl
theorem dX7_things_26 : decode cX7_things 26 = .ok (.aaload, 1) := dTX7_things_0_ok 16 (26, .aaload, 1) rfl
theorem dX7_things_27 : decode cX7_things 27 = .ok (.iload 4, 2) := dTX7_things_0_ok 17 (27, .iload 4, 2) rfl
theorem dX7_things_29 : decode cX7_things 29 = .ok (.iaload, 1) := dTX7_things_0_ok 18 (29, .iaload, 1) rfl
theorem dX7_things_30 : decode cX7_things 30 = .ok (.iload_n 1, 1) := dTX7_things_0_ok 19 (30, .iload_n 1, 1) rfl
theorem dX7_things_31 : decode cX7_things 31 = .ok (.if_icmp .ne 7, 3) := dTX7_things_0_ok 20 (31, .if_icmp .ne 7, 3) rfl
theorem dX7_things_34 : decode cX7_things 34 = .ok (.iconst 1, 1) := dTX7_things_0_ok 21 (34, .iconst 1, 1) rfl
theorem dX7_things_35 : decode cX7_things 35 = .ok (.goto 4, 3) := dTX7_things_0_ok 22 (35, .goto 4, 3) rfl
theorem dX7_things_38 : decode cX7_things 38 = .ok (.iconst 0, 1) := dTX7_things_0_ok 23 (38, .iconst 0, 1) rfl
theorem dX7_things_39 : decode cX7_things 39 = .ok (.iadd, 1) := dTX7_things_0_ok 24 (39, .iadd, 1) rfl
theorem dX7_things_40 : decode cX7_things 40 = .ok (.istore_n 2, 1) := dTX7_things_0_ok 25 (40, .istore_n 2, 1) rfl
theorem dX7_things_41 : decode cX7_things 41 = .ok (.iinc 4 1, 3) := dTX7_things_0_ok 26 (41, .iinc 4 1, 3) rfl
theorem dX7_things_44 : decode cX7_things 44 = .ok (.goto (-31), 3) := dTX7_things_0_ok 27 (44, .goto (-31), 3) rfl
theorem dX7_things_47 : decode cX7_things 47 = .ok (.iinc 3 1, 3) := dTX7_things_0_ok 28 (47, .iinc 3 1, 3) rfl
theorem dX7_things_50 : decode cX7_things 50 = .ok (.goto (-46), 3) := dTX7_things_0_ok 29 (50, .goto (-46), 3) rfl
theorem dX7_things_53 : decode cX7_things 53 = .ok (.iload_n 2, 1) := dTX7_things_0_ok 30 (53, .iload_n 2, 1) rfl
theorem dX7_things_54 : decode cX7_things 54 = .ok (.ireturn, 1) := dTX7_things_0_ok 31 (54, .ireturn, 1) rfl
noncomputable def dTX7_shine_0 : List (Nat × Instr × Nat) := [(0, .aload_n 1, 1), (1, .iload_n 2, 1), (2, .aaload, 1), (3, .iload_n 3, 1), (4, .iconst 1, 1), (5, .bastore, 1), (6, .iconst 0, 1), (7, .istore 4, 2), (9, .iload 4, 2), (11, .iconst 4, 1), (12, .if_icmp .ge 201, 3), (15, .iload_n 2, 1), (16, .istore 5, 2), (18, .iload_n 3, 1), (19, .istore 6, 2), (21, .iload 4, 2), (23, .istore 7, 2), (25, .iconst 0, 1), (26, .istore 8, 2), (28, .iload 8, 2), (30, .bipush 6, 2), (32, .if_icmp .ge 175, 3), (35, .aload_n 0, 1), (36, .getfield 9, 3), (39, .iload 5, 2), (41, .aaload, 1), (42, .iload 6, 2), (44, .aaload, 1), (45, .iload 7, 2), (47, .baload, 1), (48, .ifCond .ne 159, 3), (51, .iload 5, 2), (53, .iload 7, 2), (55, .invokestatic 49, 3), (58, .iadd, 1), (59, .iload 6, 2), (61, .iload 7, 2), (63, .invokestatic 53, 3), (66, .iadd, 1), (67, .invokestatic 56, 3), (70, .ifCond .eq 137, 3), (73, .iload 7, 2), (75, .istore 9, 2), (77, .iload 5, 2), (79, .iload 9, 2), (81, .invokestatic 49, 3), (84, .iadd, 1), (85, .istore 5, 2), (87, .iload 6, 2), (89, .iload 9, 2), (91, .invokestatic 53, 3), (94, .iadd, 1), (95, .istore 6, 2), (97, .aload_n 1, 1), (98, .iload 5, 2), (100, .aaload, 1), (101, .iload 6, 2), (103, .iconst 1, 1), (104, .bastore, 1), (105, .iload 5, 2)]
theorem dTX7_shine_0_ok : ∀ (k : Nat) (q : Nat × Instr × Nat), dTX7_shine_0[k]? = some q → decode cX7_shine q.1 = .ok q.2 := dT_of (by decide +kernel)
theorem dX7_shine_0 : decode cX7_shine 0 = .ok (.aload_n 1, 1) := dTX7_shine_0_ok 0 (0, .aload_n 1, 1) rfl
theorem dX7_shine_1 : decode cX7_shine 1 = .ok (.iload_n 2, 1) := dTX7_shine_0_ok 1 (1, .iload_n 2, 1) rfl
theorem dX7_shine_2 : decode cX7_shine 2 = .ok (.aaload, 1) := dTX7_shine_0_ok 2 (2, .aaload, 1) rfl
theorem dX7_shine_3 : decode cX7_shine 3 = .ok (.iload_n 3, 1) := dTX7_shine_0_ok 3 (3, .iload_n 3, 1) rfl
theorem dX7_shine_4 : decode cX7_shine 4 = .ok (.iconst 1, 1) := dTX7_shine_0_ok 4 (4, .iconst 1, 1) rfl
theorem dX7_shine_5 : decode cX7_shine 5 = .ok (.bastore, 1) := dTX7_shine_0_ok 5 (5, .bastore, 1) rfl
theorem dX7_shine_6 : decode cX7_shine 6 = .ok (.iconst 0, 1) := dTX7_shine_0_ok 6 (6, .iconst 0, 1) rfl
theorem dX7_shine_7 : decode cX7_shine 7 = .ok (.istore 4, 2) := dTX7_shine_0_ok 7 (7, .istore 4, 2) rfl
theorem dX7_shine_9 : decode cX7_shine 9 = .ok (.iload 4, 2) := dTX7_shine_0_ok 8 (9, .iload 4, 2) rfl
theorem dX7_shine_11 : decode cX7_shine 11 = .ok (.iconst 4, 1) := dTX7_shine_0_ok 9 (11, .iconst 4, 1) rfl
theorem dX7_shine_12 : decode cX7_shine 12 = .ok (.if_icmp .ge 201, 3) := dTX7_shine_0_ok 10 (12, .if_icmp .ge 201, 3) rfl
theorem dX7_shine_15 : decode cX7_shine 15 = .ok (.iload_n 2, 1) := dTX7_shine_0_ok 11 (15, .iload_n 2, 1) rfl
theorem dX7_shine_16 : decode cX7_shine 16 = .ok (.istore 5, 2) := dTX7_shine_0_ok 12 (16, .istore 5, 2) rfl
theorem dX7_shine_18 : decode cX7_shine 18 = .ok (.iload_n 3, 1) := dTX7_shine_0_ok 13 (18, .iload_n 3, 1) rfl
theorem dX7_shine_19 : decode cX7_shine 19 = .ok (.istore 6, 2) := dTX7_shine_0_ok 14 (19, .istore 6, 2) rfl
theorem dX7_shine_21 : decode cX7_shine 21 = .ok (.iload 4, 2) := dTX7_shine_0_ok 15 (21, .iload 4, 2) rfl
theorem dX7_shine_23 : decode cX7_shine 23 = .ok (.istore 7, 2) := dTX7_shine_0_ok 16 (23, .istore 7, 2) rfl
theorem dX7_shine_25 : decode cX7_shine 25 = .ok (.iconst 0, 1) := dTX7_shine_0_ok 17 (25, .iconst 0, 1) rfl
theorem dX7_shine_26 : decode cX7_shine 26 = .ok (.istore 8, 2) := dTX7_shine_0_ok 18 (26, .istore 8, 2) rfl
theorem dX7_shine_28 : decode cX7_shine 28 = .ok (.iload 8, 2) := dTX7_shine_0_ok 19 (28, .iload 8, 2) rfl
theorem dX7_shine_30 : decode cX7_shine 30 = .ok (.bipush 6, 2) := dTX7_shine_0_ok 20 (30, .bipush 6, 2) rfl
theorem dX7_shine_32 : decode cX7_shine 32 = .ok (.if_icmp .ge 175, 3) := dTX7_shine_0_ok 21 (32, .if_icmp .ge 175, 3) rfl
theorem dX7_shine_35 : decode cX7_shine 35 = .ok (.aload_n 0, 1) := dTX7_shine_0_ok 22 (35, .aload_n 0, 1) rfl
theorem dX7_shine_36 : decode cX7_shine 36 = .ok (.getfield 9, 3) := dTX7_shine_0_ok 23 (36, .getfield 9, 3) rfl
theorem dX7_shine_39 : decode cX7_shine 39 = .ok (.iload 5, 2) := dTX7_shine_0_ok 24 (39, .iload 5, 2) rfl
theorem dX7_shine_41 : decode cX7_shine 41 = .ok (.aaload, 1) := dTX7_shine_0_ok 25 (41, .aaload, 1) rfl
theorem dX7_shine_42 : decode cX7_shine 42 = .ok (.iload 6, 2) := dTX7_shine_0_ok 26 (42, .iload 6, 2) rfl
theorem dX7_shine_44 : decode cX7_shine 44 = .ok (.aaload, 1) := dTX7_shine_0_ok 27 (44, .aaload, 1) rfl
theorem dX7_shine_45 : decode cX7_shine 45 = .ok (.iload 7, 2) := dTX7_shine_0_ok 28 (45, .iload 7, 2) rfl
theorem dX7_shine_47 : decode cX7_shine 47 = .ok (.baload, 1) := dTX7_shine_0_ok 29 (47, .baload, 1) rfl
theorem dX7_shine_48 : decode cX7_shine 48 = .ok (.ifCond .ne 159, 3) := dTX7_shine_0_ok 30 (48, .ifCond .ne 159, 3) rfl
theorem dX7_shine_51 : decode cX7_shine 51 = .ok (.iload 5, 2) := dTX7_shine_0_ok 31 (51, .iload 5, 2) rfl
theorem dX7_shine_53 : decode cX7_shine 53 = .ok (.iload 7, 2) := dTX7_shine_0_ok 32 (53, .iload 7, 2) rfl
theorem dX7_shine_55 : decode cX7_shine 55 = .ok (.invokestatic 49, 3) := dTX7_shine_0_ok 33 (55, .invokestatic 49, 3) rfl
theorem dX7_shine_58 : decode cX7_shine 58 = .ok (.iadd, 1) := dTX7_shine_0_ok 34 (58, .iadd, 1) rfl
theorem dX7_shine_59 : decode cX7_shine 59 = .ok (.iload 6, 2) := dTX7_shine_0_ok 35 (59, .iload 6, 2) rfl
theorem dX7_shine_61 : decode cX7_shine 61 = .ok (.iload 7, 2) := dTX7_shine_0_ok 36 (61, .iload 7, 2) rfl
theorem dX7_shine_63 : decode cX7_shine 63 = .ok (.invokestatic 53, 3) := dTX7_shine_0_ok 37 (63, .invokestatic 53, 3) rfl
theorem dX7_shine_66 : decode cX7_shine 66 = .ok (.iadd, 1) := dTX7_shine_0_ok 38 (66, .iadd, 1) rfl
theorem dX7_shine_67 : decode cX7_shine 67 = .ok (.invokestatic 56, 3) := dTX7_shine_0_ok 39 (67, .invokestatic 56, 3) rfl
theorem dX7_shine_70 : decode cX7_shine 70 = .ok (.ifCond .eq 137, 3) := dTX7_shine_0_ok 40 (70, .ifCond .eq 137, 3) rfl
theorem dX7_shine_73 : decode cX7_shine 73 = .ok (.iload 7, 2) := dTX7_shine_0_ok 41 (73, .iload 7, 2) rfl
theorem dX7_shine_75 : decode cX7_shine 75 = .ok (.istore 9, 2) := dTX7_shine_0_ok 42 (75, .istore 9, 2) rfl
theorem dX7_shine_77 : decode cX7_shine 77 = .ok (.iload 5, 2) := dTX7_shine_0_ok 43 (77, .iload 5, 2) rfl
theorem dX7_shine_79 : decode cX7_shine 79 = .ok (.iload 9, 2) := dTX7_shine_0_ok 44 (79, .iload 9, 2) rfl
theorem dX7_shine_81 : decode cX7_shine 81 = .ok (.invokestatic 49, 3) := dTX7_shine_0_ok 45 (81, .invokestatic 49, 3) rfl
theorem dX7_shine_84 : decode cX7_shine 84 = .ok (.iadd, 1) := dTX7_shine_0_ok 46 (84, .iadd, 1) rfl
theorem dX7_shine_85 : decode cX7_shine 85 = .ok (.istore 5, 2) := dTX7_shine_0_ok 47 (85, .istore 5, 2) rfl
theorem dX7_shine_87 : decode cX7_shine 87 = .ok (.iload 6, 2) := dTX7_shine_0_ok 48 (87, .iload 6, 2) rfl
theorem dX7_shine_89 : decode cX7_shine 89 = .ok (.iload 9, 2) := dTX7_shine_0_ok 49 (89, .iload 9, 2) rfl
theorem dX7_shine_91 : decode cX7_shine 91 = .ok (.invokestatic 53, 3) := dTX7_shine_0_ok 50 (91, .invokestatic 53, 3) rfl
theorem dX7_shine_94 : decode cX7_shine 94 = .ok (.iadd, 1) := dTX7_shine_0_ok 51 (94, .iadd, 1) rfl
theorem dX7_shine_95 : decode cX7_shine 95 = .ok (.istore 6, 2) := dTX7_shine_0_ok 52 (95, .istore 6, 2) rfl
theorem dX7_shine_97 : decode cX7_shine 97 = .ok (.aload_n 1, 1) := dTX7_shine_0_ok 53 (97, .aload_n 1, 1) rfl
theorem dX7_shine_98 : decode cX7_shine 98 = .ok (.iload 5, 2) := dTX7_shine_0_ok 54 (98, .iload 5, 2) rfl
theorem dX7_shine_100 : decode cX7_shine 100 = .ok (.aaload, 1) := dTX7_shine_0_ok 55 (100, .aaload, 1) rfl
theorem dX7_shine_101 : decode cX7_shine 101 = .ok (.iload 6, 2) := dTX7_shine_0_ok 56 (101, .iload 6, 2) rfl
theorem dX7_shine_103 : decode cX7_shine 103 = .ok (.iconst 1, 1) := dTX7_shine_0_ok 57 (103, .iconst 1, 1) rfl
theorem dX7_shine_104 : decode cX7_shine 104 = .ok (.bastore, 1) := dTX7_shine_0_ok 58 (104, .bastore, 1) rfl
theorem dX7_shine_105 : decode cX7_shine 105 = .ok (.iload 5, 2) := dTX7_shine_0_ok 59 (105, .iload 5, 2) rfl
noncomputable def dTX7_shine_1 : List (Nat × Instr × Nat) := [(107, .iload_n 2, 1), (108, .if_icmp .ne 9, 3), (111, .iload 6, 2), (113, .iload_n 3, 1), (114, .if_icmp .eq 35, 3), (117, .aload_n 0, 1), (118, .getfield 16, 3), (121, .iload 5, 2), (123, .aaload, 1), (124, .iload 6, 2), (126, .iaload, 1), (127, .iconst 2, 1), (128, .if_icmp .eq 17, 3), (131, .aload_n 0, 1), (132, .getfield 16, 3), (135, .iload 5, 2), (137, .aaload, 1), (138, .iload 6, 2), (140, .iaload, 1), (141, .iconst 3, 1), (142, .if_icmp .ne 7, 3), (145, .iconst 1, 1), (146, .goto 4, 3), (149, .iconst 0, 1), (150, .istore 10, 2), (152, .iload 10, 2), (154, .ifCond .ne 6, 3), (157, .goto 44, 3), (160, .aload_n 0, 1), (161, .getfield 16, 3), (164, .iload 5, 2), (166, .aaload, 1), (167, .iload 6, 2), (169, .iaload, 1), (170, .iconst 3, 1), (171, .if_icmp .ne 10, 3), (174, .iconst 3, 1), (175, .iload 9, 2), (177, .isub, 1), (178, .goto 21, 3), (181, .iload 9, 2), (183, .iconst 2, 1), (184, .irem, 1), (185, .ifCond .ne 10, 3), (188, .iload 9, 2), (190, .iconst 1, 1), (191, .iadd, 1), (192, .goto 7, 3), (195, .iload 9, 2), (197, .iconst 1, 1), (198, .isub, 1), (199, .istore 7, 2), (201, .iinc 8 1, 3), (204, .goto (-176), 3), (207, .iinc 4 1, 3), (210, .goto (-201), 3), (213, .return_, 1)]
theorem dTX7_shine_1_ok : ∀ (k : Nat) (q : Nat × Instr × Nat), dTX7_shine_1[k]? = some q → decode cX7_shine q.1 = .ok q.2 := dT_of (by decide +kernel)
theorem dX7_shine_107 : decode cX7_shine 107 = .ok (.iload_n 2, 1) := dTX7_shine_1_ok 0 (107, .iload_n 2, 1) rfl
theorem dX7_shine_108 : decode cX7_shine 108 = .ok (.if_icmp .ne 9, 3) := dTX7_shine_1_ok 1 (108, .if_icmp .ne 9, 3) rfl
theorem dX7_shine_111 : decode cX7_shine 111 = .ok (.iload 6, 2) := dTX7_shine_1_ok 2 (111, .iload 6, 2) rfl
theorem dX7_shine_113 : decode cX7_shine 113 = .ok (.iload_n 3, 1) := dTX7_shine_1_ok 3 (113, .iload_n 3, 1) rfl
theorem dX7_shine_114 : decode cX7_shine 114 = .ok (.if_icmp .eq 35, 3) := dTX7_shine_1_ok 4 (114, .if_icmp .eq 35, 3) rfl
theorem dX7_shine_117 : decode cX7_shine 117 = .ok (.aload_n 0, 1) := dTX7_shine_1_ok 5 (117, .aload_n 0, 1) rfl
theorem dX7_shine_118 : decode cX7_shine 118 = .ok (.getfield 16, 3) := dTX7_shine_1_ok 6 (118, .getfield 16, 3) rfl
theorem dX7_shine_121 : decode cX7_shine 121 = .ok (.iload 5, 2) := dTX7_shine_1_ok 7 (121, .iload 5, 2) rfl
theorem dX7_shine_123 : decode cX7_shine 123 = .ok (.aaload, 1) := dTX7_shine_1_ok 8 (123, .aaload, 1) rfl
theorem dX7_shine_124 : decode cX7_shine 124 = .ok (.iload 6, 2) := dTX7_shine_1_ok 9 (124, .iload 6, 2) rfl
theorem dX7_shine_126 : decode cX7_shine 126 = .ok (.iaload, 1) := dTX7_shine_1_ok 10 (126, .iaload, 1) rfl
theorem dX7_shine_127 : decode cX7_shine 127 = .ok (.iconst 2, 1) := dTX7_shine_1_ok 11 (127, .iconst 2, 1) rfl
theorem dX7_shine_128 : decode cX7_shine 128 = .ok (.if_icmp .eq 17, 3) := dTX7_shine_1_ok 12 (128, .if_icmp .eq 17, 3) rfl
theorem dX7_shine_131 : decode cX7_shine 131 = .ok (.aload_n 0, 1) := dTX7_shine_1_ok 13 (131, .aload_n 0, 1) rfl
theorem dX7_shine_132 : decode cX7_shine 132 = .ok (.getfield 16, 3) := dTX7_shine_1_ok 14 (132, .getfield 16, 3) rfl
theorem dX7_shine_135 : decode cX7_shine 135 = .ok (.iload 5, 2) := dTX7_shine_1_ok 15 (135, .iload 5, 2) rfl
theorem dX7_shine_137 : decode cX7_shine 137 = .ok (.aaload, 1) := dTX7_shine_1_ok 16 (137, .aaload, 1) rfl
theorem dX7_shine_138 : decode cX7_shine 138 = .ok (.iload 6, 2) := dTX7_shine_1_ok 17 (138, .iload 6, 2) rfl
theorem dX7_shine_140 : decode cX7_shine 140 = .ok (.iaload, 1) := dTX7_shine_1_ok 18 (140, .iaload, 1) rfl
theorem dX7_shine_141 : decode cX7_shine 141 = .ok (.iconst 3, 1) := dTX7_shine_1_ok 19 (141, .iconst 3, 1) rfl
theorem dX7_shine_142 : decode cX7_shine 142 = .ok (.if_icmp .ne 7, 3) := dTX7_shine_1_ok 20 (142, .if_icmp .ne 7, 3) rfl
theorem dX7_shine_145 : decode cX7_shine 145 = .ok (.iconst 1, 1) := dTX7_shine_1_ok 21 (145, .iconst 1, 1) rfl
theorem dX7_shine_146 : decode cX7_shine 146 = .ok (.goto 4, 3) := dTX7_shine_1_ok 22 (146, .goto 4, 3) rfl
theorem dX7_shine_149 : decode cX7_shine 149 = .ok (.iconst 0, 1) := dTX7_shine_1_ok 23 (149, .iconst 0, 1) rfl
theorem dX7_shine_150 : decode cX7_shine 150 = .ok (.istore 10, 2) := dTX7_shine_1_ok 24 (150, .istore 10, 2) rfl
theorem dX7_shine_152 : decode cX7_shine 152 = .ok (.iload 10, 2) := dTX7_shine_1_ok 25 (152, .iload 10, 2) rfl
theorem dX7_shine_154 : decode cX7_shine 154 = .ok (.ifCond .ne 6, 3) := dTX7_shine_1_ok 26 (154, .ifCond .ne 6, 3) rfl
theorem dX7_shine_157 : decode cX7_shine 157 = .ok (.goto 44, 3) := dTX7_shine_1_ok 27 (157, .goto 44, 3) rfl
theorem dX7_shine_160 : decode cX7_shine 160 = .ok (.aload_n 0, 1) := dTX7_shine_1_ok 28 (160, .aload_n 0, 1) rfl
theorem dX7_shine_161 : decode cX7_shine 161 = .ok (.getfield 16, 3) := dTX7_shine_1_ok 29 (161, .getfield 16, 3) rfl
theorem dX7_shine_164 : decode cX7_shine 164 = .ok (.iload 5, 2) := dTX7_shine_1_ok 30 (164, .iload 5, 2) rfl
theorem dX7_shine_166 : decode cX7_shine 166 = .ok (.aaload, 1) := dTX7_shine_1_ok 31 (166, .aaload, 1) rfl
theorem dX7_shine_167 : decode cX7_shine 167 = .ok (.iload 6, 2) := dTX7_shine_1_ok 32 (167, .iload 6, 2) rfl
theorem dX7_shine_169 : decode cX7_shine 169 = .ok (.iaload, 1) := dTX7_shine_1_ok 33 (169, .iaload, 1) rfl
theorem dX7_shine_170 : decode cX7_shine 170 = .ok (.iconst 3, 1) := dTX7_shine_1_ok 34 (170, .iconst 3, 1) rfl
theorem dX7_shine_171 : decode cX7_shine 171 = .ok (.if_icmp .ne 10, 3) := dTX7_shine_1_ok 35 (171, .if_icmp .ne 10, 3) rfl
theorem dX7_shine_174 : decode cX7_shine 174 = .ok (.iconst 3, 1) := dTX7_shine_1_ok 36 (174, .iconst 3, 1) rfl
theorem dX7_shine_175 : decode cX7_shine 175 = .ok (.iload 9, 2) := dTX7_shine_1_ok 37 (175, .iload 9, 2) rfl
theorem dX7_shine_177 : decode cX7_shine 177 = .ok (.isub, 1) := dTX7_shine_1_ok 38 (177, .isub, 1) rfl
theorem dX7_shine_178 : decode cX7_shine 178 = .ok (.goto 21, 3) := dTX7_shine_1_ok 39 (178, .goto 21, 3) rfl
theorem dX7_shine_181 : decode cX7_shine 181 = .ok (.iload 9, 2) := dTX7_shine_1_ok 40 (181, .iload 9, 2) rfl
theorem dX7_shine_183 : decode cX7_shine 183 = .ok (.iconst 2, 1) := dTX7_shine_1_ok 41 (183, .iconst 2, 1) rfl
theorem dX7_shine_184 : decode cX7_shine 184 = .ok (.irem, 1) := dTX7_shine_1_ok 42 (184, .irem, 1) rfl
theorem dX7_shine_185 : decode cX7_shine 185 = .ok (.ifCond .ne 10, 3) := dTX7_shine_1_ok 43 (185, .ifCond .ne 10, 3) rfl
theorem dX7_shine_188 : decode cX7_shine 188 = .ok (.iload 9, 2) := dTX7_shine_1_ok 44 (188, .iload 9, 2) rfl
theorem dX7_shine_190 : decode cX7_shine 190 = .ok (.iconst 1, 1) := dTX7_shine_1_ok 45 (190, .iconst 1, 1) rfl
theorem dX7_shine_191 : decode cX7_shine 191 = .ok (.iadd, 1) := dTX7_shine_1_ok 46 (191, .iadd, 1) rfl
theorem dX7_shine_192 : decode cX7_shine 192 = .ok (.goto 7, 3) := dTX7_shine_1_ok 47 (192, .goto 7, 3) rfl
theorem dX7_shine_195 : decode cX7_shine 195 = .ok (.iload 9, 2) := dTX7_shine_1_ok 48 (195, .iload 9, 2) rfl
theorem dX7_shine_197 : decode cX7_shine 197 = .ok (.iconst 1, 1) := dTX7_shine_1_ok 49 (197, .iconst 1, 1) rfl
theorem dX7_shine_198 : decode cX7_shine 198 = .ok (.isub, 1) := dTX7_shine_1_ok 50 (198, .isub, 1) rfl
theorem dX7_shine_199 : decode cX7_shine 199 = .ok (.istore 7, 2) := dTX7_shine_1_ok 51 (199, .istore 7, 2) rfl
theorem dX7_shine_201 : decode cX7_shine 201 = .ok (.iinc 8 1, 3) := dTX7_shine_1_ok 52 (201, .iinc 8 1, 3) rfl
theorem dX7_shine_204 : decode cX7_shine 204 = .ok (.goto (-176), 3) := dTX7_shine_1_ok 53 (204, .goto (-176), 3) rfl
theorem dX7_shine_207 : decode cX7_shine 207 = .ok (.iinc 4 1, 3) := dTX7_shine_1_ok 54 (207, .iinc 4 1, 3) rfl
theorem dX7_shine_210 : decode cX7_shine 210 = .ok (.goto (-201), 3) := dTX7_shine_1_ok 55 (210, .goto (-201), 3) rfl
theorem dX7_shine_213 : decode cX7_shine 213 = .ok (.return_, 1) := dTX7_shine_1_ok 56 (213, .return_, 1) rfl
noncomputable def dTX7_lit_0 : List (Nat × Instr × Nat) := [(0, .bipush 9, 2), (2, .bipush 7, 2), (4, .multianewarray 22 2, 4), (8, .astore_n 1, 1), (9, .iconst 0, 1), (10, .istore_n 2, 1), (11, .iload_n 2, 1), (12, .bipush 9, 2), (14, .if_icmp .ge 41, 3), (17, .iconst 0, 1), (18, .istore_n 3, 1), (19, .iload_n 3, 1), (20, .bipush 7, 2), (22, .if_icmp .ge 27, 3), (25, .aload_n 0, 1), (26, .getfield 24, 3), (29, .iload_n 2, 1), (30, .aaload, 1), (31, .iload_n 3, 1), (32, .baload, 1), (33, .ifCond .eq 10, 3), (36, .aload_n 0, 1), (37, .aload_n 1, 1), (38, .iload_n 2, 1), (39, .iload_n 3, 1), (40, .invokevirtual 60, 3), (43, .iinc 3 1, 3), (46, .goto (-27), 3), (49, .iinc 2 1, 3), (52, .goto (-41), 3), (55, .aload_n 1, 1), (56, .areturn, 1)]
theorem dTX7_lit_0_ok : ∀ (k : Nat) (q : Nat × Instr × Nat), dTX7_lit_0[k]? = some q → decode cX7_lit q.1 = .ok q.2 := dT_of (by decide +kernel)
theorem dX7_lit_0 : decode cX7_lit 0 = .ok (.bipush 9, 2) := dTX7_lit_0_ok 0 (0, .bipush 9, 2) rfl
theorem dX7_lit_2 : decode cX7_lit 2 = .ok (.bipush 7, 2) := dTX7_lit_0_ok 1 (2, .bipush 7, 2) rfl
theorem dX7_lit_4 : decode cX7_lit 4 = .ok (.multianewarray 22 2, 4) := dTX7_lit_0_ok 2 (4, .multianewarray 22 2, 4) rfl
theorem dX7_lit_8 : decode cX7_lit 8 = .ok (.astore_n 1, 1) := dTX7_lit_0_ok 3 (8, .astore_n 1, 1) rfl
theorem dX7_lit_9 : decode cX7_lit 9 = .ok (.iconst 0, 1) := dTX7_lit_0_ok 4 (9, .iconst 0, 1) rfl
theorem dX7_lit_10 : decode cX7_lit 10 = .ok (.istore_n 2, 1) := dTX7_lit_0_ok 5 (10, .istore_n 2, 1) rfl
theorem dX7_lit_11 : decode cX7_lit 11 = .ok (.iload_n 2, 1) := dTX7_lit_0_ok 6 (11, .iload_n 2, 1) rfl
theorem dX7_lit_12 : decode cX7_lit 12 = .ok (.bipush 9, 2) := dTX7_lit_0_ok 7 (12, .bipush 9, 2) rfl
theorem dX7_lit_14 : decode cX7_lit 14 = .ok (.if_icmp .ge 41, 3) := dTX7_lit_0_ok 8 (14, .if_icmp .ge 41, 3) rfl
theorem dX7_lit_17 : decode cX7_lit 17 = .ok (.iconst 0, 1) := dTX7_lit_0_ok 9 (17, .iconst 0, 1) rfl
theorem dX7_lit_18 : decode cX7_lit 18 = .ok (.istore_n 3, 1) := dTX7_lit_0_ok 10 (18, .istore_n 3, 1) rfl
theorem dX7_lit_19 : decode cX7_lit 19 = .ok (.iload_n 3, 1) := dTX7_lit_0_ok 11 (19, .iload_n 3, 1) rfl
theorem dX7_lit_20 : decode cX7_lit 20 = .ok (.bipush 7, 2) := dTX7_lit_0_ok 12 (20, .bipush 7, 2) rfl
theorem dX7_lit_22 : decode cX7_lit 22 = .ok (.if_icmp .ge 27, 3) := dTX7_lit_0_ok 13 (22, .if_icmp .ge 27, 3) rfl
theorem dX7_lit_25 : decode cX7_lit 25 = .ok (.aload_n 0, 1) := dTX7_lit_0_ok 14 (25, .aload_n 0, 1) rfl
theorem dX7_lit_26 : decode cX7_lit 26 = .ok (.getfield 24, 3) := dTX7_lit_0_ok 15 (26, .getfield 24, 3) rfl
theorem dX7_lit_29 : decode cX7_lit 29 = .ok (.iload_n 2, 1) := dTX7_lit_0_ok 16 (29, .iload_n 2, 1) rfl
theorem dX7_lit_30 : decode cX7_lit 30 = .ok (.aaload, 1) := dTX7_lit_0_ok 17 (30, .aaload, 1) rfl
theorem dX7_lit_31 : decode cX7_lit 31 = .ok (.iload_n 3, 1) := dTX7_lit_0_ok 18 (31, .iload_n 3, 1) rfl
theorem dX7_lit_32 : decode cX7_lit 32 = .ok (.baload, 1) := dTX7_lit_0_ok 19 (32, .baload, 1) rfl
theorem dX7_lit_33 : decode cX7_lit 33 = .ok (.ifCond .eq 10, 3) := dTX7_lit_0_ok 20 (33, .ifCond .eq 10, 3) rfl
theorem dX7_lit_36 : decode cX7_lit 36 = .ok (.aload_n 0, 1) := dTX7_lit_0_ok 21 (36, .aload_n 0, 1) rfl
theorem dX7_lit_37 : decode cX7_lit 37 = .ok (.aload_n 1, 1) := dTX7_lit_0_ok 22 (37, .aload_n 1, 1) rfl
theorem dX7_lit_38 : decode cX7_lit 38 = .ok (.iload_n 2, 1) := dTX7_lit_0_ok 23 (38, .iload_n 2, 1) rfl
theorem dX7_lit_39 : decode cX7_lit 39 = .ok (.iload_n 3, 1) := dTX7_lit_0_ok 24 (39, .iload_n 3, 1) rfl
theorem dX7_lit_40 : decode cX7_lit 40 = .ok (.invokevirtual 60, 3) := dTX7_lit_0_ok 25 (40, .invokevirtual 60, 3) rfl
theorem dX7_lit_43 : decode cX7_lit 43 = .ok (.iinc 3 1, 3) := dTX7_lit_0_ok 26 (43, .iinc 3 1, 3) rfl
theorem dX7_lit_46 : decode cX7_lit 46 = .ok (.goto (-27), 3) := dTX7_lit_0_ok 27 (46, .goto (-27), 3) rfl
theorem dX7_lit_49 : decode cX7_lit 49 = .ok (.iinc 2 1, 3) := dTX7_lit_0_ok 28 (49, .iinc 2 1, 3) rfl
theorem dX7_lit_52 : decode cX7_lit 52 = .ok (.goto (-41), 3) := dTX7_lit_0_ok 29 (52, .goto (-41), 3) rfl
theorem dX7_lit_55 : decode cX7_lit 55 = .ok (.aload_n 1, 1) := dTX7_lit_0_ok 30 (55, .aload_n 1, 1) rfl
theorem dX7_lit_56 : decode cX7_lit 56 = .ok (.areturn, 1) := dTX7_lit_0_ok 31 (56, .areturn, 1) rfl
noncomputable def dTX7_many_0 : List (Nat × Instr × Nat) := [(0, .iconst 0, 1), (1, .istore_n 1, 1), (2, .aload_n 0, 1), (3, .astore_n 2, 1), (4, .aload_n 2, 1), (5, .arraylength, 1), (6, .istore_n 3, 1), (7, .iconst 0, 1), (8, .istore 4, 2), (10, .iload 4, 2), (12, .iload_n 3, 1), (13, .if_icmp .ge 60, 3), (16, .aload_n 2, 1), (17, .iload 4, 2), (19, .aaload, 1), (20, .astore 5, 2), (22, .aload 5, 2), (24, .astore 6, 2), (26, .aload 6, 2), (28, .arraylength, 1), (29, .istore 7, 2), (31, .iconst 0, 1), (32, .istore 8, 2), (34, .iload 8, 2), (36, .iload 7, 2), (38, .if_icmp .ge 29, 3), (41, .aload 6, 2), (43, .iload 8, 2), (45, .baload, 1), (46, .istore 9, 2), (48, .iload_n 1, 1), (49, .iload 9, 2), (51, .ifCond .eq 7, 3), (54, .iconst 1, 1), (55, .goto 4, 3), (58, .iconst 0, 1), (59, .iadd, 1), (60, .istore_n 1, 1), (61, .iinc 8 1, 3), (64, .goto (-30), 3), (67, .iinc 4 1, 3), (70, .goto (-60), 3), (73, .iload_n 1, 1), (74, .ireturn, 1)]
theorem dTX7_many_0_ok : ∀ (k : Nat) (q : Nat × Instr × Nat), dTX7_many_0[k]? = some q → decode cX7_many q.1 = .ok q.2 := dT_of (by decide +kernel)
theorem dX7_many_0 : decode cX7_many 0 = .ok (.iconst 0, 1) := dTX7_many_0_ok 0 (0, .iconst 0, 1) rfl
theorem dX7_many_1 : decode cX7_many 1 = .ok (.istore_n 1, 1) := dTX7_many_0_ok 1 (1, .istore_n 1, 1) rfl
theorem dX7_many_2 : decode cX7_many 2 = .ok (.aload_n 0, 1) := dTX7_many_0_ok 2 (2, .aload_n 0, 1) rfl
theorem dX7_many_3 : decode cX7_many 3 = .ok (.astore_n 2, 1) := dTX7_many_0_ok 3 (3, .astore_n 2, 1) rfl
theorem dX7_many_4 : decode cX7_many 4 = .ok (.aload_n 2, 1) := dTX7_many_0_ok 4 (4, .aload_n 2, 1) rfl
theorem dX7_many_5 : decode cX7_many 5 = .ok (.arraylength, 1) := dTX7_many_0_ok 5 (5, .arraylength, 1) rfl
theorem dX7_many_6 : decode cX7_many 6 = .ok (.istore_n 3, 1) := dTX7_many_0_ok 6 (6, .istore_n 3, 1) rfl
theorem dX7_many_7 : decode cX7_many 7 = .ok (.iconst 0, 1) := dTX7_many_0_ok 7 (7, .iconst 0, 1) rfl
theorem dX7_many_8 : decode cX7_many 8 = .ok (.istore 4, 2) := dTX7_many_0_ok 8 (8, .istore 4, 2) rfl
theorem dX7_many_10 : decode cX7_many 10 = .ok (.iload 4, 2) := dTX7_many_0_ok 9 (10, .iload 4, 2) rfl
theorem dX7_many_12 : decode cX7_many 12 = .ok (.iload_n 3, 1) := dTX7_many_0_ok 10 (12, .iload_n 3, 1) rfl
theorem dX7_many_13 : decode cX7_many 13 = .ok (.if_icmp .ge 60, 3) := dTX7_many_0_ok 11 (13, .if_icmp .ge 60, 3) rfl
theorem dX7_many_16 : decode cX7_many 16 = .ok (.aload_n 2, 1) := dTX7_many_0_ok 12 (16, .aload_n 2, 1) rfl
theorem dX7_many_17 : decode cX7_many 17 = .ok (.iload 4, 2) := dTX7_many_0_ok 13 (17, .iload 4, 2) rfl
theorem dX7_many_19 : decode cX7_many 19 = .ok (.aaload, 1) := dTX7_many_0_ok 14 (19, .aaload, 1) rfl
theorem dX7_many_20 : decode cX7_many 20 = .ok (.astore 5, 2) := dTX7_many_0_ok 15 (20, .astore 5, 2) rfl
theorem dX7_many_22 : decode cX7_many 22 = .ok (.aload 5, 2) := dTX7_many_0_ok 16 (22, .aload 5, 2) rfl
theorem dX7_many_24 : decode cX7_many 24 = .ok (.astore 6, 2) := dTX7_many_0_ok 17 (24, .astore 6, 2) rfl
theorem dX7_many_26 : decode cX7_many 26 = .ok (.aload 6, 2) := dTX7_many_0_ok 18 (26, .aload 6, 2) rfl
theorem dX7_many_28 : decode cX7_many 28 = .ok (.arraylength, 1) := dTX7_many_0_ok 19 (28, .arraylength, 1) rfl
theorem dX7_many_29 : decode cX7_many 29 = .ok (.istore 7, 2) := dTX7_many_0_ok 20 (29, .istore 7, 2) rfl
theorem dX7_many_31 : decode cX7_many 31 = .ok (.iconst 0, 1) := dTX7_many_0_ok 21 (31, .iconst 0, 1) rfl
theorem dX7_many_32 : decode cX7_many 32 = .ok (.istore 8, 2) := dTX7_many_0_ok 22 (32, .istore 8, 2) rfl
theorem dX7_many_34 : decode cX7_many 34 = .ok (.iload 8, 2) := dTX7_many_0_ok 23 (34, .iload 8, 2) rfl
theorem dX7_many_36 : decode cX7_many 36 = .ok (.iload 7, 2) := dTX7_many_0_ok 24 (36, .iload 7, 2) rfl
theorem dX7_many_38 : decode cX7_many 38 = .ok (.if_icmp .ge 29, 3) := dTX7_many_0_ok 25 (38, .if_icmp .ge 29, 3) rfl
theorem dX7_many_41 : decode cX7_many 41 = .ok (.aload 6, 2) := dTX7_many_0_ok 26 (41, .aload 6, 2) rfl
theorem dX7_many_43 : decode cX7_many 43 = .ok (.iload 8, 2) := dTX7_many_0_ok 27 (43, .iload 8, 2) rfl
theorem dX7_many_45 : decode cX7_many 45 = .ok (.baload, 1) := dTX7_many_0_ok 28 (45, .baload, 1) rfl
theorem dX7_many_46 : decode cX7_many 46 = .ok (.istore 9, 2) := dTX7_many_0_ok 29 (46, .istore 9, 2) rfl
theorem dX7_many_48 : decode cX7_many 48 = .ok (.iload_n 1, 1) := dTX7_many_0_ok 30 (48, .iload_n 1, 1) rfl
theorem dX7_many_49 : decode cX7_many 49 = .ok (.iload 9, 2) := dTX7_many_0_ok 31 (49, .iload 9, 2) rfl
theorem dX7_many_51 : decode cX7_many 51 = .ok (.ifCond .eq 7, 3) := dTX7_many_0_ok 32 (51, .ifCond .eq 7, 3) rfl
theorem dX7_many_54 : decode cX7_many 54 = .ok (.iconst 1, 1) := dTX7_many_0_ok 33 (54, .iconst 1, 1) rfl
theorem dX7_many_55 : decode cX7_many 55 = .ok (.goto 4, 3) := dTX7_many_0_ok 34 (55, .goto 4, 3) rfl
theorem dX7_many_58 : decode cX7_many 58 = .ok (.iconst 0, 1) := dTX7_many_0_ok 35 (58, .iconst 0, 1) rfl
theorem dX7_many_59 : decode cX7_many 59 = .ok (.iadd, 1) := dTX7_many_0_ok 36 (59, .iadd, 1) rfl
theorem dX7_many_60 : decode cX7_many 60 = .ok (.istore_n 1, 1) := dTX7_many_0_ok 37 (60, .istore_n 1, 1) rfl
theorem dX7_many_61 : decode cX7_many 61 = .ok (.iinc 8 1, 3) := dTX7_many_0_ok 38 (61, .iinc 8 1, 3) rfl
theorem dX7_many_64 : decode cX7_many 64 = .ok (.goto (-30), 3) := dTX7_many_0_ok 39 (64, .goto (-30), 3) rfl
theorem dX7_many_67 : decode cX7_many 67 = .ok (.iinc 4 1, 3) := dTX7_many_0_ok 40 (67, .iinc 4 1, 3) rfl
theorem dX7_many_70 : decode cX7_many 70 = .ok (.goto (-60), 3) := dTX7_many_0_ok 41 (70, .goto (-60), 3) rfl
theorem dX7_many_73 : decode cX7_many 73 = .ok (.iload_n 1, 1) := dTX7_many_0_ok 42 (73, .iload_n 1, 1) rfl
theorem dX7_many_74 : decode cX7_many 74 = .ok (.ireturn, 1) := dTX7_many_0_ok 43 (74, .ireturn, 1) rfl
noncomputable def dTX7_way_0 : List (Nat × Instr × Nat) := [(0, .iload_n 2, 1), (1, .iload 5, 2), (3, .if_icmp .ne 11, 3), (6, .iload_n 3, 1), (7, .iload 6, 2), (9, .if_icmp .ne 5, 3), (12, .iconst 0, 1), (13, .ireturn, 1), (14, .iconst 0, 1), (15, .istore 7, 2), (17, .iload 7, 2), (19, .bipush 126, 2), (21, .if_icmp .ge 19, 3), (24, .aload_n 0, 1), (25, .getfield 33, 3), (28, .iload 7, 2), (30, .sipush 1000, 3), (33, .iastore, 1), (34, .iinc 7 1, 3), (37, .goto (-20), 3), (40, .aload_n 0, 1), (41, .getfield 37, 3), (44, .iconst 0, 1), (45, .iload 4, 2), (47, .ifCond .eq 7, 3), (50, .iconst 0, 1), (51, .goto 5, 3), (54, .bipush 63, 2), (56, .bipush 7, 2), (58, .iload_n 2, 1), (59, .imul, 1), (60, .iadd, 1), (61, .iload_n 3, 1), (62, .iadd, 1), (63, .iastore, 1), (64, .aload_n 0, 1), (65, .getfield 33, 3), (68, .aload_n 0, 1), (69, .getfield 37, 3), (72, .iconst 0, 1), (73, .iaload, 1), (74, .iconst 0, 1), (75, .iastore, 1), (76, .iconst 1, 1), (77, .istore 7, 2), (79, .iconst 0, 1), (80, .istore 8, 2), (82, .iload 8, 2), (84, .iload 7, 2), (86, .if_icmp .ge 236, 3), (89, .aload_n 0, 1), (90, .getfield 37, 3), (93, .iload 8, 2), (95, .iaload, 1), (96, .bipush 63, 2), (98, .idiv, 1), (99, .istore 9, 2), (101, .aload_n 0, 1), (102, .getfield 37, 3), (105, .iload 8, 2)]
theorem dTX7_way_0_ok : ∀ (k : Nat) (q : Nat × Instr × Nat), dTX7_way_0[k]? = some q → decode cX7_way q.1 = .ok q.2 := dT_of (by decide +kernel)
theorem dX7_way_0 : decode cX7_way 0 = .ok (.iload_n 2, 1) := dTX7_way_0_ok 0 (0, .iload_n 2, 1) rfl
theorem dX7_way_1 : decode cX7_way 1 = .ok (.iload 5, 2) := dTX7_way_0_ok 1 (1, .iload 5, 2) rfl
theorem dX7_way_3 : decode cX7_way 3 = .ok (.if_icmp .ne 11, 3) := dTX7_way_0_ok 2 (3, .if_icmp .ne 11, 3) rfl
theorem dX7_way_6 : decode cX7_way 6 = .ok (.iload_n 3, 1) := dTX7_way_0_ok 3 (6, .iload_n 3, 1) rfl
theorem dX7_way_7 : decode cX7_way 7 = .ok (.iload 6, 2) := dTX7_way_0_ok 4 (7, .iload 6, 2) rfl
theorem dX7_way_9 : decode cX7_way 9 = .ok (.if_icmp .ne 5, 3) := dTX7_way_0_ok 5 (9, .if_icmp .ne 5, 3) rfl
theorem dX7_way_12 : decode cX7_way 12 = .ok (.iconst 0, 1) := dTX7_way_0_ok 6 (12, .iconst 0, 1) rfl
theorem dX7_way_13 : decode cX7_way 13 = .ok (.ireturn, 1) := dTX7_way_0_ok 7 (13, .ireturn, 1) rfl
theorem dX7_way_14 : decode cX7_way 14 = .ok (.iconst 0, 1) := dTX7_way_0_ok 8 (14, .iconst 0, 1) rfl
theorem dX7_way_15 : decode cX7_way 15 = .ok (.istore 7, 2) := dTX7_way_0_ok 9 (15, .istore 7, 2) rfl
theorem dX7_way_17 : decode cX7_way 17 = .ok (.iload 7, 2) := dTX7_way_0_ok 10 (17, .iload 7, 2) rfl
theorem dX7_way_19 : decode cX7_way 19 = .ok (.bipush 126, 2) := dTX7_way_0_ok 11 (19, .bipush 126, 2) rfl
theorem dX7_way_21 : decode cX7_way 21 = .ok (.if_icmp .ge 19, 3) := dTX7_way_0_ok 12 (21, .if_icmp .ge 19, 3) rfl
theorem dX7_way_24 : decode cX7_way 24 = .ok (.aload_n 0, 1) := dTX7_way_0_ok 13 (24, .aload_n 0, 1) rfl
theorem dX7_way_25 : decode cX7_way 25 = .ok (.getfield 33, 3) := dTX7_way_0_ok 14 (25, .getfield 33, 3) rfl
theorem dX7_way_28 : decode cX7_way 28 = .ok (.iload 7, 2) := dTX7_way_0_ok 15 (28, .iload 7, 2) rfl
theorem dX7_way_30 : decode cX7_way 30 = .ok (.sipush 1000, 3) := dTX7_way_0_ok 16 (30, .sipush 1000, 3) rfl
theorem dX7_way_33 : decode cX7_way 33 = .ok (.iastore, 1) := dTX7_way_0_ok 17 (33, .iastore, 1) rfl
theorem dX7_way_34 : decode cX7_way 34 = .ok (.iinc 7 1, 3) := dTX7_way_0_ok 18 (34, .iinc 7 1, 3) rfl
theorem dX7_way_37 : decode cX7_way 37 = .ok (.goto (-20), 3) := dTX7_way_0_ok 19 (37, .goto (-20), 3) rfl
theorem dX7_way_40 : decode cX7_way 40 = .ok (.aload_n 0, 1) := dTX7_way_0_ok 20 (40, .aload_n 0, 1) rfl
theorem dX7_way_41 : decode cX7_way 41 = .ok (.getfield 37, 3) := dTX7_way_0_ok 21 (41, .getfield 37, 3) rfl
theorem dX7_way_44 : decode cX7_way 44 = .ok (.iconst 0, 1) := dTX7_way_0_ok 22 (44, .iconst 0, 1) rfl
theorem dX7_way_45 : decode cX7_way 45 = .ok (.iload 4, 2) := dTX7_way_0_ok 23 (45, .iload 4, 2) rfl
theorem dX7_way_47 : decode cX7_way 47 = .ok (.ifCond .eq 7, 3) := dTX7_way_0_ok 24 (47, .ifCond .eq 7, 3) rfl
theorem dX7_way_50 : decode cX7_way 50 = .ok (.iconst 0, 1) := dTX7_way_0_ok 25 (50, .iconst 0, 1) rfl
theorem dX7_way_51 : decode cX7_way 51 = .ok (.goto 5, 3) := dTX7_way_0_ok 26 (51, .goto 5, 3) rfl
theorem dX7_way_54 : decode cX7_way 54 = .ok (.bipush 63, 2) := dTX7_way_0_ok 27 (54, .bipush 63, 2) rfl
theorem dX7_way_56 : decode cX7_way 56 = .ok (.bipush 7, 2) := dTX7_way_0_ok 28 (56, .bipush 7, 2) rfl
theorem dX7_way_58 : decode cX7_way 58 = .ok (.iload_n 2, 1) := dTX7_way_0_ok 29 (58, .iload_n 2, 1) rfl
theorem dX7_way_59 : decode cX7_way 59 = .ok (.imul, 1) := dTX7_way_0_ok 30 (59, .imul, 1) rfl
theorem dX7_way_60 : decode cX7_way 60 = .ok (.iadd, 1) := dTX7_way_0_ok 31 (60, .iadd, 1) rfl
theorem dX7_way_61 : decode cX7_way 61 = .ok (.iload_n 3, 1) := dTX7_way_0_ok 32 (61, .iload_n 3, 1) rfl
theorem dX7_way_62 : decode cX7_way 62 = .ok (.iadd, 1) := dTX7_way_0_ok 33 (62, .iadd, 1) rfl
theorem dX7_way_63 : decode cX7_way 63 = .ok (.iastore, 1) := dTX7_way_0_ok 34 (63, .iastore, 1) rfl
theorem dX7_way_64 : decode cX7_way 64 = .ok (.aload_n 0, 1) := dTX7_way_0_ok 35 (64, .aload_n 0, 1) rfl
theorem dX7_way_65 : decode cX7_way 65 = .ok (.getfield 33, 3) := dTX7_way_0_ok 36 (65, .getfield 33, 3) rfl
theorem dX7_way_68 : decode cX7_way 68 = .ok (.aload_n 0, 1) := dTX7_way_0_ok 37 (68, .aload_n 0, 1) rfl
theorem dX7_way_69 : decode cX7_way 69 = .ok (.getfield 37, 3) := dTX7_way_0_ok 38 (69, .getfield 37, 3) rfl
theorem dX7_way_72 : decode cX7_way 72 = .ok (.iconst 0, 1) := dTX7_way_0_ok 39 (72, .iconst 0, 1) rfl
theorem dX7_way_73 : decode cX7_way 73 = .ok (.iaload, 1) := dTX7_way_0_ok 40 (73, .iaload, 1) rfl
theorem dX7_way_74 : decode cX7_way 74 = .ok (.iconst 0, 1) := dTX7_way_0_ok 41 (74, .iconst 0, 1) rfl
theorem dX7_way_75 : decode cX7_way 75 = .ok (.iastore, 1) := dTX7_way_0_ok 42 (75, .iastore, 1) rfl
theorem dX7_way_76 : decode cX7_way 76 = .ok (.iconst 1, 1) := dTX7_way_0_ok 43 (76, .iconst 1, 1) rfl
theorem dX7_way_77 : decode cX7_way 77 = .ok (.istore 7, 2) := dTX7_way_0_ok 44 (77, .istore 7, 2) rfl
theorem dX7_way_79 : decode cX7_way 79 = .ok (.iconst 0, 1) := dTX7_way_0_ok 45 (79, .iconst 0, 1) rfl
theorem dX7_way_80 : decode cX7_way 80 = .ok (.istore 8, 2) := dTX7_way_0_ok 46 (80, .istore 8, 2) rfl
theorem dX7_way_82 : decode cX7_way 82 = .ok (.iload 8, 2) := dTX7_way_0_ok 47 (82, .iload 8, 2) rfl
theorem dX7_way_84 : decode cX7_way 84 = .ok (.iload 7, 2) := dTX7_way_0_ok 48 (84, .iload 7, 2) rfl
theorem dX7_way_86 : decode cX7_way 86 = .ok (.if_icmp .ge 236, 3) := dTX7_way_0_ok 49 (86, .if_icmp .ge 236, 3) rfl
theorem dX7_way_89 : decode cX7_way 89 = .ok (.aload_n 0, 1) := dTX7_way_0_ok 50 (89, .aload_n 0, 1) rfl
theorem dX7_way_90 : decode cX7_way 90 = .ok (.getfield 37, 3) := dTX7_way_0_ok 51 (90, .getfield 37, 3) rfl
theorem dX7_way_93 : decode cX7_way 93 = .ok (.iload 8, 2) := dTX7_way_0_ok 52 (93, .iload 8, 2) rfl
theorem dX7_way_95 : decode cX7_way 95 = .ok (.iaload, 1) := dTX7_way_0_ok 53 (95, .iaload, 1) rfl
theorem dX7_way_96 : decode cX7_way 96 = .ok (.bipush 63, 2) := dTX7_way_0_ok 54 (96, .bipush 63, 2) rfl
theorem dX7_way_98 : decode cX7_way 98 = .ok (.idiv, 1) := dTX7_way_0_ok 55 (98, .idiv, 1) rfl
theorem dX7_way_99 : decode cX7_way 99 = .ok (.istore 9, 2) := dTX7_way_0_ok 56 (99, .istore 9, 2) rfl
theorem dX7_way_101 : decode cX7_way 101 = .ok (.aload_n 0, 1) := dTX7_way_0_ok 57 (101, .aload_n 0, 1) rfl
theorem dX7_way_102 : decode cX7_way 102 = .ok (.getfield 37, 3) := dTX7_way_0_ok 58 (102, .getfield 37, 3) rfl
theorem dX7_way_105 : decode cX7_way 105 = .ok (.iload 8, 2) := dTX7_way_0_ok 59 (105, .iload 8, 2) rfl
noncomputable def dTX7_way_1 : List (Nat × Instr × Nat) := [(107, .iaload, 1), (108, .bipush 63, 2), (110, .irem, 1), (111, .bipush 7, 2), (113, .idiv, 1), (114, .istore 10, 2), (116, .aload_n 0, 1), (117, .getfield 37, 3), (120, .iload 8, 2), (122, .iaload, 1), (123, .bipush 7, 2), (125, .irem, 1), (126, .istore 11, 2), (128, .iconst 0, 1), (129, .istore 12, 2), (131, .iload 12, 2), (133, .iconst 4, 1), (134, .if_icmp .ge 182, 3), (137, .iload 10, 2), (139, .iload 12, 2), (141, .invokestatic 49, 3), (144, .iadd, 1), (145, .istore 13, 2), (147, .iload 11, 2), (149, .iload 12, 2), (151, .invokestatic 53, 3), (154, .iadd, 1), (155, .istore 14, 2), (157, .iload 13, 2), (159, .iload 14, 2), (161, .invokestatic 56, 3), (164, .ifCond .eq 146, 3), (167, .aload_n 1, 1), (168, .iload 13, 2), (170, .aaload, 1), (171, .iload 14, 2), (173, .baload, 1), (174, .ifCond .ne 136, 3), (177, .aload_n 0, 1), (178, .getfield 9, 3), (181, .iload 10, 2), (183, .aaload, 1), (184, .iload 11, 2), (186, .aaload, 1), (187, .iload 12, 2), (189, .baload, 1), (190, .ifCond .eq 12, 3), (193, .iload 9, 2), (195, .iconst 1, 1), (196, .if_icmp .ne 6, 3), (199, .goto 111, 3), (202, .aload_n 0, 1), (203, .getfield 9, 3), (206, .iload 10, 2), (208, .aaload, 1), (209, .iload 11, 2), (211, .aaload, 1), (212, .iload 12, 2), (214, .baload, 1), (215, .ifCond .eq 8, 3)]
theorem dTX7_way_1_ok : ∀ (k : Nat) (q : Nat × Instr × Nat), dTX7_way_1[k]? = some q → decode cX7_way q.1 = .ok q.2 := dT_of (by decide +kernel)
theorem dX7_way_107 : decode cX7_way 107 = .ok (.iaload, 1) := dTX7_way_1_ok 0 (107, .iaload, 1) rfl
theorem dX7_way_108 : decode cX7_way 108 = .ok (.bipush 63, 2) := dTX7_way_1_ok 1 (108, .bipush 63, 2) rfl
theorem dX7_way_110 : decode cX7_way 110 = .ok (.irem, 1) := dTX7_way_1_ok 2 (110, .irem, 1) rfl
theorem dX7_way_111 : decode cX7_way 111 = .ok (.bipush 7, 2) := dTX7_way_1_ok 3 (111, .bipush 7, 2) rfl
theorem dX7_way_113 : decode cX7_way 113 = .ok (.idiv, 1) := dTX7_way_1_ok 4 (113, .idiv, 1) rfl
theorem dX7_way_114 : decode cX7_way 114 = .ok (.istore 10, 2) := dTX7_way_1_ok 5 (114, .istore 10, 2) rfl
theorem dX7_way_116 : decode cX7_way 116 = .ok (.aload_n 0, 1) := dTX7_way_1_ok 6 (116, .aload_n 0, 1) rfl
theorem dX7_way_117 : decode cX7_way 117 = .ok (.getfield 37, 3) := dTX7_way_1_ok 7 (117, .getfield 37, 3) rfl
theorem dX7_way_120 : decode cX7_way 120 = .ok (.iload 8, 2) := dTX7_way_1_ok 8 (120, .iload 8, 2) rfl
theorem dX7_way_122 : decode cX7_way 122 = .ok (.iaload, 1) := dTX7_way_1_ok 9 (122, .iaload, 1) rfl
theorem dX7_way_123 : decode cX7_way 123 = .ok (.bipush 7, 2) := dTX7_way_1_ok 10 (123, .bipush 7, 2) rfl
theorem dX7_way_125 : decode cX7_way 125 = .ok (.irem, 1) := dTX7_way_1_ok 11 (125, .irem, 1) rfl
theorem dX7_way_126 : decode cX7_way 126 = .ok (.istore 11, 2) := dTX7_way_1_ok 12 (126, .istore 11, 2) rfl
theorem dX7_way_128 : decode cX7_way 128 = .ok (.iconst 0, 1) := dTX7_way_1_ok 13 (128, .iconst 0, 1) rfl
theorem dX7_way_129 : decode cX7_way 129 = .ok (.istore 12, 2) := dTX7_way_1_ok 14 (129, .istore 12, 2) rfl
theorem dX7_way_131 : decode cX7_way 131 = .ok (.iload 12, 2) := dTX7_way_1_ok 15 (131, .iload 12, 2) rfl
theorem dX7_way_133 : decode cX7_way 133 = .ok (.iconst 4, 1) := dTX7_way_1_ok 16 (133, .iconst 4, 1) rfl
theorem dX7_way_134 : decode cX7_way 134 = .ok (.if_icmp .ge 182, 3) := dTX7_way_1_ok 17 (134, .if_icmp .ge 182, 3) rfl
theorem dX7_way_137 : decode cX7_way 137 = .ok (.iload 10, 2) := dTX7_way_1_ok 18 (137, .iload 10, 2) rfl
theorem dX7_way_139 : decode cX7_way 139 = .ok (.iload 12, 2) := dTX7_way_1_ok 19 (139, .iload 12, 2) rfl
theorem dX7_way_141 : decode cX7_way 141 = .ok (.invokestatic 49, 3) := dTX7_way_1_ok 20 (141, .invokestatic 49, 3) rfl
theorem dX7_way_144 : decode cX7_way 144 = .ok (.iadd, 1) := dTX7_way_1_ok 21 (144, .iadd, 1) rfl
theorem dX7_way_145 : decode cX7_way 145 = .ok (.istore 13, 2) := dTX7_way_1_ok 22 (145, .istore 13, 2) rfl
theorem dX7_way_147 : decode cX7_way 147 = .ok (.iload 11, 2) := dTX7_way_1_ok 23 (147, .iload 11, 2) rfl
theorem dX7_way_149 : decode cX7_way 149 = .ok (.iload 12, 2) := dTX7_way_1_ok 24 (149, .iload 12, 2) rfl
theorem dX7_way_151 : decode cX7_way 151 = .ok (.invokestatic 53, 3) := dTX7_way_1_ok 25 (151, .invokestatic 53, 3) rfl
theorem dX7_way_154 : decode cX7_way 154 = .ok (.iadd, 1) := dTX7_way_1_ok 26 (154, .iadd, 1) rfl
theorem dX7_way_155 : decode cX7_way 155 = .ok (.istore 14, 2) := dTX7_way_1_ok 27 (155, .istore 14, 2) rfl
theorem dX7_way_157 : decode cX7_way 157 = .ok (.iload 13, 2) := dTX7_way_1_ok 28 (157, .iload 13, 2) rfl
theorem dX7_way_159 : decode cX7_way 159 = .ok (.iload 14, 2) := dTX7_way_1_ok 29 (159, .iload 14, 2) rfl
theorem dX7_way_161 : decode cX7_way 161 = .ok (.invokestatic 56, 3) := dTX7_way_1_ok 30 (161, .invokestatic 56, 3) rfl
theorem dX7_way_164 : decode cX7_way 164 = .ok (.ifCond .eq 146, 3) := dTX7_way_1_ok 31 (164, .ifCond .eq 146, 3) rfl
theorem dX7_way_167 : decode cX7_way 167 = .ok (.aload_n 1, 1) := dTX7_way_1_ok 32 (167, .aload_n 1, 1) rfl
theorem dX7_way_168 : decode cX7_way 168 = .ok (.iload 13, 2) := dTX7_way_1_ok 33 (168, .iload 13, 2) rfl
theorem dX7_way_170 : decode cX7_way 170 = .ok (.aaload, 1) := dTX7_way_1_ok 34 (170, .aaload, 1) rfl
theorem dX7_way_171 : decode cX7_way 171 = .ok (.iload 14, 2) := dTX7_way_1_ok 35 (171, .iload 14, 2) rfl
theorem dX7_way_173 : decode cX7_way 173 = .ok (.baload, 1) := dTX7_way_1_ok 36 (173, .baload, 1) rfl
theorem dX7_way_174 : decode cX7_way 174 = .ok (.ifCond .ne 136, 3) := dTX7_way_1_ok 37 (174, .ifCond .ne 136, 3) rfl
theorem dX7_way_177 : decode cX7_way 177 = .ok (.aload_n 0, 1) := dTX7_way_1_ok 38 (177, .aload_n 0, 1) rfl
theorem dX7_way_178 : decode cX7_way 178 = .ok (.getfield 9, 3) := dTX7_way_1_ok 39 (178, .getfield 9, 3) rfl
theorem dX7_way_181 : decode cX7_way 181 = .ok (.iload 10, 2) := dTX7_way_1_ok 40 (181, .iload 10, 2) rfl
theorem dX7_way_183 : decode cX7_way 183 = .ok (.aaload, 1) := dTX7_way_1_ok 41 (183, .aaload, 1) rfl
theorem dX7_way_184 : decode cX7_way 184 = .ok (.iload 11, 2) := dTX7_way_1_ok 42 (184, .iload 11, 2) rfl
theorem dX7_way_186 : decode cX7_way 186 = .ok (.aaload, 1) := dTX7_way_1_ok 43 (186, .aaload, 1) rfl
theorem dX7_way_187 : decode cX7_way 187 = .ok (.iload 12, 2) := dTX7_way_1_ok 44 (187, .iload 12, 2) rfl
theorem dX7_way_189 : decode cX7_way 189 = .ok (.baload, 1) := dTX7_way_1_ok 45 (189, .baload, 1) rfl
theorem dX7_way_190 : decode cX7_way 190 = .ok (.ifCond .eq 12, 3) := dTX7_way_1_ok 46 (190, .ifCond .eq 12, 3) rfl
theorem dX7_way_193 : decode cX7_way 193 = .ok (.iload 9, 2) := dTX7_way_1_ok 47 (193, .iload 9, 2) rfl
theorem dX7_way_195 : decode cX7_way 195 = .ok (.iconst 1, 1) := dTX7_way_1_ok 48 (195, .iconst 1, 1) rfl
theorem dX7_way_196 : decode cX7_way 196 = .ok (.if_icmp .ne 6, 3) := dTX7_way_1_ok 49 (196, .if_icmp .ne 6, 3) rfl
theorem dX7_way_199 : decode cX7_way 199 = .ok (.goto 111, 3) := dTX7_way_1_ok 50 (199, .goto 111, 3) rfl
theorem dX7_way_202 : decode cX7_way 202 = .ok (.aload_n 0, 1) := dTX7_way_1_ok 51 (202, .aload_n 0, 1) rfl
theorem dX7_way_203 : decode cX7_way 203 = .ok (.getfield 9, 3) := dTX7_way_1_ok 52 (203, .getfield 9, 3) rfl
theorem dX7_way_206 : decode cX7_way 206 = .ok (.iload 10, 2) := dTX7_way_1_ok 53 (206, .iload 10, 2) rfl
theorem dX7_way_208 : decode cX7_way 208 = .ok (.aaload, 1) := dTX7_way_1_ok 54 (208, .aaload, 1) rfl
theorem dX7_way_209 : decode cX7_way 209 = .ok (.iload 11, 2) := dTX7_way_1_ok 55 (209, .iload 11, 2) rfl
theorem dX7_way_211 : decode cX7_way 211 = .ok (.aaload, 1) := dTX7_way_1_ok 56 (211, .aaload, 1) rfl
theorem dX7_way_212 : decode cX7_way 212 = .ok (.iload 12, 2) := dTX7_way_1_ok 57 (212, .iload 12, 2) rfl
theorem dX7_way_214 : decode cX7_way 214 = .ok (.baload, 1) := dTX7_way_1_ok 58 (214, .baload, 1) rfl
theorem dX7_way_215 : decode cX7_way 215 = .ok (.ifCond .eq 8, 3) := dTX7_way_1_ok 59 (215, .ifCond .eq 8, 3) rfl
noncomputable def dTX7_way_2 : List (Nat × Instr × Nat) := [(218, .bipush 63, 2), (220, .goto 8, 3), (223, .bipush 63, 2), (225, .iload 9, 2), (227, .imul, 1), (228, .bipush 7, 2), (230, .iload 13, 2), (232, .imul, 1), (233, .iadd, 1), (234, .iload 14, 2), (236, .iadd, 1), (237, .istore 15, 2), (239, .aload_n 0, 1), (240, .getfield 33, 3), (243, .iload 15, 2), (245, .iaload, 1), (246, .sipush 1000, 3), (249, .if_icmp .ge 6, 3), (252, .goto 58, 3), (255, .aload_n 0, 1), (256, .getfield 33, 3), (259, .iload 15, 2), (261, .aload_n 0, 1), (262, .getfield 33, 3), (265, .aload_n 0, 1), (266, .getfield 37, 3), (269, .iload 8, 2), (271, .iaload, 1), (272, .iaload, 1), (273, .iconst 1, 1), (274, .iadd, 1), (275, .iastore, 1), (276, .iload 13, 2), (278, .iload 5, 2), (280, .if_icmp .ne 18, 3), (283, .iload 14, 2), (285, .iload 6, 2), (287, .if_icmp .ne 11, 3), (290, .aload_n 0, 1), (291, .getfield 33, 3), (294, .iload 15, 2), (296, .iaload, 1), (297, .ireturn, 1), (298, .aload_n 0, 1), (299, .getfield 37, 3), (302, .iload 7, 2), (304, .iload 15, 2), (306, .iastore, 1), (307, .iinc 7 1, 3), (310, .iinc 12 1, 3), (313, .goto (-182), 3), (316, .iinc 8 1, 3), (319, .goto (-237), 3), (322, .sipush 1000, 3), (325, .ireturn, 1)]
theorem dTX7_way_2_ok : ∀ (k : Nat) (q : Nat × Instr × Nat), dTX7_way_2[k]? = some q → decode cX7_way q.1 = .ok q.2 := dT_of (by decide +kernel)
theorem dX7_way_218 : decode cX7_way 218 = .ok (.bipush 63, 2) := dTX7_way_2_ok 0 (218, .bipush 63, 2) rfl
theorem dX7_way_220 : decode cX7_way 220 = .ok (.goto 8, 3) := dTX7_way_2_ok 1 (220, .goto 8, 3) rfl
theorem dX7_way_223 : decode cX7_way 223 = .ok (.bipush 63, 2) := dTX7_way_2_ok 2 (223, .bipush 63, 2) rfl
theorem dX7_way_225 : decode cX7_way 225 = .ok (.iload 9, 2) := dTX7_way_2_ok 3 (225, .iload 9, 2) rfl
theorem dX7_way_227 : decode cX7_way 227 = .ok (.imul, 1) := dTX7_way_2_ok 4 (227, .imul, 1) rfl
theorem dX7_way_228 : decode cX7_way 228 = .ok (.bipush 7, 2) := dTX7_way_2_ok 5 (228, .bipush 7, 2) rfl
theorem dX7_way_230 : decode cX7_way 230 = .ok (.iload 13, 2) := dTX7_way_2_ok 6 (230, .iload 13, 2) rfl
theorem dX7_way_232 : decode cX7_way 232 = .ok (.imul, 1) := dTX7_way_2_ok 7 (232, .imul, 1) rfl
theorem dX7_way_233 : decode cX7_way 233 = .ok (.iadd, 1) := dTX7_way_2_ok 8 (233, .iadd, 1) rfl
theorem dX7_way_234 : decode cX7_way 234 = .ok (.iload 14, 2) := dTX7_way_2_ok 9 (234, .iload 14, 2) rfl
theorem dX7_way_236 : decode cX7_way 236 = .ok (.iadd, 1) := dTX7_way_2_ok 10 (236, .iadd, 1) rfl
theorem dX7_way_237 : decode cX7_way 237 = .ok (.istore 15, 2) := dTX7_way_2_ok 11 (237, .istore 15, 2) rfl
theorem dX7_way_239 : decode cX7_way 239 = .ok (.aload_n 0, 1) := dTX7_way_2_ok 12 (239, .aload_n 0, 1) rfl
theorem dX7_way_240 : decode cX7_way 240 = .ok (.getfield 33, 3) := dTX7_way_2_ok 13 (240, .getfield 33, 3) rfl
theorem dX7_way_243 : decode cX7_way 243 = .ok (.iload 15, 2) := dTX7_way_2_ok 14 (243, .iload 15, 2) rfl
theorem dX7_way_245 : decode cX7_way 245 = .ok (.iaload, 1) := dTX7_way_2_ok 15 (245, .iaload, 1) rfl
theorem dX7_way_246 : decode cX7_way 246 = .ok (.sipush 1000, 3) := dTX7_way_2_ok 16 (246, .sipush 1000, 3) rfl
theorem dX7_way_249 : decode cX7_way 249 = .ok (.if_icmp .ge 6, 3) := dTX7_way_2_ok 17 (249, .if_icmp .ge 6, 3) rfl
theorem dX7_way_252 : decode cX7_way 252 = .ok (.goto 58, 3) := dTX7_way_2_ok 18 (252, .goto 58, 3) rfl
theorem dX7_way_255 : decode cX7_way 255 = .ok (.aload_n 0, 1) := dTX7_way_2_ok 19 (255, .aload_n 0, 1) rfl
theorem dX7_way_256 : decode cX7_way 256 = .ok (.getfield 33, 3) := dTX7_way_2_ok 20 (256, .getfield 33, 3) rfl
theorem dX7_way_259 : decode cX7_way 259 = .ok (.iload 15, 2) := dTX7_way_2_ok 21 (259, .iload 15, 2) rfl
theorem dX7_way_261 : decode cX7_way 261 = .ok (.aload_n 0, 1) := dTX7_way_2_ok 22 (261, .aload_n 0, 1) rfl
theorem dX7_way_262 : decode cX7_way 262 = .ok (.getfield 33, 3) := dTX7_way_2_ok 23 (262, .getfield 33, 3) rfl
theorem dX7_way_265 : decode cX7_way 265 = .ok (.aload_n 0, 1) := dTX7_way_2_ok 24 (265, .aload_n 0, 1) rfl
theorem dX7_way_266 : decode cX7_way 266 = .ok (.getfield 37, 3) := dTX7_way_2_ok 25 (266, .getfield 37, 3) rfl
theorem dX7_way_269 : decode cX7_way 269 = .ok (.iload 8, 2) := dTX7_way_2_ok 26 (269, .iload 8, 2) rfl
theorem dX7_way_271 : decode cX7_way 271 = .ok (.iaload, 1) := dTX7_way_2_ok 27 (271, .iaload, 1) rfl
theorem dX7_way_272 : decode cX7_way 272 = .ok (.iaload, 1) := dTX7_way_2_ok 28 (272, .iaload, 1) rfl
theorem dX7_way_273 : decode cX7_way 273 = .ok (.iconst 1, 1) := dTX7_way_2_ok 29 (273, .iconst 1, 1) rfl
theorem dX7_way_274 : decode cX7_way 274 = .ok (.iadd, 1) := dTX7_way_2_ok 30 (274, .iadd, 1) rfl
theorem dX7_way_275 : decode cX7_way 275 = .ok (.iastore, 1) := dTX7_way_2_ok 31 (275, .iastore, 1) rfl
theorem dX7_way_276 : decode cX7_way 276 = .ok (.iload 13, 2) := dTX7_way_2_ok 32 (276, .iload 13, 2) rfl
theorem dX7_way_278 : decode cX7_way 278 = .ok (.iload 5, 2) := dTX7_way_2_ok 33 (278, .iload 5, 2) rfl
theorem dX7_way_280 : decode cX7_way 280 = .ok (.if_icmp .ne 18, 3) := dTX7_way_2_ok 34 (280, .if_icmp .ne 18, 3) rfl
theorem dX7_way_283 : decode cX7_way 283 = .ok (.iload 14, 2) := dTX7_way_2_ok 35 (283, .iload 14, 2) rfl
theorem dX7_way_285 : decode cX7_way 285 = .ok (.iload 6, 2) := dTX7_way_2_ok 36 (285, .iload 6, 2) rfl
theorem dX7_way_287 : decode cX7_way 287 = .ok (.if_icmp .ne 11, 3) := dTX7_way_2_ok 37 (287, .if_icmp .ne 11, 3) rfl
theorem dX7_way_290 : decode cX7_way 290 = .ok (.aload_n 0, 1) := dTX7_way_2_ok 38 (290, .aload_n 0, 1) rfl
theorem dX7_way_291 : decode cX7_way 291 = .ok (.getfield 33, 3) := dTX7_way_2_ok 39 (291, .getfield 33, 3) rfl
theorem dX7_way_294 : decode cX7_way 294 = .ok (.iload 15, 2) := dTX7_way_2_ok 40 (294, .iload 15, 2) rfl
theorem dX7_way_296 : decode cX7_way 296 = .ok (.iaload, 1) := dTX7_way_2_ok 41 (296, .iaload, 1) rfl
theorem dX7_way_297 : decode cX7_way 297 = .ok (.ireturn, 1) := dTX7_way_2_ok 42 (297, .ireturn, 1) rfl
theorem dX7_way_298 : decode cX7_way 298 = .ok (.aload_n 0, 1) := dTX7_way_2_ok 43 (298, .aload_n 0, 1) rfl
theorem dX7_way_299 : decode cX7_way 299 = .ok (.getfield 37, 3) := dTX7_way_2_ok 44 (299, .getfield 37, 3) rfl
theorem dX7_way_302 : decode cX7_way 302 = .ok (.iload 7, 2) := dTX7_way_2_ok 45 (302, .iload 7, 2) rfl
theorem dX7_way_304 : decode cX7_way 304 = .ok (.iload 15, 2) := dTX7_way_2_ok 46 (304, .iload 15, 2) rfl
theorem dX7_way_306 : decode cX7_way 306 = .ok (.iastore, 1) := dTX7_way_2_ok 47 (306, .iastore, 1) rfl
theorem dX7_way_307 : decode cX7_way 307 = .ok (.iinc 7 1, 3) := dTX7_way_2_ok 48 (307, .iinc 7 1, 3) rfl
theorem dX7_way_310 : decode cX7_way 310 = .ok (.iinc 12 1, 3) := dTX7_way_2_ok 49 (310, .iinc 12 1, 3) rfl
theorem dX7_way_313 : decode cX7_way 313 = .ok (.goto (-182), 3) := dTX7_way_2_ok 50 (313, .goto (-182), 3) rfl
theorem dX7_way_316 : decode cX7_way 316 = .ok (.iinc 8 1, 3) := dTX7_way_2_ok 51 (316, .iinc 8 1, 3) rfl
theorem dX7_way_319 : decode cX7_way 319 = .ok (.goto (-237), 3) := dTX7_way_2_ok 52 (319, .goto (-237), 3) rfl
theorem dX7_way_322 : decode cX7_way 322 = .ok (.sipush 1000, 3) := dTX7_way_2_ok 53 (322, .sipush 1000, 3) rfl
theorem dX7_way_325 : decode cX7_way 325 = .ok (.ireturn, 1) := dTX7_way_2_ok 54 (325, .ireturn, 1) rfl
noncomputable def dTX7_next_0 : List (Nat × Instr × Nat) := [(0, .aload_n 0, 1), (1, .invokevirtual 64, 3), (4, .astore_n 2, 1), (5, .aload_n 0, 1), (6, .aload_n 2, 1), (7, .aload_n 1, 1), (8, .getfield 68, 3), (11, .aload_n 1, 1), (12, .getfield 71, 3), (15, .aload_n 1, 1), (16, .getfield 74, 3), (19, .aload_n 1, 1), (20, .getfield 78, 3), (23, .aload_n 1, 1), (24, .getfield 81, 3), (27, .invokevirtual 84, 3), (30, .istore_n 3, 1), (31, .iload_n 3, 1), (32, .ifCond .eq 10, 3), (35, .iload_n 3, 1), (36, .sipush 1000, 3), (39, .if_icmp .ne 5, 3), (42, .iconst (-1), 1), (43, .ireturn, 1), (44, .iconst (-1), 1), (45, .istore 4, 2), (47, .iconst 3, 1), (48, .istore 5, 2), (50, .iload 5, 2), (52, .ifCond .lt 164, 3), (55, .aload_n 1, 1), (56, .getfield 68, 3), (59, .iload 5, 2), (61, .invokestatic 49, 3), (64, .iadd, 1), (65, .istore 6, 2), (67, .aload_n 1, 1), (68, .getfield 71, 3), (71, .iload 5, 2), (73, .invokestatic 53, 3), (76, .iadd, 1), (77, .istore 7, 2), (79, .iload 6, 2), (81, .iload 7, 2), (83, .invokestatic 56, 3), (86, .ifCond .eq 124, 3), (89, .aload_n 2, 1), (90, .iload 6, 2), (92, .aaload, 1), (93, .iload 7, 2), (95, .baload, 1), (96, .ifCond .eq 6, 3), (99, .goto 111, 3), (102, .aload_n 0, 1), (103, .getfield 9, 3), (106, .aload_n 1, 1), (107, .getfield 68, 3), (110, .aaload, 1), (111, .aload_n 1, 1), (112, .getfield 71, 3)]
theorem dTX7_next_0_ok : ∀ (k : Nat) (q : Nat × Instr × Nat), dTX7_next_0[k]? = some q → decode cX7_next q.1 = .ok q.2 := dT_of (by decide +kernel)
theorem dX7_next_0 : decode cX7_next 0 = .ok (.aload_n 0, 1) := dTX7_next_0_ok 0 (0, .aload_n 0, 1) rfl
theorem dX7_next_1 : decode cX7_next 1 = .ok (.invokevirtual 64, 3) := dTX7_next_0_ok 1 (1, .invokevirtual 64, 3) rfl
theorem dX7_next_4 : decode cX7_next 4 = .ok (.astore_n 2, 1) := dTX7_next_0_ok 2 (4, .astore_n 2, 1) rfl
theorem dX7_next_5 : decode cX7_next 5 = .ok (.aload_n 0, 1) := dTX7_next_0_ok 3 (5, .aload_n 0, 1) rfl
theorem dX7_next_6 : decode cX7_next 6 = .ok (.aload_n 2, 1) := dTX7_next_0_ok 4 (6, .aload_n 2, 1) rfl
theorem dX7_next_7 : decode cX7_next 7 = .ok (.aload_n 1, 1) := dTX7_next_0_ok 5 (7, .aload_n 1, 1) rfl
theorem dX7_next_8 : decode cX7_next 8 = .ok (.getfield 68, 3) := dTX7_next_0_ok 6 (8, .getfield 68, 3) rfl
theorem dX7_next_11 : decode cX7_next 11 = .ok (.aload_n 1, 1) := dTX7_next_0_ok 7 (11, .aload_n 1, 1) rfl
theorem dX7_next_12 : decode cX7_next 12 = .ok (.getfield 71, 3) := dTX7_next_0_ok 8 (12, .getfield 71, 3) rfl
theorem dX7_next_15 : decode cX7_next 15 = .ok (.aload_n 1, 1) := dTX7_next_0_ok 9 (15, .aload_n 1, 1) rfl
theorem dX7_next_16 : decode cX7_next 16 = .ok (.getfield 74, 3) := dTX7_next_0_ok 10 (16, .getfield 74, 3) rfl
theorem dX7_next_19 : decode cX7_next 19 = .ok (.aload_n 1, 1) := dTX7_next_0_ok 11 (19, .aload_n 1, 1) rfl
theorem dX7_next_20 : decode cX7_next 20 = .ok (.getfield 78, 3) := dTX7_next_0_ok 12 (20, .getfield 78, 3) rfl
theorem dX7_next_23 : decode cX7_next 23 = .ok (.aload_n 1, 1) := dTX7_next_0_ok 13 (23, .aload_n 1, 1) rfl
theorem dX7_next_24 : decode cX7_next 24 = .ok (.getfield 81, 3) := dTX7_next_0_ok 14 (24, .getfield 81, 3) rfl
theorem dX7_next_27 : decode cX7_next 27 = .ok (.invokevirtual 84, 3) := dTX7_next_0_ok 15 (27, .invokevirtual 84, 3) rfl
theorem dX7_next_30 : decode cX7_next 30 = .ok (.istore_n 3, 1) := dTX7_next_0_ok 16 (30, .istore_n 3, 1) rfl
theorem dX7_next_31 : decode cX7_next 31 = .ok (.iload_n 3, 1) := dTX7_next_0_ok 17 (31, .iload_n 3, 1) rfl
theorem dX7_next_32 : decode cX7_next 32 = .ok (.ifCond .eq 10, 3) := dTX7_next_0_ok 18 (32, .ifCond .eq 10, 3) rfl
theorem dX7_next_35 : decode cX7_next 35 = .ok (.iload_n 3, 1) := dTX7_next_0_ok 19 (35, .iload_n 3, 1) rfl
theorem dX7_next_36 : decode cX7_next 36 = .ok (.sipush 1000, 3) := dTX7_next_0_ok 20 (36, .sipush 1000, 3) rfl
theorem dX7_next_39 : decode cX7_next 39 = .ok (.if_icmp .ne 5, 3) := dTX7_next_0_ok 21 (39, .if_icmp .ne 5, 3) rfl
theorem dX7_next_42 : decode cX7_next 42 = .ok (.iconst (-1), 1) := dTX7_next_0_ok 22 (42, .iconst (-1), 1) rfl
theorem dX7_next_43 : decode cX7_next 43 = .ok (.ireturn, 1) := dTX7_next_0_ok 23 (43, .ireturn, 1) rfl
theorem dX7_next_44 : decode cX7_next 44 = .ok (.iconst (-1), 1) := dTX7_next_0_ok 24 (44, .iconst (-1), 1) rfl
theorem dX7_next_45 : decode cX7_next 45 = .ok (.istore 4, 2) := dTX7_next_0_ok 25 (45, .istore 4, 2) rfl
theorem dX7_next_47 : decode cX7_next 47 = .ok (.iconst 3, 1) := dTX7_next_0_ok 26 (47, .iconst 3, 1) rfl
theorem dX7_next_48 : decode cX7_next 48 = .ok (.istore 5, 2) := dTX7_next_0_ok 27 (48, .istore 5, 2) rfl
theorem dX7_next_50 : decode cX7_next 50 = .ok (.iload 5, 2) := dTX7_next_0_ok 28 (50, .iload 5, 2) rfl
theorem dX7_next_52 : decode cX7_next 52 = .ok (.ifCond .lt 164, 3) := dTX7_next_0_ok 29 (52, .ifCond .lt 164, 3) rfl
theorem dX7_next_55 : decode cX7_next 55 = .ok (.aload_n 1, 1) := dTX7_next_0_ok 30 (55, .aload_n 1, 1) rfl
theorem dX7_next_56 : decode cX7_next 56 = .ok (.getfield 68, 3) := dTX7_next_0_ok 31 (56, .getfield 68, 3) rfl
theorem dX7_next_59 : decode cX7_next 59 = .ok (.iload 5, 2) := dTX7_next_0_ok 32 (59, .iload 5, 2) rfl
theorem dX7_next_61 : decode cX7_next 61 = .ok (.invokestatic 49, 3) := dTX7_next_0_ok 33 (61, .invokestatic 49, 3) rfl
theorem dX7_next_64 : decode cX7_next 64 = .ok (.iadd, 1) := dTX7_next_0_ok 34 (64, .iadd, 1) rfl
theorem dX7_next_65 : decode cX7_next 65 = .ok (.istore 6, 2) := dTX7_next_0_ok 35 (65, .istore 6, 2) rfl
theorem dX7_next_67 : decode cX7_next 67 = .ok (.aload_n 1, 1) := dTX7_next_0_ok 36 (67, .aload_n 1, 1) rfl
theorem dX7_next_68 : decode cX7_next 68 = .ok (.getfield 71, 3) := dTX7_next_0_ok 37 (68, .getfield 71, 3) rfl
theorem dX7_next_71 : decode cX7_next 71 = .ok (.iload 5, 2) := dTX7_next_0_ok 38 (71, .iload 5, 2) rfl
theorem dX7_next_73 : decode cX7_next 73 = .ok (.invokestatic 53, 3) := dTX7_next_0_ok 39 (73, .invokestatic 53, 3) rfl
theorem dX7_next_76 : decode cX7_next 76 = .ok (.iadd, 1) := dTX7_next_0_ok 40 (76, .iadd, 1) rfl
theorem dX7_next_77 : decode cX7_next 77 = .ok (.istore 7, 2) := dTX7_next_0_ok 41 (77, .istore 7, 2) rfl
theorem dX7_next_79 : decode cX7_next 79 = .ok (.iload 6, 2) := dTX7_next_0_ok 42 (79, .iload 6, 2) rfl
theorem dX7_next_81 : decode cX7_next 81 = .ok (.iload 7, 2) := dTX7_next_0_ok 43 (81, .iload 7, 2) rfl
theorem dX7_next_83 : decode cX7_next 83 = .ok (.invokestatic 56, 3) := dTX7_next_0_ok 44 (83, .invokestatic 56, 3) rfl
theorem dX7_next_86 : decode cX7_next 86 = .ok (.ifCond .eq 124, 3) := dTX7_next_0_ok 45 (86, .ifCond .eq 124, 3) rfl
theorem dX7_next_89 : decode cX7_next 89 = .ok (.aload_n 2, 1) := dTX7_next_0_ok 46 (89, .aload_n 2, 1) rfl
theorem dX7_next_90 : decode cX7_next 90 = .ok (.iload 6, 2) := dTX7_next_0_ok 47 (90, .iload 6, 2) rfl
theorem dX7_next_92 : decode cX7_next 92 = .ok (.aaload, 1) := dTX7_next_0_ok 48 (92, .aaload, 1) rfl
theorem dX7_next_93 : decode cX7_next 93 = .ok (.iload 7, 2) := dTX7_next_0_ok 49 (93, .iload 7, 2) rfl
theorem dX7_next_95 : decode cX7_next 95 = .ok (.baload, 1) := dTX7_next_0_ok 50 (95, .baload, 1) rfl
theorem dX7_next_96 : decode cX7_next 96 = .ok (.ifCond .eq 6, 3) := dTX7_next_0_ok 51 (96, .ifCond .eq 6, 3) rfl
theorem dX7_next_99 : decode cX7_next 99 = .ok (.goto 111, 3) := dTX7_next_0_ok 52 (99, .goto 111, 3) rfl
theorem dX7_next_102 : decode cX7_next 102 = .ok (.aload_n 0, 1) := dTX7_next_0_ok 53 (102, .aload_n 0, 1) rfl
theorem dX7_next_103 : decode cX7_next 103 = .ok (.getfield 9, 3) := dTX7_next_0_ok 54 (103, .getfield 9, 3) rfl
theorem dX7_next_106 : decode cX7_next 106 = .ok (.aload_n 1, 1) := dTX7_next_0_ok 55 (106, .aload_n 1, 1) rfl
theorem dX7_next_107 : decode cX7_next 107 = .ok (.getfield 68, 3) := dTX7_next_0_ok 56 (107, .getfield 68, 3) rfl
theorem dX7_next_110 : decode cX7_next 110 = .ok (.aaload, 1) := dTX7_next_0_ok 57 (110, .aaload, 1) rfl
theorem dX7_next_111 : decode cX7_next 111 = .ok (.aload_n 1, 1) := dTX7_next_0_ok 58 (111, .aload_n 1, 1) rfl
theorem dX7_next_112 : decode cX7_next 112 = .ok (.getfield 71, 3) := dTX7_next_0_ok 59 (112, .getfield 71, 3) rfl
noncomputable def dTX7_next_1 : List (Nat × Instr × Nat) := [(115, .aaload, 1), (116, .iload 5, 2), (118, .baload, 1), (119, .istore 8, 2), (121, .iload 8, 2), (123, .ifCond .eq 10, 3), (126, .aload_n 1, 1), (127, .getfield 74, 3), (130, .ifCond .eq 80, 3), (133, .iconst 1, 1), (134, .aload_n 0, 1), (135, .aload_n 2, 1), (136, .iload 6, 2), (138, .iload 7, 2), (140, .aload_n 1, 1), (141, .getfield 74, 3), (144, .ifCond .eq 12, 3), (147, .iload 8, 2), (149, .ifCond .ne 7, 3), (152, .iconst 1, 1), (153, .goto 4, 3), (156, .iconst 0, 1), (157, .aload_n 1, 1), (158, .getfield 78, 3), (161, .aload_n 1, 1), (162, .getfield 81, 3), (165, .invokevirtual 84, 3), (168, .iadd, 1), (169, .iload_n 3, 1), (170, .if_icmp .eq 6, 3), (173, .goto 37, 3), (176, .iload 4, 2), (178, .ifCond .lt 28, 3), (181, .iload 8, 2), (183, .ifCond .eq 23, 3), (186, .aload_n 0, 1), (187, .getfield 9, 3), (190, .aload_n 1, 1), (191, .getfield 68, 3), (194, .aaload, 1), (195, .aload_n 1, 1), (196, .getfield 71, 3), (199, .aaload, 1), (200, .iload 4, 2), (202, .baload, 1), (203, .ifCond .eq 7, 3), (206, .iload 5, 2), (208, .istore 4, 2), (210, .iinc 5 (-1), 3), (213, .goto (-163), 3), (216, .iload 4, 2), (218, .ireturn, 1)]
theorem dTX7_next_1_ok : ∀ (k : Nat) (q : Nat × Instr × Nat), dTX7_next_1[k]? = some q → decode cX7_next q.1 = .ok q.2 := dT_of (by decide +kernel)
theorem dX7_next_115 : decode cX7_next 115 = .ok (.aaload, 1) := dTX7_next_1_ok 0 (115, .aaload, 1) rfl
theorem dX7_next_116 : decode cX7_next 116 = .ok (.iload 5, 2) := dTX7_next_1_ok 1 (116, .iload 5, 2) rfl
theorem dX7_next_118 : decode cX7_next 118 = .ok (.baload, 1) := dTX7_next_1_ok 2 (118, .baload, 1) rfl
theorem dX7_next_119 : decode cX7_next 119 = .ok (.istore 8, 2) := dTX7_next_1_ok 3 (119, .istore 8, 2) rfl
theorem dX7_next_121 : decode cX7_next 121 = .ok (.iload 8, 2) := dTX7_next_1_ok 4 (121, .iload 8, 2) rfl
theorem dX7_next_123 : decode cX7_next 123 = .ok (.ifCond .eq 10, 3) := dTX7_next_1_ok 5 (123, .ifCond .eq 10, 3) rfl
theorem dX7_next_126 : decode cX7_next 126 = .ok (.aload_n 1, 1) := dTX7_next_1_ok 6 (126, .aload_n 1, 1) rfl
theorem dX7_next_127 : decode cX7_next 127 = .ok (.getfield 74, 3) := dTX7_next_1_ok 7 (127, .getfield 74, 3) rfl
theorem dX7_next_130 : decode cX7_next 130 = .ok (.ifCond .eq 80, 3) := dTX7_next_1_ok 8 (130, .ifCond .eq 80, 3) rfl
theorem dX7_next_133 : decode cX7_next 133 = .ok (.iconst 1, 1) := dTX7_next_1_ok 9 (133, .iconst 1, 1) rfl
theorem dX7_next_134 : decode cX7_next 134 = .ok (.aload_n 0, 1) := dTX7_next_1_ok 10 (134, .aload_n 0, 1) rfl
theorem dX7_next_135 : decode cX7_next 135 = .ok (.aload_n 2, 1) := dTX7_next_1_ok 11 (135, .aload_n 2, 1) rfl
theorem dX7_next_136 : decode cX7_next 136 = .ok (.iload 6, 2) := dTX7_next_1_ok 12 (136, .iload 6, 2) rfl
theorem dX7_next_138 : decode cX7_next 138 = .ok (.iload 7, 2) := dTX7_next_1_ok 13 (138, .iload 7, 2) rfl
theorem dX7_next_140 : decode cX7_next 140 = .ok (.aload_n 1, 1) := dTX7_next_1_ok 14 (140, .aload_n 1, 1) rfl
theorem dX7_next_141 : decode cX7_next 141 = .ok (.getfield 74, 3) := dTX7_next_1_ok 15 (141, .getfield 74, 3) rfl
theorem dX7_next_144 : decode cX7_next 144 = .ok (.ifCond .eq 12, 3) := dTX7_next_1_ok 16 (144, .ifCond .eq 12, 3) rfl
theorem dX7_next_147 : decode cX7_next 147 = .ok (.iload 8, 2) := dTX7_next_1_ok 17 (147, .iload 8, 2) rfl
theorem dX7_next_149 : decode cX7_next 149 = .ok (.ifCond .ne 7, 3) := dTX7_next_1_ok 18 (149, .ifCond .ne 7, 3) rfl
theorem dX7_next_152 : decode cX7_next 152 = .ok (.iconst 1, 1) := dTX7_next_1_ok 19 (152, .iconst 1, 1) rfl
theorem dX7_next_153 : decode cX7_next 153 = .ok (.goto 4, 3) := dTX7_next_1_ok 20 (153, .goto 4, 3) rfl
theorem dX7_next_156 : decode cX7_next 156 = .ok (.iconst 0, 1) := dTX7_next_1_ok 21 (156, .iconst 0, 1) rfl
theorem dX7_next_157 : decode cX7_next 157 = .ok (.aload_n 1, 1) := dTX7_next_1_ok 22 (157, .aload_n 1, 1) rfl
theorem dX7_next_158 : decode cX7_next 158 = .ok (.getfield 78, 3) := dTX7_next_1_ok 23 (158, .getfield 78, 3) rfl
theorem dX7_next_161 : decode cX7_next 161 = .ok (.aload_n 1, 1) := dTX7_next_1_ok 24 (161, .aload_n 1, 1) rfl
theorem dX7_next_162 : decode cX7_next 162 = .ok (.getfield 81, 3) := dTX7_next_1_ok 25 (162, .getfield 81, 3) rfl
theorem dX7_next_165 : decode cX7_next 165 = .ok (.invokevirtual 84, 3) := dTX7_next_1_ok 26 (165, .invokevirtual 84, 3) rfl
theorem dX7_next_168 : decode cX7_next 168 = .ok (.iadd, 1) := dTX7_next_1_ok 27 (168, .iadd, 1) rfl
theorem dX7_next_169 : decode cX7_next 169 = .ok (.iload_n 3, 1) := dTX7_next_1_ok 28 (169, .iload_n 3, 1) rfl
theorem dX7_next_170 : decode cX7_next 170 = .ok (.if_icmp .eq 6, 3) := dTX7_next_1_ok 29 (170, .if_icmp .eq 6, 3) rfl
theorem dX7_next_173 : decode cX7_next 173 = .ok (.goto 37, 3) := dTX7_next_1_ok 30 (173, .goto 37, 3) rfl
theorem dX7_next_176 : decode cX7_next 176 = .ok (.iload 4, 2) := dTX7_next_1_ok 31 (176, .iload 4, 2) rfl
theorem dX7_next_178 : decode cX7_next 178 = .ok (.ifCond .lt 28, 3) := dTX7_next_1_ok 32 (178, .ifCond .lt 28, 3) rfl
theorem dX7_next_181 : decode cX7_next 181 = .ok (.iload 8, 2) := dTX7_next_1_ok 33 (181, .iload 8, 2) rfl
theorem dX7_next_183 : decode cX7_next 183 = .ok (.ifCond .eq 23, 3) := dTX7_next_1_ok 34 (183, .ifCond .eq 23, 3) rfl
theorem dX7_next_186 : decode cX7_next 186 = .ok (.aload_n 0, 1) := dTX7_next_1_ok 35 (186, .aload_n 0, 1) rfl
theorem dX7_next_187 : decode cX7_next 187 = .ok (.getfield 9, 3) := dTX7_next_1_ok 36 (187, .getfield 9, 3) rfl
theorem dX7_next_190 : decode cX7_next 190 = .ok (.aload_n 1, 1) := dTX7_next_1_ok 37 (190, .aload_n 1, 1) rfl
theorem dX7_next_191 : decode cX7_next 191 = .ok (.getfield 68, 3) := dTX7_next_1_ok 38 (191, .getfield 68, 3) rfl
theorem dX7_next_194 : decode cX7_next 194 = .ok (.aaload, 1) := dTX7_next_1_ok 39 (194, .aaload, 1) rfl
theorem dX7_next_195 : decode cX7_next 195 = .ok (.aload_n 1, 1) := dTX7_next_1_ok 40 (195, .aload_n 1, 1) rfl
theorem dX7_next_196 : decode cX7_next 196 = .ok (.getfield 71, 3) := dTX7_next_1_ok 41 (196, .getfield 71, 3) rfl
theorem dX7_next_199 : decode cX7_next 199 = .ok (.aaload, 1) := dTX7_next_1_ok 42 (199, .aaload, 1) rfl
theorem dX7_next_200 : decode cX7_next 200 = .ok (.iload 4, 2) := dTX7_next_1_ok 43 (200, .iload 4, 2) rfl
theorem dX7_next_202 : decode cX7_next 202 = .ok (.baload, 1) := dTX7_next_1_ok 44 (202, .baload, 1) rfl
theorem dX7_next_203 : decode cX7_next 203 = .ok (.ifCond .eq 7, 3) := dTX7_next_1_ok 45 (203, .ifCond .eq 7, 3) rfl
theorem dX7_next_206 : decode cX7_next 206 = .ok (.iload 5, 2) := dTX7_next_1_ok 46 (206, .iload 5, 2) rfl
theorem dX7_next_208 : decode cX7_next 208 = .ok (.istore 4, 2) := dTX7_next_1_ok 47 (208, .istore 4, 2) rfl
theorem dX7_next_210 : decode cX7_next 210 = .ok (.iinc 5 (-1), 3) := dTX7_next_1_ok 48 (210, .iinc 5 (-1), 3) rfl
theorem dX7_next_213 : decode cX7_next 213 = .ok (.goto (-163), 3) := dTX7_next_1_ok 49 (213, .goto (-163), 3) rfl
theorem dX7_next_216 : decode cX7_next 216 = .ok (.iload 4, 2) := dTX7_next_1_ok 50 (216, .iload 4, 2) rfl
theorem dX7_next_218 : decode cX7_next 218 = .ok (.ireturn, 1) := dTX7_next_1_ok 51 (218, .ireturn, 1) rfl
noncomputable def dTX7_pass_0 : List (Nat × Instr × Nat) := [(0, .aload_n 0, 1), (1, .getfield 88, 3), (4, .istore_n 1, 1), (5, .iconst 0, 1), (6, .istore_n 2, 1), (7, .iload_n 2, 1), (8, .bipush 9, 2), (10, .if_icmp .ge 73, 3), (13, .iconst 0, 1), (14, .istore_n 3, 1), (15, .iload_n 3, 1), (16, .bipush 7, 2), (18, .if_icmp .ge 59, 3), (21, .aload_n 0, 1), (22, .getfield 24, 3), (25, .iload_n 2, 1), (26, .aaload, 1), (27, .iload_n 3, 1), (28, .baload, 1), (29, .ifCond .ne 6, 3), (32, .goto 39, 3), (35, .aload_n 0, 1), (36, .getfield 19, 3), (39, .iload_n 2, 1), (40, .aaload, 1), (41, .iload_n 3, 1), (42, .dup2, 1), (43, .iaload, 1), (44, .iconst 1, 1), (45, .isub, 1), (46, .iastore, 1), (47, .aload_n 0, 1), (48, .getfield 24, 3), (51, .iload_n 2, 1), (52, .aaload, 1), (53, .iload_n 3, 1), (54, .aload_n 0, 1), (55, .getfield 19, 3), (58, .iload_n 2, 1), (59, .aaload, 1), (60, .iload_n 3, 1), (61, .iaload, 1), (62, .ifCond .le 7, 3), (65, .iconst 1, 1), (66, .goto 4, 3), (69, .iconst 0, 1), (70, .bastore, 1), (71, .iinc 3 1, 3), (74, .goto (-59), 3), (77, .iinc 2 1, 3), (80, .goto (-73), 3), (83, .aload_n 0, 1), (84, .getfield 29, 3), (87, .astore_n 2, 1), (88, .aload_n 2, 1), (89, .arraylength, 1), (90, .istore_n 3, 1), (91, .iconst 0, 1), (92, .istore 4, 2), (94, .iload 4, 2)]
theorem dTX7_pass_0_ok : ∀ (k : Nat) (q : Nat × Instr × Nat), dTX7_pass_0[k]? = some q → decode cX7_pass q.1 = .ok q.2 := dT_of (by decide +kernel)
theorem dX7_pass_0 : decode cX7_pass 0 = .ok (.aload_n 0, 1) := dTX7_pass_0_ok 0 (0, .aload_n 0, 1) rfl
theorem dX7_pass_1 : decode cX7_pass 1 = .ok (.getfield 88, 3) := dTX7_pass_0_ok 1 (1, .getfield 88, 3) rfl
theorem dX7_pass_4 : decode cX7_pass 4 = .ok (.istore_n 1, 1) := dTX7_pass_0_ok 2 (4, .istore_n 1, 1) rfl
theorem dX7_pass_5 : decode cX7_pass 5 = .ok (.iconst 0, 1) := dTX7_pass_0_ok 3 (5, .iconst 0, 1) rfl
theorem dX7_pass_6 : decode cX7_pass 6 = .ok (.istore_n 2, 1) := dTX7_pass_0_ok 4 (6, .istore_n 2, 1) rfl
theorem dX7_pass_7 : decode cX7_pass 7 = .ok (.iload_n 2, 1) := dTX7_pass_0_ok 5 (7, .iload_n 2, 1) rfl
theorem dX7_pass_8 : decode cX7_pass 8 = .ok (.bipush 9, 2) := dTX7_pass_0_ok 6 (8, .bipush 9, 2) rfl
theorem dX7_pass_10 : decode cX7_pass 10 = .ok (.if_icmp .ge 73, 3) := dTX7_pass_0_ok 7 (10, .if_icmp .ge 73, 3) rfl
theorem dX7_pass_13 : decode cX7_pass 13 = .ok (.iconst 0, 1) := dTX7_pass_0_ok 8 (13, .iconst 0, 1) rfl
theorem dX7_pass_14 : decode cX7_pass 14 = .ok (.istore_n 3, 1) := dTX7_pass_0_ok 9 (14, .istore_n 3, 1) rfl
theorem dX7_pass_15 : decode cX7_pass 15 = .ok (.iload_n 3, 1) := dTX7_pass_0_ok 10 (15, .iload_n 3, 1) rfl
theorem dX7_pass_16 : decode cX7_pass 16 = .ok (.bipush 7, 2) := dTX7_pass_0_ok 11 (16, .bipush 7, 2) rfl
theorem dX7_pass_18 : decode cX7_pass 18 = .ok (.if_icmp .ge 59, 3) := dTX7_pass_0_ok 12 (18, .if_icmp .ge 59, 3) rfl
theorem dX7_pass_21 : decode cX7_pass 21 = .ok (.aload_n 0, 1) := dTX7_pass_0_ok 13 (21, .aload_n 0, 1) rfl
theorem dX7_pass_22 : decode cX7_pass 22 = .ok (.getfield 24, 3) := dTX7_pass_0_ok 14 (22, .getfield 24, 3) rfl
theorem dX7_pass_25 : decode cX7_pass 25 = .ok (.iload_n 2, 1) := dTX7_pass_0_ok 15 (25, .iload_n 2, 1) rfl
theorem dX7_pass_26 : decode cX7_pass 26 = .ok (.aaload, 1) := dTX7_pass_0_ok 16 (26, .aaload, 1) rfl
theorem dX7_pass_27 : decode cX7_pass 27 = .ok (.iload_n 3, 1) := dTX7_pass_0_ok 17 (27, .iload_n 3, 1) rfl
theorem dX7_pass_28 : decode cX7_pass 28 = .ok (.baload, 1) := dTX7_pass_0_ok 18 (28, .baload, 1) rfl
theorem dX7_pass_29 : decode cX7_pass 29 = .ok (.ifCond .ne 6, 3) := dTX7_pass_0_ok 19 (29, .ifCond .ne 6, 3) rfl
theorem dX7_pass_32 : decode cX7_pass 32 = .ok (.goto 39, 3) := dTX7_pass_0_ok 20 (32, .goto 39, 3) rfl
theorem dX7_pass_35 : decode cX7_pass 35 = .ok (.aload_n 0, 1) := dTX7_pass_0_ok 21 (35, .aload_n 0, 1) rfl
theorem dX7_pass_36 : decode cX7_pass 36 = .ok (.getfield 19, 3) := dTX7_pass_0_ok 22 (36, .getfield 19, 3) rfl
theorem dX7_pass_39 : decode cX7_pass 39 = .ok (.iload_n 2, 1) := dTX7_pass_0_ok 23 (39, .iload_n 2, 1) rfl
theorem dX7_pass_40 : decode cX7_pass 40 = .ok (.aaload, 1) := dTX7_pass_0_ok 24 (40, .aaload, 1) rfl
theorem dX7_pass_41 : decode cX7_pass 41 = .ok (.iload_n 3, 1) := dTX7_pass_0_ok 25 (41, .iload_n 3, 1) rfl
theorem dX7_pass_42 : decode cX7_pass 42 = .ok (.dup2, 1) := dTX7_pass_0_ok 26 (42, .dup2, 1) rfl
theorem dX7_pass_43 : decode cX7_pass 43 = .ok (.iaload, 1) := dTX7_pass_0_ok 27 (43, .iaload, 1) rfl
theorem dX7_pass_44 : decode cX7_pass 44 = .ok (.iconst 1, 1) := dTX7_pass_0_ok 28 (44, .iconst 1, 1) rfl
theorem dX7_pass_45 : decode cX7_pass 45 = .ok (.isub, 1) := dTX7_pass_0_ok 29 (45, .isub, 1) rfl
theorem dX7_pass_46 : decode cX7_pass 46 = .ok (.iastore, 1) := dTX7_pass_0_ok 30 (46, .iastore, 1) rfl
theorem dX7_pass_47 : decode cX7_pass 47 = .ok (.aload_n 0, 1) := dTX7_pass_0_ok 31 (47, .aload_n 0, 1) rfl
theorem dX7_pass_48 : decode cX7_pass 48 = .ok (.getfield 24, 3) := dTX7_pass_0_ok 32 (48, .getfield 24, 3) rfl
theorem dX7_pass_51 : decode cX7_pass 51 = .ok (.iload_n 2, 1) := dTX7_pass_0_ok 33 (51, .iload_n 2, 1) rfl
theorem dX7_pass_52 : decode cX7_pass 52 = .ok (.aaload, 1) := dTX7_pass_0_ok 34 (52, .aaload, 1) rfl
theorem dX7_pass_53 : decode cX7_pass 53 = .ok (.iload_n 3, 1) := dTX7_pass_0_ok 35 (53, .iload_n 3, 1) rfl
theorem dX7_pass_54 : decode cX7_pass 54 = .ok (.aload_n 0, 1) := dTX7_pass_0_ok 36 (54, .aload_n 0, 1) rfl
theorem dX7_pass_55 : decode cX7_pass 55 = .ok (.getfield 19, 3) := dTX7_pass_0_ok 37 (55, .getfield 19, 3) rfl
theorem dX7_pass_58 : decode cX7_pass 58 = .ok (.iload_n 2, 1) := dTX7_pass_0_ok 38 (58, .iload_n 2, 1) rfl
theorem dX7_pass_59 : decode cX7_pass 59 = .ok (.aaload, 1) := dTX7_pass_0_ok 39 (59, .aaload, 1) rfl
theorem dX7_pass_60 : decode cX7_pass 60 = .ok (.iload_n 3, 1) := dTX7_pass_0_ok 40 (60, .iload_n 3, 1) rfl
theorem dX7_pass_61 : decode cX7_pass 61 = .ok (.iaload, 1) := dTX7_pass_0_ok 41 (61, .iaload, 1) rfl
theorem dX7_pass_62 : decode cX7_pass 62 = .ok (.ifCond .le 7, 3) := dTX7_pass_0_ok 42 (62, .ifCond .le 7, 3) rfl
theorem dX7_pass_65 : decode cX7_pass 65 = .ok (.iconst 1, 1) := dTX7_pass_0_ok 43 (65, .iconst 1, 1) rfl
theorem dX7_pass_66 : decode cX7_pass 66 = .ok (.goto 4, 3) := dTX7_pass_0_ok 44 (66, .goto 4, 3) rfl
theorem dX7_pass_69 : decode cX7_pass 69 = .ok (.iconst 0, 1) := dTX7_pass_0_ok 45 (69, .iconst 0, 1) rfl
theorem dX7_pass_70 : decode cX7_pass 70 = .ok (.bastore, 1) := dTX7_pass_0_ok 46 (70, .bastore, 1) rfl
theorem dX7_pass_71 : decode cX7_pass 71 = .ok (.iinc 3 1, 3) := dTX7_pass_0_ok 47 (71, .iinc 3 1, 3) rfl
theorem dX7_pass_74 : decode cX7_pass 74 = .ok (.goto (-59), 3) := dTX7_pass_0_ok 48 (74, .goto (-59), 3) rfl
theorem dX7_pass_77 : decode cX7_pass 77 = .ok (.iinc 2 1, 3) := dTX7_pass_0_ok 49 (77, .iinc 2 1, 3) rfl
theorem dX7_pass_80 : decode cX7_pass 80 = .ok (.goto (-73), 3) := dTX7_pass_0_ok 50 (80, .goto (-73), 3) rfl
theorem dX7_pass_83 : decode cX7_pass 83 = .ok (.aload_n 0, 1) := dTX7_pass_0_ok 51 (83, .aload_n 0, 1) rfl
theorem dX7_pass_84 : decode cX7_pass 84 = .ok (.getfield 29, 3) := dTX7_pass_0_ok 52 (84, .getfield 29, 3) rfl
theorem dX7_pass_87 : decode cX7_pass 87 = .ok (.astore_n 2, 1) := dTX7_pass_0_ok 53 (87, .astore_n 2, 1) rfl
theorem dX7_pass_88 : decode cX7_pass 88 = .ok (.aload_n 2, 1) := dTX7_pass_0_ok 54 (88, .aload_n 2, 1) rfl
theorem dX7_pass_89 : decode cX7_pass 89 = .ok (.arraylength, 1) := dTX7_pass_0_ok 55 (89, .arraylength, 1) rfl
theorem dX7_pass_90 : decode cX7_pass 90 = .ok (.istore_n 3, 1) := dTX7_pass_0_ok 56 (90, .istore_n 3, 1) rfl
theorem dX7_pass_91 : decode cX7_pass 91 = .ok (.iconst 0, 1) := dTX7_pass_0_ok 57 (91, .iconst 0, 1) rfl
theorem dX7_pass_92 : decode cX7_pass 92 = .ok (.istore 4, 2) := dTX7_pass_0_ok 58 (92, .istore 4, 2) rfl
theorem dX7_pass_94 : decode cX7_pass 94 = .ok (.iload 4, 2) := dTX7_pass_0_ok 59 (94, .iload 4, 2) rfl
noncomputable def dTX7_pass_1 : List (Nat × Instr × Nat) := [(96, .iload_n 3, 1), (97, .if_icmp .ge 187, 3), (100, .aload_n 2, 1), (101, .iload 4, 2), (103, .aaload, 1), (104, .astore 5, 2), (106, .iconst 0, 1), (107, .istore 6, 2), (109, .iload 6, 2), (111, .aload 5, 2), (113, .getfield 91, 3), (116, .if_icmp .ge 162, 3), (119, .aload_n 0, 1), (120, .aload 5, 2), (122, .invokevirtual 94, 3), (125, .istore 7, 2), (127, .iload 7, 2), (129, .ifCond .ge 6, 3), (132, .goto 146, 3), (135, .aload_n 0, 1), (136, .getfield 9, 3), (139, .aload 5, 2), (141, .getfield 68, 3), (144, .aaload, 1), (145, .aload 5, 2), (147, .getfield 71, 3), (150, .aaload, 1), (151, .iload 7, 2), (153, .baload, 1), (154, .istore 8, 2), (156, .aload 5, 2), (158, .dup, 1), (159, .getfield 68, 3), (162, .iload 7, 2), (164, .invokestatic 49, 3), (167, .iadd, 1), (168, .putfield 68, 3), (171, .aload 5, 2), (173, .dup, 1), (174, .getfield 71, 3), (177, .iload 7, 2), (179, .invokestatic 53, 3), (182, .iadd, 1), (183, .putfield 71, 3), (186, .iload 8, 2), (188, .ifCond .ne 6, 3), (191, .goto 81, 3), (194, .aload 5, 2), (196, .iconst 0, 1), (197, .putfield 74, 3), (200, .iconst 0, 1), (201, .istore 9, 2), (203, .iload 9, 2), (205, .iconst 4, 1), (206, .if_icmp .ge 66, 3), (209, .aload 5, 2), (211, .getfield 68, 3), (214, .iload 9, 2), (216, .invokestatic 49, 3), (219, .iadd, 1)]
theorem dTX7_pass_1_ok : ∀ (k : Nat) (q : Nat × Instr × Nat), dTX7_pass_1[k]? = some q → decode cX7_pass q.1 = .ok q.2 := dT_of (by decide +kernel)
theorem dX7_pass_96 : decode cX7_pass 96 = .ok (.iload_n 3, 1) := dTX7_pass_1_ok 0 (96, .iload_n 3, 1) rfl
theorem dX7_pass_97 : decode cX7_pass 97 = .ok (.if_icmp .ge 187, 3) := dTX7_pass_1_ok 1 (97, .if_icmp .ge 187, 3) rfl
theorem dX7_pass_100 : decode cX7_pass 100 = .ok (.aload_n 2, 1) := dTX7_pass_1_ok 2 (100, .aload_n 2, 1) rfl
theorem dX7_pass_101 : decode cX7_pass 101 = .ok (.iload 4, 2) := dTX7_pass_1_ok 3 (101, .iload 4, 2) rfl
theorem dX7_pass_103 : decode cX7_pass 103 = .ok (.aaload, 1) := dTX7_pass_1_ok 4 (103, .aaload, 1) rfl
theorem dX7_pass_104 : decode cX7_pass 104 = .ok (.astore 5, 2) := dTX7_pass_1_ok 5 (104, .astore 5, 2) rfl
theorem dX7_pass_106 : decode cX7_pass 106 = .ok (.iconst 0, 1) := dTX7_pass_1_ok 6 (106, .iconst 0, 1) rfl
theorem dX7_pass_107 : decode cX7_pass 107 = .ok (.istore 6, 2) := dTX7_pass_1_ok 7 (107, .istore 6, 2) rfl
theorem dX7_pass_109 : decode cX7_pass 109 = .ok (.iload 6, 2) := dTX7_pass_1_ok 8 (109, .iload 6, 2) rfl
theorem dX7_pass_111 : decode cX7_pass 111 = .ok (.aload 5, 2) := dTX7_pass_1_ok 9 (111, .aload 5, 2) rfl
theorem dX7_pass_113 : decode cX7_pass 113 = .ok (.getfield 91, 3) := dTX7_pass_1_ok 10 (113, .getfield 91, 3) rfl
theorem dX7_pass_116 : decode cX7_pass 116 = .ok (.if_icmp .ge 162, 3) := dTX7_pass_1_ok 11 (116, .if_icmp .ge 162, 3) rfl
theorem dX7_pass_119 : decode cX7_pass 119 = .ok (.aload_n 0, 1) := dTX7_pass_1_ok 12 (119, .aload_n 0, 1) rfl
theorem dX7_pass_120 : decode cX7_pass 120 = .ok (.aload 5, 2) := dTX7_pass_1_ok 13 (120, .aload 5, 2) rfl
theorem dX7_pass_122 : decode cX7_pass 122 = .ok (.invokevirtual 94, 3) := dTX7_pass_1_ok 14 (122, .invokevirtual 94, 3) rfl
theorem dX7_pass_125 : decode cX7_pass 125 = .ok (.istore 7, 2) := dTX7_pass_1_ok 15 (125, .istore 7, 2) rfl
theorem dX7_pass_127 : decode cX7_pass 127 = .ok (.iload 7, 2) := dTX7_pass_1_ok 16 (127, .iload 7, 2) rfl
theorem dX7_pass_129 : decode cX7_pass 129 = .ok (.ifCond .ge 6, 3) := dTX7_pass_1_ok 17 (129, .ifCond .ge 6, 3) rfl
theorem dX7_pass_132 : decode cX7_pass 132 = .ok (.goto 146, 3) := dTX7_pass_1_ok 18 (132, .goto 146, 3) rfl
theorem dX7_pass_135 : decode cX7_pass 135 = .ok (.aload_n 0, 1) := dTX7_pass_1_ok 19 (135, .aload_n 0, 1) rfl
theorem dX7_pass_136 : decode cX7_pass 136 = .ok (.getfield 9, 3) := dTX7_pass_1_ok 20 (136, .getfield 9, 3) rfl
theorem dX7_pass_139 : decode cX7_pass 139 = .ok (.aload 5, 2) := dTX7_pass_1_ok 21 (139, .aload 5, 2) rfl
theorem dX7_pass_141 : decode cX7_pass 141 = .ok (.getfield 68, 3) := dTX7_pass_1_ok 22 (141, .getfield 68, 3) rfl
theorem dX7_pass_144 : decode cX7_pass 144 = .ok (.aaload, 1) := dTX7_pass_1_ok 23 (144, .aaload, 1) rfl
theorem dX7_pass_145 : decode cX7_pass 145 = .ok (.aload 5, 2) := dTX7_pass_1_ok 24 (145, .aload 5, 2) rfl
theorem dX7_pass_147 : decode cX7_pass 147 = .ok (.getfield 71, 3) := dTX7_pass_1_ok 25 (147, .getfield 71, 3) rfl
theorem dX7_pass_150 : decode cX7_pass 150 = .ok (.aaload, 1) := dTX7_pass_1_ok 26 (150, .aaload, 1) rfl
theorem dX7_pass_151 : decode cX7_pass 151 = .ok (.iload 7, 2) := dTX7_pass_1_ok 27 (151, .iload 7, 2) rfl
theorem dX7_pass_153 : decode cX7_pass 153 = .ok (.baload, 1) := dTX7_pass_1_ok 28 (153, .baload, 1) rfl
theorem dX7_pass_154 : decode cX7_pass 154 = .ok (.istore 8, 2) := dTX7_pass_1_ok 29 (154, .istore 8, 2) rfl
theorem dX7_pass_156 : decode cX7_pass 156 = .ok (.aload 5, 2) := dTX7_pass_1_ok 30 (156, .aload 5, 2) rfl
theorem dX7_pass_158 : decode cX7_pass 158 = .ok (.dup, 1) := dTX7_pass_1_ok 31 (158, .dup, 1) rfl
theorem dX7_pass_159 : decode cX7_pass 159 = .ok (.getfield 68, 3) := dTX7_pass_1_ok 32 (159, .getfield 68, 3) rfl
theorem dX7_pass_162 : decode cX7_pass 162 = .ok (.iload 7, 2) := dTX7_pass_1_ok 33 (162, .iload 7, 2) rfl
theorem dX7_pass_164 : decode cX7_pass 164 = .ok (.invokestatic 49, 3) := dTX7_pass_1_ok 34 (164, .invokestatic 49, 3) rfl
theorem dX7_pass_167 : decode cX7_pass 167 = .ok (.iadd, 1) := dTX7_pass_1_ok 35 (167, .iadd, 1) rfl
theorem dX7_pass_168 : decode cX7_pass 168 = .ok (.putfield 68, 3) := dTX7_pass_1_ok 36 (168, .putfield 68, 3) rfl
theorem dX7_pass_171 : decode cX7_pass 171 = .ok (.aload 5, 2) := dTX7_pass_1_ok 37 (171, .aload 5, 2) rfl
theorem dX7_pass_173 : decode cX7_pass 173 = .ok (.dup, 1) := dTX7_pass_1_ok 38 (173, .dup, 1) rfl
theorem dX7_pass_174 : decode cX7_pass 174 = .ok (.getfield 71, 3) := dTX7_pass_1_ok 39 (174, .getfield 71, 3) rfl
theorem dX7_pass_177 : decode cX7_pass 177 = .ok (.iload 7, 2) := dTX7_pass_1_ok 40 (177, .iload 7, 2) rfl
theorem dX7_pass_179 : decode cX7_pass 179 = .ok (.invokestatic 53, 3) := dTX7_pass_1_ok 41 (179, .invokestatic 53, 3) rfl
theorem dX7_pass_182 : decode cX7_pass 182 = .ok (.iadd, 1) := dTX7_pass_1_ok 42 (182, .iadd, 1) rfl
theorem dX7_pass_183 : decode cX7_pass 183 = .ok (.putfield 71, 3) := dTX7_pass_1_ok 43 (183, .putfield 71, 3) rfl
theorem dX7_pass_186 : decode cX7_pass 186 = .ok (.iload 8, 2) := dTX7_pass_1_ok 44 (186, .iload 8, 2) rfl
theorem dX7_pass_188 : decode cX7_pass 188 = .ok (.ifCond .ne 6, 3) := dTX7_pass_1_ok 45 (188, .ifCond .ne 6, 3) rfl
theorem dX7_pass_191 : decode cX7_pass 191 = .ok (.goto 81, 3) := dTX7_pass_1_ok 46 (191, .goto 81, 3) rfl
theorem dX7_pass_194 : decode cX7_pass 194 = .ok (.aload 5, 2) := dTX7_pass_1_ok 47 (194, .aload 5, 2) rfl
theorem dX7_pass_196 : decode cX7_pass 196 = .ok (.iconst 0, 1) := dTX7_pass_1_ok 48 (196, .iconst 0, 1) rfl
theorem dX7_pass_197 : decode cX7_pass 197 = .ok (.putfield 74, 3) := dTX7_pass_1_ok 49 (197, .putfield 74, 3) rfl
theorem dX7_pass_200 : decode cX7_pass 200 = .ok (.iconst 0, 1) := dTX7_pass_1_ok 50 (200, .iconst 0, 1) rfl
theorem dX7_pass_201 : decode cX7_pass 201 = .ok (.istore 9, 2) := dTX7_pass_1_ok 51 (201, .istore 9, 2) rfl
theorem dX7_pass_203 : decode cX7_pass 203 = .ok (.iload 9, 2) := dTX7_pass_1_ok 52 (203, .iload 9, 2) rfl
theorem dX7_pass_205 : decode cX7_pass 205 = .ok (.iconst 4, 1) := dTX7_pass_1_ok 53 (205, .iconst 4, 1) rfl
theorem dX7_pass_206 : decode cX7_pass 206 = .ok (.if_icmp .ge 66, 3) := dTX7_pass_1_ok 54 (206, .if_icmp .ge 66, 3) rfl
theorem dX7_pass_209 : decode cX7_pass 209 = .ok (.aload 5, 2) := dTX7_pass_1_ok 55 (209, .aload 5, 2) rfl
theorem dX7_pass_211 : decode cX7_pass 211 = .ok (.getfield 68, 3) := dTX7_pass_1_ok 56 (211, .getfield 68, 3) rfl
theorem dX7_pass_214 : decode cX7_pass 214 = .ok (.iload 9, 2) := dTX7_pass_1_ok 57 (214, .iload 9, 2) rfl
theorem dX7_pass_216 : decode cX7_pass 216 = .ok (.invokestatic 49, 3) := dTX7_pass_1_ok 58 (216, .invokestatic 49, 3) rfl
theorem dX7_pass_219 : decode cX7_pass 219 = .ok (.iadd, 1) := dTX7_pass_1_ok 59 (219, .iadd, 1) rfl
noncomputable def dTX7_pass_2 : List (Nat × Instr × Nat) := [(220, .aload 5, 2), (222, .getfield 71, 3), (225, .iload 9, 2), (227, .invokestatic 53, 3), (230, .iadd, 1), (231, .invokestatic 56, 3), (234, .ifCond .eq 32, 3), (237, .aload_n 0, 1), (238, .getfield 24, 3), (241, .aload 5, 2), (243, .getfield 68, 3), (246, .iload 9, 2), (248, .invokestatic 49, 3), (251, .iadd, 1), (252, .aaload, 1), (253, .aload 5, 2), (255, .getfield 71, 3), (258, .iload 9, 2), (260, .invokestatic 53, 3), (263, .iadd, 1), (264, .iconst 0, 1), (265, .bastore, 1), (266, .iinc 9 1, 3), (269, .goto (-66), 3), (272, .iinc 6 1, 3), (275, .goto (-166), 3), (278, .iinc 4 1, 3), (281, .goto (-187), 3), (284, .aload_n 0, 1), (285, .invokevirtual 64, 3), (288, .astore_n 2, 1), (289, .aload_n 0, 1), (290, .getfield 29, 3), (293, .astore_n 3, 1), (294, .aload_n 3, 1), (295, .arraylength, 1), (296, .istore 4, 2), (298, .iconst 0, 1), (299, .istore 5, 2), (301, .iload 5, 2), (303, .iload 4, 2), (305, .if_icmp .ge 174, 3), (308, .aload_n 3, 1), (309, .iload 5, 2), (311, .aaload, 1), (312, .astore 6, 2), (314, .aload_n 2, 1), (315, .aload 6, 2), (317, .getfield 68, 3), (320, .aaload, 1), (321, .aload 6, 2), (323, .getfield 71, 3), (326, .baload, 1), (327, .ifCond .eq 14, 3), (330, .aload 6, 2), (332, .dup, 1), (333, .getfield 98, 3), (336, .iconst 1, 1), (337, .iadd, 1), (338, .putfield 98, 3)]
theorem dTX7_pass_2_ok : ∀ (k : Nat) (q : Nat × Instr × Nat), dTX7_pass_2[k]? = some q → decode cX7_pass q.1 = .ok q.2 := dT_of (by decide +kernel)
theorem dX7_pass_220 : decode cX7_pass 220 = .ok (.aload 5, 2) := dTX7_pass_2_ok 0 (220, .aload 5, 2) rfl
theorem dX7_pass_222 : decode cX7_pass 222 = .ok (.getfield 71, 3) := dTX7_pass_2_ok 1 (222, .getfield 71, 3) rfl
theorem dX7_pass_225 : decode cX7_pass 225 = .ok (.iload 9, 2) := dTX7_pass_2_ok 2 (225, .iload 9, 2) rfl
theorem dX7_pass_227 : decode cX7_pass 227 = .ok (.invokestatic 53, 3) := dTX7_pass_2_ok 3 (227, .invokestatic 53, 3) rfl
theorem dX7_pass_230 : decode cX7_pass 230 = .ok (.iadd, 1) := dTX7_pass_2_ok 4 (230, .iadd, 1) rfl
theorem dX7_pass_231 : decode cX7_pass 231 = .ok (.invokestatic 56, 3) := dTX7_pass_2_ok 5 (231, .invokestatic 56, 3) rfl
theorem dX7_pass_234 : decode cX7_pass 234 = .ok (.ifCond .eq 32, 3) := dTX7_pass_2_ok 6 (234, .ifCond .eq 32, 3) rfl
theorem dX7_pass_237 : decode cX7_pass 237 = .ok (.aload_n 0, 1) := dTX7_pass_2_ok 7 (237, .aload_n 0, 1) rfl
theorem dX7_pass_238 : decode cX7_pass 238 = .ok (.getfield 24, 3) := dTX7_pass_2_ok 8 (238, .getfield 24, 3) rfl
theorem dX7_pass_241 : decode cX7_pass 241 = .ok (.aload 5, 2) := dTX7_pass_2_ok 9 (241, .aload 5, 2) rfl
theorem dX7_pass_243 : decode cX7_pass 243 = .ok (.getfield 68, 3) := dTX7_pass_2_ok 10 (243, .getfield 68, 3) rfl
theorem dX7_pass_246 : decode cX7_pass 246 = .ok (.iload 9, 2) := dTX7_pass_2_ok 11 (246, .iload 9, 2) rfl
theorem dX7_pass_248 : decode cX7_pass 248 = .ok (.invokestatic 49, 3) := dTX7_pass_2_ok 12 (248, .invokestatic 49, 3) rfl
theorem dX7_pass_251 : decode cX7_pass 251 = .ok (.iadd, 1) := dTX7_pass_2_ok 13 (251, .iadd, 1) rfl
theorem dX7_pass_252 : decode cX7_pass 252 = .ok (.aaload, 1) := dTX7_pass_2_ok 14 (252, .aaload, 1) rfl
theorem dX7_pass_253 : decode cX7_pass 253 = .ok (.aload 5, 2) := dTX7_pass_2_ok 15 (253, .aload 5, 2) rfl
theorem dX7_pass_255 : decode cX7_pass 255 = .ok (.getfield 71, 3) := dTX7_pass_2_ok 16 (255, .getfield 71, 3) rfl
theorem dX7_pass_258 : decode cX7_pass 258 = .ok (.iload 9, 2) := dTX7_pass_2_ok 17 (258, .iload 9, 2) rfl
theorem dX7_pass_260 : decode cX7_pass 260 = .ok (.invokestatic 53, 3) := dTX7_pass_2_ok 18 (260, .invokestatic 53, 3) rfl
theorem dX7_pass_263 : decode cX7_pass 263 = .ok (.iadd, 1) := dTX7_pass_2_ok 19 (263, .iadd, 1) rfl
theorem dX7_pass_264 : decode cX7_pass 264 = .ok (.iconst 0, 1) := dTX7_pass_2_ok 20 (264, .iconst 0, 1) rfl
theorem dX7_pass_265 : decode cX7_pass 265 = .ok (.bastore, 1) := dTX7_pass_2_ok 21 (265, .bastore, 1) rfl
theorem dX7_pass_266 : decode cX7_pass 266 = .ok (.iinc 9 1, 3) := dTX7_pass_2_ok 22 (266, .iinc 9 1, 3) rfl
theorem dX7_pass_269 : decode cX7_pass 269 = .ok (.goto (-66), 3) := dTX7_pass_2_ok 23 (269, .goto (-66), 3) rfl
theorem dX7_pass_272 : decode cX7_pass 272 = .ok (.iinc 6 1, 3) := dTX7_pass_2_ok 24 (272, .iinc 6 1, 3) rfl
theorem dX7_pass_275 : decode cX7_pass 275 = .ok (.goto (-166), 3) := dTX7_pass_2_ok 25 (275, .goto (-166), 3) rfl
theorem dX7_pass_278 : decode cX7_pass 278 = .ok (.iinc 4 1, 3) := dTX7_pass_2_ok 26 (278, .iinc 4 1, 3) rfl
theorem dX7_pass_281 : decode cX7_pass 281 = .ok (.goto (-187), 3) := dTX7_pass_2_ok 27 (281, .goto (-187), 3) rfl
theorem dX7_pass_284 : decode cX7_pass 284 = .ok (.aload_n 0, 1) := dTX7_pass_2_ok 28 (284, .aload_n 0, 1) rfl
theorem dX7_pass_285 : decode cX7_pass 285 = .ok (.invokevirtual 64, 3) := dTX7_pass_2_ok 29 (285, .invokevirtual 64, 3) rfl
theorem dX7_pass_288 : decode cX7_pass 288 = .ok (.astore_n 2, 1) := dTX7_pass_2_ok 30 (288, .astore_n 2, 1) rfl
theorem dX7_pass_289 : decode cX7_pass 289 = .ok (.aload_n 0, 1) := dTX7_pass_2_ok 31 (289, .aload_n 0, 1) rfl
theorem dX7_pass_290 : decode cX7_pass 290 = .ok (.getfield 29, 3) := dTX7_pass_2_ok 32 (290, .getfield 29, 3) rfl
theorem dX7_pass_293 : decode cX7_pass 293 = .ok (.astore_n 3, 1) := dTX7_pass_2_ok 33 (293, .astore_n 3, 1) rfl
theorem dX7_pass_294 : decode cX7_pass 294 = .ok (.aload_n 3, 1) := dTX7_pass_2_ok 34 (294, .aload_n 3, 1) rfl
theorem dX7_pass_295 : decode cX7_pass 295 = .ok (.arraylength, 1) := dTX7_pass_2_ok 35 (295, .arraylength, 1) rfl
theorem dX7_pass_296 : decode cX7_pass 296 = .ok (.istore 4, 2) := dTX7_pass_2_ok 36 (296, .istore 4, 2) rfl
theorem dX7_pass_298 : decode cX7_pass 298 = .ok (.iconst 0, 1) := dTX7_pass_2_ok 37 (298, .iconst 0, 1) rfl
theorem dX7_pass_299 : decode cX7_pass 299 = .ok (.istore 5, 2) := dTX7_pass_2_ok 38 (299, .istore 5, 2) rfl
theorem dX7_pass_301 : decode cX7_pass 301 = .ok (.iload 5, 2) := dTX7_pass_2_ok 39 (301, .iload 5, 2) rfl
theorem dX7_pass_303 : decode cX7_pass 303 = .ok (.iload 4, 2) := dTX7_pass_2_ok 40 (303, .iload 4, 2) rfl
theorem dX7_pass_305 : decode cX7_pass 305 = .ok (.if_icmp .ge 174, 3) := dTX7_pass_2_ok 41 (305, .if_icmp .ge 174, 3) rfl
theorem dX7_pass_308 : decode cX7_pass 308 = .ok (.aload_n 3, 1) := dTX7_pass_2_ok 42 (308, .aload_n 3, 1) rfl
theorem dX7_pass_309 : decode cX7_pass 309 = .ok (.iload 5, 2) := dTX7_pass_2_ok 43 (309, .iload 5, 2) rfl
theorem dX7_pass_311 : decode cX7_pass 311 = .ok (.aaload, 1) := dTX7_pass_2_ok 44 (311, .aaload, 1) rfl
theorem dX7_pass_312 : decode cX7_pass 312 = .ok (.astore 6, 2) := dTX7_pass_2_ok 45 (312, .astore 6, 2) rfl
theorem dX7_pass_314 : decode cX7_pass 314 = .ok (.aload_n 2, 1) := dTX7_pass_2_ok 46 (314, .aload_n 2, 1) rfl
theorem dX7_pass_315 : decode cX7_pass 315 = .ok (.aload 6, 2) := dTX7_pass_2_ok 47 (315, .aload 6, 2) rfl
theorem dX7_pass_317 : decode cX7_pass 317 = .ok (.getfield 68, 3) := dTX7_pass_2_ok 48 (317, .getfield 68, 3) rfl
theorem dX7_pass_320 : decode cX7_pass 320 = .ok (.aaload, 1) := dTX7_pass_2_ok 49 (320, .aaload, 1) rfl
theorem dX7_pass_321 : decode cX7_pass 321 = .ok (.aload 6, 2) := dTX7_pass_2_ok 50 (321, .aload 6, 2) rfl
theorem dX7_pass_323 : decode cX7_pass 323 = .ok (.getfield 71, 3) := dTX7_pass_2_ok 51 (323, .getfield 71, 3) rfl
theorem dX7_pass_326 : decode cX7_pass 326 = .ok (.baload, 1) := dTX7_pass_2_ok 52 (326, .baload, 1) rfl
theorem dX7_pass_327 : decode cX7_pass 327 = .ok (.ifCond .eq 14, 3) := dTX7_pass_2_ok 53 (327, .ifCond .eq 14, 3) rfl
theorem dX7_pass_330 : decode cX7_pass 330 = .ok (.aload 6, 2) := dTX7_pass_2_ok 54 (330, .aload 6, 2) rfl
theorem dX7_pass_332 : decode cX7_pass 332 = .ok (.dup, 1) := dTX7_pass_2_ok 55 (332, .dup, 1) rfl
theorem dX7_pass_333 : decode cX7_pass 333 = .ok (.getfield 98, 3) := dTX7_pass_2_ok 56 (333, .getfield 98, 3) rfl
theorem dX7_pass_336 : decode cX7_pass 336 = .ok (.iconst 1, 1) := dTX7_pass_2_ok 57 (336, .iconst 1, 1) rfl
theorem dX7_pass_337 : decode cX7_pass 337 = .ok (.iadd, 1) := dTX7_pass_2_ok 58 (337, .iadd, 1) rfl
theorem dX7_pass_338 : decode cX7_pass 338 = .ok (.putfield 98, 3) := dTX7_pass_2_ok 59 (338, .putfield 98, 3) rfl
noncomputable def dTX7_pass_3 : List (Nat × Instr × Nat) := [(341, .aload_n 2, 1), (342, .aload 6, 2), (344, .getfield 68, 3), (347, .aaload, 1), (348, .aload 6, 2), (350, .getfield 71, 3), (353, .baload, 1), (354, .ifCond .ne 119, 3), (357, .aload_n 0, 1), (358, .getfield 16, 3), (361, .aload 6, 2), (363, .getfield 68, 3), (366, .aaload, 1), (367, .aload 6, 2), (369, .getfield 71, 3), (372, .iaload, 1), (373, .iconst 4, 1), (374, .if_icmp .eq 6, 3), (377, .goto 96, 3), (380, .aload_n 0, 1), (381, .getfield 19, 3), (384, .aload 6, 2), (386, .getfield 68, 3), (389, .aaload, 1), (390, .aload 6, 2), (392, .getfield 71, 3), (395, .iaload, 1), (396, .iconst 1, 1), (397, .iadd, 1), (398, .istore 7, 2), (400, .iload 7, 2), (402, .bipush 100, 2), (404, .if_icmp .ne 6, 3), (407, .iconst 0, 1), (408, .istore 7, 2), (410, .iload 7, 2), (412, .bipush 13, 2), (414, .irem, 1), (415, .ifCond .ne 19, 3), (418, .iload 7, 2), (420, .bipush 10, 2), (422, .idiv, 1), (423, .bipush 10, 2), (425, .iload 7, 2), (427, .bipush 10, 2), (429, .irem, 1), (430, .imul, 1), (431, .iadd, 1), (432, .istore 7, 2), (434, .aload_n 0, 1), (435, .getfield 19, 3), (438, .aload 6, 2), (440, .getfield 68, 3), (443, .aaload, 1), (444, .aload 6, 2), (446, .getfield 71, 3), (449, .iload 7, 2), (451, .iastore, 1), (452, .aload 6, 2), (454, .dup, 1)]
theorem dTX7_pass_3_ok : ∀ (k : Nat) (q : Nat × Instr × Nat), dTX7_pass_3[k]? = some q → decode cX7_pass q.1 = .ok q.2 := dT_of (by decide +kernel)
theorem dX7_pass_341 : decode cX7_pass 341 = .ok (.aload_n 2, 1) := dTX7_pass_3_ok 0 (341, .aload_n 2, 1) rfl
theorem dX7_pass_342 : decode cX7_pass 342 = .ok (.aload 6, 2) := dTX7_pass_3_ok 1 (342, .aload 6, 2) rfl
theorem dX7_pass_344 : decode cX7_pass 344 = .ok (.getfield 68, 3) := dTX7_pass_3_ok 2 (344, .getfield 68, 3) rfl
theorem dX7_pass_347 : decode cX7_pass 347 = .ok (.aaload, 1) := dTX7_pass_3_ok 3 (347, .aaload, 1) rfl
theorem dX7_pass_348 : decode cX7_pass 348 = .ok (.aload 6, 2) := dTX7_pass_3_ok 4 (348, .aload 6, 2) rfl
theorem dX7_pass_350 : decode cX7_pass 350 = .ok (.getfield 71, 3) := dTX7_pass_3_ok 5 (350, .getfield 71, 3) rfl
theorem dX7_pass_353 : decode cX7_pass 353 = .ok (.baload, 1) := dTX7_pass_3_ok 6 (353, .baload, 1) rfl
theorem dX7_pass_354 : decode cX7_pass 354 = .ok (.ifCond .ne 119, 3) := dTX7_pass_3_ok 7 (354, .ifCond .ne 119, 3) rfl
theorem dX7_pass_357 : decode cX7_pass 357 = .ok (.aload_n 0, 1) := dTX7_pass_3_ok 8 (357, .aload_n 0, 1) rfl
theorem dX7_pass_358 : decode cX7_pass 358 = .ok (.getfield 16, 3) := dTX7_pass_3_ok 9 (358, .getfield 16, 3) rfl
theorem dX7_pass_361 : decode cX7_pass 361 = .ok (.aload 6, 2) := dTX7_pass_3_ok 10 (361, .aload 6, 2) rfl
theorem dX7_pass_363 : decode cX7_pass 363 = .ok (.getfield 68, 3) := dTX7_pass_3_ok 11 (363, .getfield 68, 3) rfl
theorem dX7_pass_366 : decode cX7_pass 366 = .ok (.aaload, 1) := dTX7_pass_3_ok 12 (366, .aaload, 1) rfl
theorem dX7_pass_367 : decode cX7_pass 367 = .ok (.aload 6, 2) := dTX7_pass_3_ok 13 (367, .aload 6, 2) rfl
theorem dX7_pass_369 : decode cX7_pass 369 = .ok (.getfield 71, 3) := dTX7_pass_3_ok 14 (369, .getfield 71, 3) rfl
theorem dX7_pass_372 : decode cX7_pass 372 = .ok (.iaload, 1) := dTX7_pass_3_ok 15 (372, .iaload, 1) rfl
theorem dX7_pass_373 : decode cX7_pass 373 = .ok (.iconst 4, 1) := dTX7_pass_3_ok 16 (373, .iconst 4, 1) rfl
theorem dX7_pass_374 : decode cX7_pass 374 = .ok (.if_icmp .eq 6, 3) := dTX7_pass_3_ok 17 (374, .if_icmp .eq 6, 3) rfl
theorem dX7_pass_377 : decode cX7_pass 377 = .ok (.goto 96, 3) := dTX7_pass_3_ok 18 (377, .goto 96, 3) rfl
theorem dX7_pass_380 : decode cX7_pass 380 = .ok (.aload_n 0, 1) := dTX7_pass_3_ok 19 (380, .aload_n 0, 1) rfl
theorem dX7_pass_381 : decode cX7_pass 381 = .ok (.getfield 19, 3) := dTX7_pass_3_ok 20 (381, .getfield 19, 3) rfl
theorem dX7_pass_384 : decode cX7_pass 384 = .ok (.aload 6, 2) := dTX7_pass_3_ok 21 (384, .aload 6, 2) rfl
theorem dX7_pass_386 : decode cX7_pass 386 = .ok (.getfield 68, 3) := dTX7_pass_3_ok 22 (386, .getfield 68, 3) rfl
theorem dX7_pass_389 : decode cX7_pass 389 = .ok (.aaload, 1) := dTX7_pass_3_ok 23 (389, .aaload, 1) rfl
theorem dX7_pass_390 : decode cX7_pass 390 = .ok (.aload 6, 2) := dTX7_pass_3_ok 24 (390, .aload 6, 2) rfl
theorem dX7_pass_392 : decode cX7_pass 392 = .ok (.getfield 71, 3) := dTX7_pass_3_ok 25 (392, .getfield 71, 3) rfl
theorem dX7_pass_395 : decode cX7_pass 395 = .ok (.iaload, 1) := dTX7_pass_3_ok 26 (395, .iaload, 1) rfl
theorem dX7_pass_396 : decode cX7_pass 396 = .ok (.iconst 1, 1) := dTX7_pass_3_ok 27 (396, .iconst 1, 1) rfl
theorem dX7_pass_397 : decode cX7_pass 397 = .ok (.iadd, 1) := dTX7_pass_3_ok 28 (397, .iadd, 1) rfl
theorem dX7_pass_398 : decode cX7_pass 398 = .ok (.istore 7, 2) := dTX7_pass_3_ok 29 (398, .istore 7, 2) rfl
theorem dX7_pass_400 : decode cX7_pass 400 = .ok (.iload 7, 2) := dTX7_pass_3_ok 30 (400, .iload 7, 2) rfl
theorem dX7_pass_402 : decode cX7_pass 402 = .ok (.bipush 100, 2) := dTX7_pass_3_ok 31 (402, .bipush 100, 2) rfl
theorem dX7_pass_404 : decode cX7_pass 404 = .ok (.if_icmp .ne 6, 3) := dTX7_pass_3_ok 32 (404, .if_icmp .ne 6, 3) rfl
theorem dX7_pass_407 : decode cX7_pass 407 = .ok (.iconst 0, 1) := dTX7_pass_3_ok 33 (407, .iconst 0, 1) rfl
theorem dX7_pass_408 : decode cX7_pass 408 = .ok (.istore 7, 2) := dTX7_pass_3_ok 34 (408, .istore 7, 2) rfl
theorem dX7_pass_410 : decode cX7_pass 410 = .ok (.iload 7, 2) := dTX7_pass_3_ok 35 (410, .iload 7, 2) rfl
theorem dX7_pass_412 : decode cX7_pass 412 = .ok (.bipush 13, 2) := dTX7_pass_3_ok 36 (412, .bipush 13, 2) rfl
theorem dX7_pass_414 : decode cX7_pass 414 = .ok (.irem, 1) := dTX7_pass_3_ok 37 (414, .irem, 1) rfl
theorem dX7_pass_415 : decode cX7_pass 415 = .ok (.ifCond .ne 19, 3) := dTX7_pass_3_ok 38 (415, .ifCond .ne 19, 3) rfl
theorem dX7_pass_418 : decode cX7_pass 418 = .ok (.iload 7, 2) := dTX7_pass_3_ok 39 (418, .iload 7, 2) rfl
theorem dX7_pass_420 : decode cX7_pass 420 = .ok (.bipush 10, 2) := dTX7_pass_3_ok 40 (420, .bipush 10, 2) rfl
theorem dX7_pass_422 : decode cX7_pass 422 = .ok (.idiv, 1) := dTX7_pass_3_ok 41 (422, .idiv, 1) rfl
theorem dX7_pass_423 : decode cX7_pass 423 = .ok (.bipush 10, 2) := dTX7_pass_3_ok 42 (423, .bipush 10, 2) rfl
theorem dX7_pass_425 : decode cX7_pass 425 = .ok (.iload 7, 2) := dTX7_pass_3_ok 43 (425, .iload 7, 2) rfl
theorem dX7_pass_427 : decode cX7_pass 427 = .ok (.bipush 10, 2) := dTX7_pass_3_ok 44 (427, .bipush 10, 2) rfl
theorem dX7_pass_429 : decode cX7_pass 429 = .ok (.irem, 1) := dTX7_pass_3_ok 45 (429, .irem, 1) rfl
theorem dX7_pass_430 : decode cX7_pass 430 = .ok (.imul, 1) := dTX7_pass_3_ok 46 (430, .imul, 1) rfl
theorem dX7_pass_431 : decode cX7_pass 431 = .ok (.iadd, 1) := dTX7_pass_3_ok 47 (431, .iadd, 1) rfl
theorem dX7_pass_432 : decode cX7_pass 432 = .ok (.istore 7, 2) := dTX7_pass_3_ok 48 (432, .istore 7, 2) rfl
theorem dX7_pass_434 : decode cX7_pass 434 = .ok (.aload_n 0, 1) := dTX7_pass_3_ok 49 (434, .aload_n 0, 1) rfl
theorem dX7_pass_435 : decode cX7_pass 435 = .ok (.getfield 19, 3) := dTX7_pass_3_ok 50 (435, .getfield 19, 3) rfl
theorem dX7_pass_438 : decode cX7_pass 438 = .ok (.aload 6, 2) := dTX7_pass_3_ok 51 (438, .aload 6, 2) rfl
theorem dX7_pass_440 : decode cX7_pass 440 = .ok (.getfield 68, 3) := dTX7_pass_3_ok 52 (440, .getfield 68, 3) rfl
theorem dX7_pass_443 : decode cX7_pass 443 = .ok (.aaload, 1) := dTX7_pass_3_ok 53 (443, .aaload, 1) rfl
theorem dX7_pass_444 : decode cX7_pass 444 = .ok (.aload 6, 2) := dTX7_pass_3_ok 54 (444, .aload 6, 2) rfl
theorem dX7_pass_446 : decode cX7_pass 446 = .ok (.getfield 71, 3) := dTX7_pass_3_ok 55 (446, .getfield 71, 3) rfl
theorem dX7_pass_449 : decode cX7_pass 449 = .ok (.iload 7, 2) := dTX7_pass_3_ok 56 (449, .iload 7, 2) rfl
theorem dX7_pass_451 : decode cX7_pass 451 = .ok (.iastore, 1) := dTX7_pass_3_ok 57 (451, .iastore, 1) rfl
theorem dX7_pass_452 : decode cX7_pass 452 = .ok (.aload 6, 2) := dTX7_pass_3_ok 58 (452, .aload 6, 2) rfl
theorem dX7_pass_454 : decode cX7_pass 454 = .ok (.dup, 1) := dTX7_pass_3_ok 59 (454, .dup, 1) rfl
noncomputable def dTX7_pass_4 : List (Nat × Instr × Nat) := [(455, .getfield 101, 3), (458, .iconst 1, 1), (459, .iadd, 1), (460, .putfield 101, 3), (463, .aload_n 0, 1), (464, .dup, 1), (465, .getfield 88, 3), (468, .iconst 1, 1), (469, .iadd, 1), (470, .putfield 88, 3), (473, .iinc 5 1, 3), (476, .goto (-175), 3), (479, .aload_n 0, 1), (480, .dup, 1), (481, .getfield 45, 3), (484, .iconst 1, 1), (485, .iadd, 1), (486, .putfield 45, 3), (489, .aload_n 0, 1), (490, .getfield 88, 3), (493, .iload_n 1, 1), (494, .isub, 1), (495, .ireturn, 1)]
theorem dTX7_pass_4_ok : ∀ (k : Nat) (q : Nat × Instr × Nat), dTX7_pass_4[k]? = some q → decode cX7_pass q.1 = .ok q.2 := dT_of (by decide +kernel)
theorem dX7_pass_455 : decode cX7_pass 455 = .ok (.getfield 101, 3) := dTX7_pass_4_ok 0 (455, .getfield 101, 3) rfl
theorem dX7_pass_458 : decode cX7_pass 458 = .ok (.iconst 1, 1) := dTX7_pass_4_ok 1 (458, .iconst 1, 1) rfl
theorem dX7_pass_459 : decode cX7_pass 459 = .ok (.iadd, 1) := dTX7_pass_4_ok 2 (459, .iadd, 1) rfl
theorem dX7_pass_460 : decode cX7_pass 460 = .ok (.putfield 101, 3) := dTX7_pass_4_ok 3 (460, .putfield 101, 3) rfl
theorem dX7_pass_463 : decode cX7_pass 463 = .ok (.aload_n 0, 1) := dTX7_pass_4_ok 4 (463, .aload_n 0, 1) rfl
theorem dX7_pass_464 : decode cX7_pass 464 = .ok (.dup, 1) := dTX7_pass_4_ok 5 (464, .dup, 1) rfl
theorem dX7_pass_465 : decode cX7_pass 465 = .ok (.getfield 88, 3) := dTX7_pass_4_ok 6 (465, .getfield 88, 3) rfl
theorem dX7_pass_468 : decode cX7_pass 468 = .ok (.iconst 1, 1) := dTX7_pass_4_ok 7 (468, .iconst 1, 1) rfl
theorem dX7_pass_469 : decode cX7_pass 469 = .ok (.iadd, 1) := dTX7_pass_4_ok 8 (469, .iadd, 1) rfl
theorem dX7_pass_470 : decode cX7_pass 470 = .ok (.putfield 88, 3) := dTX7_pass_4_ok 9 (470, .putfield 88, 3) rfl
theorem dX7_pass_473 : decode cX7_pass 473 = .ok (.iinc 5 1, 3) := dTX7_pass_4_ok 10 (473, .iinc 5 1, 3) rfl
theorem dX7_pass_476 : decode cX7_pass 476 = .ok (.goto (-175), 3) := dTX7_pass_4_ok 11 (476, .goto (-175), 3) rfl
theorem dX7_pass_479 : decode cX7_pass 479 = .ok (.aload_n 0, 1) := dTX7_pass_4_ok 12 (479, .aload_n 0, 1) rfl
theorem dX7_pass_480 : decode cX7_pass 480 = .ok (.dup, 1) := dTX7_pass_4_ok 13 (480, .dup, 1) rfl
theorem dX7_pass_481 : decode cX7_pass 481 = .ok (.getfield 45, 3) := dTX7_pass_4_ok 14 (481, .getfield 45, 3) rfl
theorem dX7_pass_484 : decode cX7_pass 484 = .ok (.iconst 1, 1) := dTX7_pass_4_ok 15 (484, .iconst 1, 1) rfl
theorem dX7_pass_485 : decode cX7_pass 485 = .ok (.iadd, 1) := dTX7_pass_4_ok 16 (485, .iadd, 1) rfl
theorem dX7_pass_486 : decode cX7_pass 486 = .ok (.putfield 45, 3) := dTX7_pass_4_ok 17 (486, .putfield 45, 3) rfl
theorem dX7_pass_489 : decode cX7_pass 489 = .ok (.aload_n 0, 1) := dTX7_pass_4_ok 18 (489, .aload_n 0, 1) rfl
theorem dX7_pass_490 : decode cX7_pass 490 = .ok (.getfield 88, 3) := dTX7_pass_4_ok 19 (490, .getfield 88, 3) rfl
theorem dX7_pass_493 : decode cX7_pass 493 = .ok (.iload_n 1, 1) := dTX7_pass_4_ok 20 (493, .iload_n 1, 1) rfl
theorem dX7_pass_494 : decode cX7_pass 494 = .ok (.isub, 1) := dTX7_pass_4_ok 21 (494, .isub, 1) rfl
theorem dX7_pass_495 : decode cX7_pass 495 = .ok (.ireturn, 1) := dTX7_pass_4_ok 22 (495, .ireturn, 1) rfl
noncomputable def dTX7_burning_0 : List (Nat × Instr × Nat) := [(0, .iconst 0, 1), (1, .istore_n 1, 1), (2, .iconst 0, 1), (3, .istore_n 2, 1), (4, .iload_n 2, 1), (5, .bipush 9, 2), (7, .if_icmp .ge 42, 3), (10, .iconst 0, 1), (11, .istore_n 3, 1), (12, .iload_n 3, 1), (13, .bipush 7, 2), (15, .if_icmp .ge 28, 3), (18, .iload_n 1, 1), (19, .aload_n 0, 1), (20, .getfield 24, 3), (23, .iload_n 2, 1), (24, .aaload, 1), (25, .iload_n 3, 1), (26, .baload, 1), (27, .ifCond .eq 7, 3), (30, .iconst 1, 1), (31, .goto 4, 3), (34, .iconst 0, 1), (35, .iadd, 1), (36, .istore_n 1, 1), (37, .iinc 3 1, 3), (40, .goto (-28), 3), (43, .iinc 2 1, 3), (46, .goto (-42), 3), (49, .iload_n 1, 1), (50, .ireturn, 1)]
theorem dTX7_burning_0_ok : ∀ (k : Nat) (q : Nat × Instr × Nat), dTX7_burning_0[k]? = some q → decode cX7_burning q.1 = .ok q.2 := dT_of (by decide +kernel)
theorem dX7_burning_0 : decode cX7_burning 0 = .ok (.iconst 0, 1) := dTX7_burning_0_ok 0 (0, .iconst 0, 1) rfl
theorem dX7_burning_1 : decode cX7_burning 1 = .ok (.istore_n 1, 1) := dTX7_burning_0_ok 1 (1, .istore_n 1, 1) rfl
theorem dX7_burning_2 : decode cX7_burning 2 = .ok (.iconst 0, 1) := dTX7_burning_0_ok 2 (2, .iconst 0, 1) rfl
theorem dX7_burning_3 : decode cX7_burning 3 = .ok (.istore_n 2, 1) := dTX7_burning_0_ok 3 (3, .istore_n 2, 1) rfl
theorem dX7_burning_4 : decode cX7_burning 4 = .ok (.iload_n 2, 1) := dTX7_burning_0_ok 4 (4, .iload_n 2, 1) rfl
theorem dX7_burning_5 : decode cX7_burning 5 = .ok (.bipush 9, 2) := dTX7_burning_0_ok 5 (5, .bipush 9, 2) rfl
theorem dX7_burning_7 : decode cX7_burning 7 = .ok (.if_icmp .ge 42, 3) := dTX7_burning_0_ok 6 (7, .if_icmp .ge 42, 3) rfl
theorem dX7_burning_10 : decode cX7_burning 10 = .ok (.iconst 0, 1) := dTX7_burning_0_ok 7 (10, .iconst 0, 1) rfl
theorem dX7_burning_11 : decode cX7_burning 11 = .ok (.istore_n 3, 1) := dTX7_burning_0_ok 8 (11, .istore_n 3, 1) rfl
theorem dX7_burning_12 : decode cX7_burning 12 = .ok (.iload_n 3, 1) := dTX7_burning_0_ok 9 (12, .iload_n 3, 1) rfl
theorem dX7_burning_13 : decode cX7_burning 13 = .ok (.bipush 7, 2) := dTX7_burning_0_ok 10 (13, .bipush 7, 2) rfl
theorem dX7_burning_15 : decode cX7_burning 15 = .ok (.if_icmp .ge 28, 3) := dTX7_burning_0_ok 11 (15, .if_icmp .ge 28, 3) rfl
theorem dX7_burning_18 : decode cX7_burning 18 = .ok (.iload_n 1, 1) := dTX7_burning_0_ok 12 (18, .iload_n 1, 1) rfl
theorem dX7_burning_19 : decode cX7_burning 19 = .ok (.aload_n 0, 1) := dTX7_burning_0_ok 13 (19, .aload_n 0, 1) rfl
theorem dX7_burning_20 : decode cX7_burning 20 = .ok (.getfield 24, 3) := dTX7_burning_0_ok 14 (20, .getfield 24, 3) rfl
theorem dX7_burning_23 : decode cX7_burning 23 = .ok (.iload_n 2, 1) := dTX7_burning_0_ok 15 (23, .iload_n 2, 1) rfl
theorem dX7_burning_24 : decode cX7_burning 24 = .ok (.aaload, 1) := dTX7_burning_0_ok 16 (24, .aaload, 1) rfl
theorem dX7_burning_25 : decode cX7_burning 25 = .ok (.iload_n 3, 1) := dTX7_burning_0_ok 17 (25, .iload_n 3, 1) rfl
theorem dX7_burning_26 : decode cX7_burning 26 = .ok (.baload, 1) := dTX7_burning_0_ok 18 (26, .baload, 1) rfl
theorem dX7_burning_27 : decode cX7_burning 27 = .ok (.ifCond .eq 7, 3) := dTX7_burning_0_ok 19 (27, .ifCond .eq 7, 3) rfl
theorem dX7_burning_30 : decode cX7_burning 30 = .ok (.iconst 1, 1) := dTX7_burning_0_ok 20 (30, .iconst 1, 1) rfl
theorem dX7_burning_31 : decode cX7_burning 31 = .ok (.goto 4, 3) := dTX7_burning_0_ok 21 (31, .goto 4, 3) rfl
theorem dX7_burning_34 : decode cX7_burning 34 = .ok (.iconst 0, 1) := dTX7_burning_0_ok 22 (34, .iconst 0, 1) rfl
theorem dX7_burning_35 : decode cX7_burning 35 = .ok (.iadd, 1) := dTX7_burning_0_ok 23 (35, .iadd, 1) rfl
theorem dX7_burning_36 : decode cX7_burning 36 = .ok (.istore_n 1, 1) := dTX7_burning_0_ok 24 (36, .istore_n 1, 1) rfl
theorem dX7_burning_37 : decode cX7_burning 37 = .ok (.iinc 3 1, 3) := dTX7_burning_0_ok 25 (37, .iinc 3 1, 3) rfl
theorem dX7_burning_40 : decode cX7_burning 40 = .ok (.goto (-28), 3) := dTX7_burning_0_ok 26 (40, .goto (-28), 3) rfl
theorem dX7_burning_43 : decode cX7_burning 43 = .ok (.iinc 2 1, 3) := dTX7_burning_0_ok 27 (43, .iinc 2 1, 3) rfl
theorem dX7_burning_46 : decode cX7_burning 46 = .ok (.goto (-42), 3) := dTX7_burning_0_ok 28 (46, .goto (-42), 3) rfl
theorem dX7_burning_49 : decode cX7_burning 49 = .ok (.iload_n 1, 1) := dTX7_burning_0_ok 29 (49, .iload_n 1, 1) rfl
theorem dX7_burning_50 : decode cX7_burning 50 = .ok (.ireturn, 1) := dTX7_burning_0_ok 30 (50, .ireturn, 1) rfl
noncomputable def dTX7_isSame_0 : List (Nat × Instr × Nat) := [(0, .aload_n 0, 1), (1, .invokevirtual 64, 3), (4, .astore_n 2, 1), (5, .iconst 0, 1), (6, .istore_n 3, 1), (7, .iconst 0, 1), (8, .istore 4, 2), (10, .iconst 0, 1), (11, .istore 5, 2), (13, .iload 5, 2), (15, .bipush 9, 2), (17, .if_icmp .ge 332, 3), (20, .iconst 0, 1), (21, .istore 6, 2), (23, .iload 6, 2), (25, .bipush 7, 2), (27, .if_icmp .ge 316, 3), (30, .iconst 0, 1), (31, .istore 7, 2), (33, .aload_n 0, 1), (34, .getfield 29, 3), (37, .astore 8, 2), (39, .aload 8, 2), (41, .arraylength, 1), (42, .istore 9, 2), (44, .iconst 0, 1), (45, .istore 10, 2), (47, .iload 10, 2), (49, .iload 9, 2), (51, .if_icmp .ge 46, 3), (54, .aload 8, 2), (56, .iload 10, 2), (58, .aaload, 1), (59, .astore 11, 2), (61, .iload 7, 2), (63, .aload 11, 2), (65, .getfield 68, 3), (68, .iload 5, 2), (70, .if_icmp .ne 17, 3), (73, .aload 11, 2), (75, .getfield 71, 3), (78, .iload 6, 2), (80, .if_icmp .ne 7, 3), (83, .iconst 1, 1), (84, .goto 4, 3), (87, .iconst 0, 1), (88, .iadd, 1), (89, .istore 7, 2), (91, .iinc 10 1, 3), (94, .goto (-47), 3), (97, .iconst 5, 1), (98, .newarray .int, 2), (100, .dup, 1), (101, .iconst 0, 1), (102, .aload_n 0, 1), (103, .getfield 16, 3), (106, .iload 5, 2), (108, .aaload, 1), (109, .iload 6, 2), (111, .iaload, 1)]
theorem dTX7_isSame_0_ok : ∀ (k : Nat) (q : Nat × Instr × Nat), dTX7_isSame_0[k]? = some q → decode cX7_isSame q.1 = .ok q.2 := dT_of (by decide +kernel)
theorem dX7_isSame_0 : decode cX7_isSame 0 = .ok (.aload_n 0, 1) := dTX7_isSame_0_ok 0 (0, .aload_n 0, 1) rfl
theorem dX7_isSame_1 : decode cX7_isSame 1 = .ok (.invokevirtual 64, 3) := dTX7_isSame_0_ok 1 (1, .invokevirtual 64, 3) rfl
theorem dX7_isSame_4 : decode cX7_isSame 4 = .ok (.astore_n 2, 1) := dTX7_isSame_0_ok 2 (4, .astore_n 2, 1) rfl
theorem dX7_isSame_5 : decode cX7_isSame 5 = .ok (.iconst 0, 1) := dTX7_isSame_0_ok 3 (5, .iconst 0, 1) rfl
theorem dX7_isSame_6 : decode cX7_isSame 6 = .ok (.istore_n 3, 1) := dTX7_isSame_0_ok 4 (6, .istore_n 3, 1) rfl
theorem dX7_isSame_7 : decode cX7_isSame 7 = .ok (.iconst 0, 1) := dTX7_isSame_0_ok 5 (7, .iconst 0, 1) rfl
theorem dX7_isSame_8 : decode cX7_isSame 8 = .ok (.istore 4, 2) := dTX7_isSame_0_ok 6 (8, .istore 4, 2) rfl
theorem dX7_isSame_10 : decode cX7_isSame 10 = .ok (.iconst 0, 1) := dTX7_isSame_0_ok 7 (10, .iconst 0, 1) rfl
theorem dX7_isSame_11 : decode cX7_isSame 11 = .ok (.istore 5, 2) := dTX7_isSame_0_ok 8 (11, .istore 5, 2) rfl
theorem dX7_isSame_13 : decode cX7_isSame 13 = .ok (.iload 5, 2) := dTX7_isSame_0_ok 9 (13, .iload 5, 2) rfl
theorem dX7_isSame_15 : decode cX7_isSame 15 = .ok (.bipush 9, 2) := dTX7_isSame_0_ok 10 (15, .bipush 9, 2) rfl
theorem dX7_isSame_17 : decode cX7_isSame 17 = .ok (.if_icmp .ge 332, 3) := dTX7_isSame_0_ok 11 (17, .if_icmp .ge 332, 3) rfl
theorem dX7_isSame_20 : decode cX7_isSame 20 = .ok (.iconst 0, 1) := dTX7_isSame_0_ok 12 (20, .iconst 0, 1) rfl
theorem dX7_isSame_21 : decode cX7_isSame 21 = .ok (.istore 6, 2) := dTX7_isSame_0_ok 13 (21, .istore 6, 2) rfl
theorem dX7_isSame_23 : decode cX7_isSame 23 = .ok (.iload 6, 2) := dTX7_isSame_0_ok 14 (23, .iload 6, 2) rfl
theorem dX7_isSame_25 : decode cX7_isSame 25 = .ok (.bipush 7, 2) := dTX7_isSame_0_ok 15 (25, .bipush 7, 2) rfl
theorem dX7_isSame_27 : decode cX7_isSame 27 = .ok (.if_icmp .ge 316, 3) := dTX7_isSame_0_ok 16 (27, .if_icmp .ge 316, 3) rfl
theorem dX7_isSame_30 : decode cX7_isSame 30 = .ok (.iconst 0, 1) := dTX7_isSame_0_ok 17 (30, .iconst 0, 1) rfl
theorem dX7_isSame_31 : decode cX7_isSame 31 = .ok (.istore 7, 2) := dTX7_isSame_0_ok 18 (31, .istore 7, 2) rfl
theorem dX7_isSame_33 : decode cX7_isSame 33 = .ok (.aload_n 0, 1) := dTX7_isSame_0_ok 19 (33, .aload_n 0, 1) rfl
theorem dX7_isSame_34 : decode cX7_isSame 34 = .ok (.getfield 29, 3) := dTX7_isSame_0_ok 20 (34, .getfield 29, 3) rfl
theorem dX7_isSame_37 : decode cX7_isSame 37 = .ok (.astore 8, 2) := dTX7_isSame_0_ok 21 (37, .astore 8, 2) rfl
theorem dX7_isSame_39 : decode cX7_isSame 39 = .ok (.aload 8, 2) := dTX7_isSame_0_ok 22 (39, .aload 8, 2) rfl
theorem dX7_isSame_41 : decode cX7_isSame 41 = .ok (.arraylength, 1) := dTX7_isSame_0_ok 23 (41, .arraylength, 1) rfl
theorem dX7_isSame_42 : decode cX7_isSame 42 = .ok (.istore 9, 2) := dTX7_isSame_0_ok 24 (42, .istore 9, 2) rfl
theorem dX7_isSame_44 : decode cX7_isSame 44 = .ok (.iconst 0, 1) := dTX7_isSame_0_ok 25 (44, .iconst 0, 1) rfl
theorem dX7_isSame_45 : decode cX7_isSame 45 = .ok (.istore 10, 2) := dTX7_isSame_0_ok 26 (45, .istore 10, 2) rfl
theorem dX7_isSame_47 : decode cX7_isSame 47 = .ok (.iload 10, 2) := dTX7_isSame_0_ok 27 (47, .iload 10, 2) rfl
theorem dX7_isSame_49 : decode cX7_isSame 49 = .ok (.iload 9, 2) := dTX7_isSame_0_ok 28 (49, .iload 9, 2) rfl
theorem dX7_isSame_51 : decode cX7_isSame 51 = .ok (.if_icmp .ge 46, 3) := dTX7_isSame_0_ok 29 (51, .if_icmp .ge 46, 3) rfl
theorem dX7_isSame_54 : decode cX7_isSame 54 = .ok (.aload 8, 2) := dTX7_isSame_0_ok 30 (54, .aload 8, 2) rfl
theorem dX7_isSame_56 : decode cX7_isSame 56 = .ok (.iload 10, 2) := dTX7_isSame_0_ok 31 (56, .iload 10, 2) rfl
theorem dX7_isSame_58 : decode cX7_isSame 58 = .ok (.aaload, 1) := dTX7_isSame_0_ok 32 (58, .aaload, 1) rfl
theorem dX7_isSame_59 : decode cX7_isSame 59 = .ok (.astore 11, 2) := dTX7_isSame_0_ok 33 (59, .astore 11, 2) rfl
theorem dX7_isSame_61 : decode cX7_isSame 61 = .ok (.iload 7, 2) := dTX7_isSame_0_ok 34 (61, .iload 7, 2) rfl
theorem dX7_isSame_63 : decode cX7_isSame 63 = .ok (.aload 11, 2) := dTX7_isSame_0_ok 35 (63, .aload 11, 2) rfl
theorem dX7_isSame_65 : decode cX7_isSame 65 = .ok (.getfield 68, 3) := dTX7_isSame_0_ok 36 (65, .getfield 68, 3) rfl
theorem dX7_isSame_68 : decode cX7_isSame 68 = .ok (.iload 5, 2) := dTX7_isSame_0_ok 37 (68, .iload 5, 2) rfl
theorem dX7_isSame_70 : decode cX7_isSame 70 = .ok (.if_icmp .ne 17, 3) := dTX7_isSame_0_ok 38 (70, .if_icmp .ne 17, 3) rfl
theorem dX7_isSame_73 : decode cX7_isSame 73 = .ok (.aload 11, 2) := dTX7_isSame_0_ok 39 (73, .aload 11, 2) rfl
theorem dX7_isSame_75 : decode cX7_isSame 75 = .ok (.getfield 71, 3) := dTX7_isSame_0_ok 40 (75, .getfield 71, 3) rfl
theorem dX7_isSame_78 : decode cX7_isSame 78 = .ok (.iload 6, 2) := dTX7_isSame_0_ok 41 (78, .iload 6, 2) rfl
theorem dX7_isSame_80 : decode cX7_isSame 80 = .ok (.if_icmp .ne 7, 3) := dTX7_isSame_0_ok 42 (80, .if_icmp .ne 7, 3) rfl
theorem dX7_isSame_83 : decode cX7_isSame 83 = .ok (.iconst 1, 1) := dTX7_isSame_0_ok 43 (83, .iconst 1, 1) rfl
theorem dX7_isSame_84 : decode cX7_isSame 84 = .ok (.goto 4, 3) := dTX7_isSame_0_ok 44 (84, .goto 4, 3) rfl
theorem dX7_isSame_87 : decode cX7_isSame 87 = .ok (.iconst 0, 1) := dTX7_isSame_0_ok 45 (87, .iconst 0, 1) rfl
theorem dX7_isSame_88 : decode cX7_isSame 88 = .ok (.iadd, 1) := dTX7_isSame_0_ok 46 (88, .iadd, 1) rfl
theorem dX7_isSame_89 : decode cX7_isSame 89 = .ok (.istore 7, 2) := dTX7_isSame_0_ok 47 (89, .istore 7, 2) rfl
theorem dX7_isSame_91 : decode cX7_isSame 91 = .ok (.iinc 10 1, 3) := dTX7_isSame_0_ok 48 (91, .iinc 10 1, 3) rfl
theorem dX7_isSame_94 : decode cX7_isSame 94 = .ok (.goto (-47), 3) := dTX7_isSame_0_ok 49 (94, .goto (-47), 3) rfl
theorem dX7_isSame_97 : decode cX7_isSame 97 = .ok (.iconst 5, 1) := dTX7_isSame_0_ok 50 (97, .iconst 5, 1) rfl
theorem dX7_isSame_98 : decode cX7_isSame 98 = .ok (.newarray .int, 2) := dTX7_isSame_0_ok 51 (98, .newarray .int, 2) rfl
theorem dX7_isSame_100 : decode cX7_isSame 100 = .ok (.dup, 1) := dTX7_isSame_0_ok 52 (100, .dup, 1) rfl
theorem dX7_isSame_101 : decode cX7_isSame 101 = .ok (.iconst 0, 1) := dTX7_isSame_0_ok 53 (101, .iconst 0, 1) rfl
theorem dX7_isSame_102 : decode cX7_isSame 102 = .ok (.aload_n 0, 1) := dTX7_isSame_0_ok 54 (102, .aload_n 0, 1) rfl
theorem dX7_isSame_103 : decode cX7_isSame 103 = .ok (.getfield 16, 3) := dTX7_isSame_0_ok 55 (103, .getfield 16, 3) rfl
theorem dX7_isSame_106 : decode cX7_isSame 106 = .ok (.iload 5, 2) := dTX7_isSame_0_ok 56 (106, .iload 5, 2) rfl
theorem dX7_isSame_108 : decode cX7_isSame 108 = .ok (.aaload, 1) := dTX7_isSame_0_ok 57 (108, .aaload, 1) rfl
theorem dX7_isSame_109 : decode cX7_isSame 109 = .ok (.iload 6, 2) := dTX7_isSame_0_ok 58 (109, .iload 6, 2) rfl
theorem dX7_isSame_111 : decode cX7_isSame 111 = .ok (.iaload, 1) := dTX7_isSame_0_ok 59 (111, .iaload, 1) rfl
noncomputable def dTX7_isSame_1 : List (Nat × Instr × Nat) := [(112, .iastore, 1), (113, .dup, 1), (114, .iconst 1, 1), (115, .aload_n 0, 1), (116, .getfield 19, 3), (119, .iload 5, 2), (121, .aaload, 1), (122, .iload 6, 2), (124, .iaload, 1), (125, .iastore, 1), (126, .dup, 1), (127, .iconst 2, 1), (128, .aload_n 0, 1), (129, .getfield 24, 3), (132, .iload 5, 2), (134, .aaload, 1), (135, .iload 6, 2), (137, .baload, 1), (138, .ifCond .eq 7, 3), (141, .iconst 1, 1), (142, .goto 4, 3), (145, .iconst 0, 1), (146, .iastore, 1), (147, .dup, 1), (148, .iconst 3, 1), (149, .aload_n 2, 1), (150, .iload 5, 2), (152, .aaload, 1), (153, .iload 6, 2), (155, .baload, 1), (156, .ifCond .eq 7, 3), (159, .iconst 1, 1), (160, .goto 4, 3), (163, .iconst 0, 1), (164, .iastore, 1), (165, .dup, 1), (166, .iconst 4, 1), (167, .iload 7, 2), (169, .iastore, 1), (170, .astore 8, 2), (172, .iconst 0, 1), (173, .istore 9, 2), (175, .iload 9, 2), (177, .iconst 5, 1), (178, .if_icmp .ge 29, 3), (181, .aload_n 1, 1), (182, .iload 5, 2), (184, .iload 6, 2), (186, .iload 9, 2), (188, .invokevirtual 104, 3), (191, .aload 8, 2), (193, .iload 9, 2), (195, .iaload, 1), (196, .if_icmp .eq 5, 3), (199, .iconst 0, 1), (200, .ireturn, 1), (201, .iinc 9 1, 3), (204, .goto (-29), 3), (207, .iconst 0, 1), (208, .istore 9, 2)]
theorem dTX7_isSame_1_ok : ∀ (k : Nat) (q : Nat × Instr × Nat), dTX7_isSame_1[k]? = some q → decode cX7_isSame q.1 = .ok q.2 := dT_of (by decide +kernel)
theorem dX7_isSame_112 : decode cX7_isSame 112 = .ok (.iastore, 1) := dTX7_isSame_1_ok 0 (112, .iastore, 1) rfl
theorem dX7_isSame_113 : decode cX7_isSame 113 = .ok (.dup, 1) := dTX7_isSame_1_ok 1 (113, .dup, 1) rfl
theorem dX7_isSame_114 : decode cX7_isSame 114 = .ok (.iconst 1, 1) := dTX7_isSame_1_ok 2 (114, .iconst 1, 1) rfl
theorem dX7_isSame_115 : decode cX7_isSame 115 = .ok (.aload_n 0, 1) := dTX7_isSame_1_ok 3 (115, .aload_n 0, 1) rfl
theorem dX7_isSame_116 : decode cX7_isSame 116 = .ok (.getfield 19, 3) := dTX7_isSame_1_ok 4 (116, .getfield 19, 3) rfl
theorem dX7_isSame_119 : decode cX7_isSame 119 = .ok (.iload 5, 2) := dTX7_isSame_1_ok 5 (119, .iload 5, 2) rfl
theorem dX7_isSame_121 : decode cX7_isSame 121 = .ok (.aaload, 1) := dTX7_isSame_1_ok 6 (121, .aaload, 1) rfl
theorem dX7_isSame_122 : decode cX7_isSame 122 = .ok (.iload 6, 2) := dTX7_isSame_1_ok 7 (122, .iload 6, 2) rfl
theorem dX7_isSame_124 : decode cX7_isSame 124 = .ok (.iaload, 1) := dTX7_isSame_1_ok 8 (124, .iaload, 1) rfl
theorem dX7_isSame_125 : decode cX7_isSame 125 = .ok (.iastore, 1) := dTX7_isSame_1_ok 9 (125, .iastore, 1) rfl
theorem dX7_isSame_126 : decode cX7_isSame 126 = .ok (.dup, 1) := dTX7_isSame_1_ok 10 (126, .dup, 1) rfl
theorem dX7_isSame_127 : decode cX7_isSame 127 = .ok (.iconst 2, 1) := dTX7_isSame_1_ok 11 (127, .iconst 2, 1) rfl
theorem dX7_isSame_128 : decode cX7_isSame 128 = .ok (.aload_n 0, 1) := dTX7_isSame_1_ok 12 (128, .aload_n 0, 1) rfl
theorem dX7_isSame_129 : decode cX7_isSame 129 = .ok (.getfield 24, 3) := dTX7_isSame_1_ok 13 (129, .getfield 24, 3) rfl
theorem dX7_isSame_132 : decode cX7_isSame 132 = .ok (.iload 5, 2) := dTX7_isSame_1_ok 14 (132, .iload 5, 2) rfl
theorem dX7_isSame_134 : decode cX7_isSame 134 = .ok (.aaload, 1) := dTX7_isSame_1_ok 15 (134, .aaload, 1) rfl
theorem dX7_isSame_135 : decode cX7_isSame 135 = .ok (.iload 6, 2) := dTX7_isSame_1_ok 16 (135, .iload 6, 2) rfl
theorem dX7_isSame_137 : decode cX7_isSame 137 = .ok (.baload, 1) := dTX7_isSame_1_ok 17 (137, .baload, 1) rfl
theorem dX7_isSame_138 : decode cX7_isSame 138 = .ok (.ifCond .eq 7, 3) := dTX7_isSame_1_ok 18 (138, .ifCond .eq 7, 3) rfl
theorem dX7_isSame_141 : decode cX7_isSame 141 = .ok (.iconst 1, 1) := dTX7_isSame_1_ok 19 (141, .iconst 1, 1) rfl
theorem dX7_isSame_142 : decode cX7_isSame 142 = .ok (.goto 4, 3) := dTX7_isSame_1_ok 20 (142, .goto 4, 3) rfl
theorem dX7_isSame_145 : decode cX7_isSame 145 = .ok (.iconst 0, 1) := dTX7_isSame_1_ok 21 (145, .iconst 0, 1) rfl
theorem dX7_isSame_146 : decode cX7_isSame 146 = .ok (.iastore, 1) := dTX7_isSame_1_ok 22 (146, .iastore, 1) rfl
theorem dX7_isSame_147 : decode cX7_isSame 147 = .ok (.dup, 1) := dTX7_isSame_1_ok 23 (147, .dup, 1) rfl
theorem dX7_isSame_148 : decode cX7_isSame 148 = .ok (.iconst 3, 1) := dTX7_isSame_1_ok 24 (148, .iconst 3, 1) rfl
theorem dX7_isSame_149 : decode cX7_isSame 149 = .ok (.aload_n 2, 1) := dTX7_isSame_1_ok 25 (149, .aload_n 2, 1) rfl
theorem dX7_isSame_150 : decode cX7_isSame 150 = .ok (.iload 5, 2) := dTX7_isSame_1_ok 26 (150, .iload 5, 2) rfl
theorem dX7_isSame_152 : decode cX7_isSame 152 = .ok (.aaload, 1) := dTX7_isSame_1_ok 27 (152, .aaload, 1) rfl
theorem dX7_isSame_153 : decode cX7_isSame 153 = .ok (.iload 6, 2) := dTX7_isSame_1_ok 28 (153, .iload 6, 2) rfl
theorem dX7_isSame_155 : decode cX7_isSame 155 = .ok (.baload, 1) := dTX7_isSame_1_ok 29 (155, .baload, 1) rfl
theorem dX7_isSame_156 : decode cX7_isSame 156 = .ok (.ifCond .eq 7, 3) := dTX7_isSame_1_ok 30 (156, .ifCond .eq 7, 3) rfl
theorem dX7_isSame_159 : decode cX7_isSame 159 = .ok (.iconst 1, 1) := dTX7_isSame_1_ok 31 (159, .iconst 1, 1) rfl
theorem dX7_isSame_160 : decode cX7_isSame 160 = .ok (.goto 4, 3) := dTX7_isSame_1_ok 32 (160, .goto 4, 3) rfl
theorem dX7_isSame_163 : decode cX7_isSame 163 = .ok (.iconst 0, 1) := dTX7_isSame_1_ok 33 (163, .iconst 0, 1) rfl
theorem dX7_isSame_164 : decode cX7_isSame 164 = .ok (.iastore, 1) := dTX7_isSame_1_ok 34 (164, .iastore, 1) rfl
theorem dX7_isSame_165 : decode cX7_isSame 165 = .ok (.dup, 1) := dTX7_isSame_1_ok 35 (165, .dup, 1) rfl
theorem dX7_isSame_166 : decode cX7_isSame 166 = .ok (.iconst 4, 1) := dTX7_isSame_1_ok 36 (166, .iconst 4, 1) rfl
theorem dX7_isSame_167 : decode cX7_isSame 167 = .ok (.iload 7, 2) := dTX7_isSame_1_ok 37 (167, .iload 7, 2) rfl
theorem dX7_isSame_169 : decode cX7_isSame 169 = .ok (.iastore, 1) := dTX7_isSame_1_ok 38 (169, .iastore, 1) rfl
theorem dX7_isSame_170 : decode cX7_isSame 170 = .ok (.astore 8, 2) := dTX7_isSame_1_ok 39 (170, .astore 8, 2) rfl
theorem dX7_isSame_172 : decode cX7_isSame 172 = .ok (.iconst 0, 1) := dTX7_isSame_1_ok 40 (172, .iconst 0, 1) rfl
theorem dX7_isSame_173 : decode cX7_isSame 173 = .ok (.istore 9, 2) := dTX7_isSame_1_ok 41 (173, .istore 9, 2) rfl
theorem dX7_isSame_175 : decode cX7_isSame 175 = .ok (.iload 9, 2) := dTX7_isSame_1_ok 42 (175, .iload 9, 2) rfl
theorem dX7_isSame_177 : decode cX7_isSame 177 = .ok (.iconst 5, 1) := dTX7_isSame_1_ok 43 (177, .iconst 5, 1) rfl
theorem dX7_isSame_178 : decode cX7_isSame 178 = .ok (.if_icmp .ge 29, 3) := dTX7_isSame_1_ok 44 (178, .if_icmp .ge 29, 3) rfl
theorem dX7_isSame_181 : decode cX7_isSame 181 = .ok (.aload_n 1, 1) := dTX7_isSame_1_ok 45 (181, .aload_n 1, 1) rfl
theorem dX7_isSame_182 : decode cX7_isSame 182 = .ok (.iload 5, 2) := dTX7_isSame_1_ok 46 (182, .iload 5, 2) rfl
theorem dX7_isSame_184 : decode cX7_isSame 184 = .ok (.iload 6, 2) := dTX7_isSame_1_ok 47 (184, .iload 6, 2) rfl
theorem dX7_isSame_186 : decode cX7_isSame 186 = .ok (.iload 9, 2) := dTX7_isSame_1_ok 48 (186, .iload 9, 2) rfl
theorem dX7_isSame_188 : decode cX7_isSame 188 = .ok (.invokevirtual 104, 3) := dTX7_isSame_1_ok 49 (188, .invokevirtual 104, 3) rfl
theorem dX7_isSame_191 : decode cX7_isSame 191 = .ok (.aload 8, 2) := dTX7_isSame_1_ok 50 (191, .aload 8, 2) rfl
theorem dX7_isSame_193 : decode cX7_isSame 193 = .ok (.iload 9, 2) := dTX7_isSame_1_ok 51 (193, .iload 9, 2) rfl
theorem dX7_isSame_195 : decode cX7_isSame 195 = .ok (.iaload, 1) := dTX7_isSame_1_ok 52 (195, .iaload, 1) rfl
theorem dX7_isSame_196 : decode cX7_isSame 196 = .ok (.if_icmp .eq 5, 3) := dTX7_isSame_1_ok 53 (196, .if_icmp .eq 5, 3) rfl
theorem dX7_isSame_199 : decode cX7_isSame 199 = .ok (.iconst 0, 1) := dTX7_isSame_1_ok 54 (199, .iconst 0, 1) rfl
theorem dX7_isSame_200 : decode cX7_isSame 200 = .ok (.ireturn, 1) := dTX7_isSame_1_ok 55 (200, .ireturn, 1) rfl
theorem dX7_isSame_201 : decode cX7_isSame 201 = .ok (.iinc 9 1, 3) := dTX7_isSame_1_ok 56 (201, .iinc 9 1, 3) rfl
theorem dX7_isSame_204 : decode cX7_isSame 204 = .ok (.goto (-29), 3) := dTX7_isSame_1_ok 57 (204, .goto (-29), 3) rfl
theorem dX7_isSame_207 : decode cX7_isSame 207 = .ok (.iconst 0, 1) := dTX7_isSame_1_ok 58 (207, .iconst 0, 1) rfl
theorem dX7_isSame_208 : decode cX7_isSame 208 = .ok (.istore 9, 2) := dTX7_isSame_1_ok 59 (208, .istore 9, 2) rfl
noncomputable def dTX7_isSame_2 : List (Nat × Instr × Nat) := [(210, .iload 9, 2), (212, .iconst 4, 1), (213, .if_icmp .ge 91, 3), (216, .iload_n 3, 1), (217, .aload_n 0, 1), (218, .getfield 9, 3), (221, .iload 5, 2), (223, .aaload, 1), (224, .iload 6, 2), (226, .aaload, 1), (227, .iload 9, 2), (229, .baload, 1), (230, .ifCond .eq 7, 3), (233, .iconst 1, 1), (234, .goto 4, 3), (237, .iconst 0, 1), (238, .iadd, 1), (239, .istore_n 3, 1), (240, .aload_n 1, 1), (241, .iload 5, 2), (243, .iload 6, 2), (245, .iload 9, 2), (247, .invokevirtual 110, 3), (250, .aload_n 0, 1), (251, .getfield 9, 3), (254, .iload 5, 2), (256, .aaload, 1), (257, .iload 6, 2), (259, .aaload, 1), (260, .iload 9, 2), (262, .baload, 1), (263, .ifCond .ne 25, 3), (266, .iload 5, 2), (268, .iload 9, 2), (270, .invokestatic 49, 3), (273, .iadd, 1), (274, .iload 6, 2), (276, .iload 9, 2), (278, .invokestatic 53, 3), (281, .iadd, 1), (282, .invokestatic 56, 3), (285, .ifCond .ne 7, 3), (288, .iconst 1, 1), (289, .goto 4, 3), (292, .iconst 0, 1), (293, .if_icmp .eq 5, 3), (296, .iconst 0, 1), (297, .ireturn, 1), (298, .iinc 9 1, 3), (301, .goto (-91), 3), (304, .iload 4, 2), (306, .aload_n 0, 1), (307, .getfield 16, 3), (310, .iload 5, 2), (312, .aaload, 1), (313, .iload 6, 2), (315, .iaload, 1), (316, .iconst 4, 1), (317, .if_icmp .ne 16, 3), (320, .aload_n 0, 1)]
theorem dTX7_isSame_2_ok : ∀ (k : Nat) (q : Nat × Instr × Nat), dTX7_isSame_2[k]? = some q → decode cX7_isSame q.1 = .ok q.2 := dT_of (by decide +kernel)
theorem dX7_isSame_210 : decode cX7_isSame 210 = .ok (.iload 9, 2) := dTX7_isSame_2_ok 0 (210, .iload 9, 2) rfl
theorem dX7_isSame_212 : decode cX7_isSame 212 = .ok (.iconst 4, 1) := dTX7_isSame_2_ok 1 (212, .iconst 4, 1) rfl
theorem dX7_isSame_213 : decode cX7_isSame 213 = .ok (.if_icmp .ge 91, 3) := dTX7_isSame_2_ok 2 (213, .if_icmp .ge 91, 3) rfl
theorem dX7_isSame_216 : decode cX7_isSame 216 = .ok (.iload_n 3, 1) := dTX7_isSame_2_ok 3 (216, .iload_n 3, 1) rfl
theorem dX7_isSame_217 : decode cX7_isSame 217 = .ok (.aload_n 0, 1) := dTX7_isSame_2_ok 4 (217, .aload_n 0, 1) rfl
theorem dX7_isSame_218 : decode cX7_isSame 218 = .ok (.getfield 9, 3) := dTX7_isSame_2_ok 5 (218, .getfield 9, 3) rfl
theorem dX7_isSame_221 : decode cX7_isSame 221 = .ok (.iload 5, 2) := dTX7_isSame_2_ok 6 (221, .iload 5, 2) rfl
theorem dX7_isSame_223 : decode cX7_isSame 223 = .ok (.aaload, 1) := dTX7_isSame_2_ok 7 (223, .aaload, 1) rfl
theorem dX7_isSame_224 : decode cX7_isSame 224 = .ok (.iload 6, 2) := dTX7_isSame_2_ok 8 (224, .iload 6, 2) rfl
theorem dX7_isSame_226 : decode cX7_isSame 226 = .ok (.aaload, 1) := dTX7_isSame_2_ok 9 (226, .aaload, 1) rfl
theorem dX7_isSame_227 : decode cX7_isSame 227 = .ok (.iload 9, 2) := dTX7_isSame_2_ok 10 (227, .iload 9, 2) rfl
theorem dX7_isSame_229 : decode cX7_isSame 229 = .ok (.baload, 1) := dTX7_isSame_2_ok 11 (229, .baload, 1) rfl
theorem dX7_isSame_230 : decode cX7_isSame 230 = .ok (.ifCond .eq 7, 3) := dTX7_isSame_2_ok 12 (230, .ifCond .eq 7, 3) rfl
theorem dX7_isSame_233 : decode cX7_isSame 233 = .ok (.iconst 1, 1) := dTX7_isSame_2_ok 13 (233, .iconst 1, 1) rfl
theorem dX7_isSame_234 : decode cX7_isSame 234 = .ok (.goto 4, 3) := dTX7_isSame_2_ok 14 (234, .goto 4, 3) rfl
theorem dX7_isSame_237 : decode cX7_isSame 237 = .ok (.iconst 0, 1) := dTX7_isSame_2_ok 15 (237, .iconst 0, 1) rfl
theorem dX7_isSame_238 : decode cX7_isSame 238 = .ok (.iadd, 1) := dTX7_isSame_2_ok 16 (238, .iadd, 1) rfl
theorem dX7_isSame_239 : decode cX7_isSame 239 = .ok (.istore_n 3, 1) := dTX7_isSame_2_ok 17 (239, .istore_n 3, 1) rfl
theorem dX7_isSame_240 : decode cX7_isSame 240 = .ok (.aload_n 1, 1) := dTX7_isSame_2_ok 18 (240, .aload_n 1, 1) rfl
theorem dX7_isSame_241 : decode cX7_isSame 241 = .ok (.iload 5, 2) := dTX7_isSame_2_ok 19 (241, .iload 5, 2) rfl
theorem dX7_isSame_243 : decode cX7_isSame 243 = .ok (.iload 6, 2) := dTX7_isSame_2_ok 20 (243, .iload 6, 2) rfl
theorem dX7_isSame_245 : decode cX7_isSame 245 = .ok (.iload 9, 2) := dTX7_isSame_2_ok 21 (245, .iload 9, 2) rfl
theorem dX7_isSame_247 : decode cX7_isSame 247 = .ok (.invokevirtual 110, 3) := dTX7_isSame_2_ok 22 (247, .invokevirtual 110, 3) rfl
theorem dX7_isSame_250 : decode cX7_isSame 250 = .ok (.aload_n 0, 1) := dTX7_isSame_2_ok 23 (250, .aload_n 0, 1) rfl
theorem dX7_isSame_251 : decode cX7_isSame 251 = .ok (.getfield 9, 3) := dTX7_isSame_2_ok 24 (251, .getfield 9, 3) rfl
theorem dX7_isSame_254 : decode cX7_isSame 254 = .ok (.iload 5, 2) := dTX7_isSame_2_ok 25 (254, .iload 5, 2) rfl
theorem dX7_isSame_256 : decode cX7_isSame 256 = .ok (.aaload, 1) := dTX7_isSame_2_ok 26 (256, .aaload, 1) rfl
theorem dX7_isSame_257 : decode cX7_isSame 257 = .ok (.iload 6, 2) := dTX7_isSame_2_ok 27 (257, .iload 6, 2) rfl
theorem dX7_isSame_259 : decode cX7_isSame 259 = .ok (.aaload, 1) := dTX7_isSame_2_ok 28 (259, .aaload, 1) rfl
theorem dX7_isSame_260 : decode cX7_isSame 260 = .ok (.iload 9, 2) := dTX7_isSame_2_ok 29 (260, .iload 9, 2) rfl
theorem dX7_isSame_262 : decode cX7_isSame 262 = .ok (.baload, 1) := dTX7_isSame_2_ok 30 (262, .baload, 1) rfl
theorem dX7_isSame_263 : decode cX7_isSame 263 = .ok (.ifCond .ne 25, 3) := dTX7_isSame_2_ok 31 (263, .ifCond .ne 25, 3) rfl
theorem dX7_isSame_266 : decode cX7_isSame 266 = .ok (.iload 5, 2) := dTX7_isSame_2_ok 32 (266, .iload 5, 2) rfl
theorem dX7_isSame_268 : decode cX7_isSame 268 = .ok (.iload 9, 2) := dTX7_isSame_2_ok 33 (268, .iload 9, 2) rfl
theorem dX7_isSame_270 : decode cX7_isSame 270 = .ok (.invokestatic 49, 3) := dTX7_isSame_2_ok 34 (270, .invokestatic 49, 3) rfl
theorem dX7_isSame_273 : decode cX7_isSame 273 = .ok (.iadd, 1) := dTX7_isSame_2_ok 35 (273, .iadd, 1) rfl
theorem dX7_isSame_274 : decode cX7_isSame 274 = .ok (.iload 6, 2) := dTX7_isSame_2_ok 36 (274, .iload 6, 2) rfl
theorem dX7_isSame_276 : decode cX7_isSame 276 = .ok (.iload 9, 2) := dTX7_isSame_2_ok 37 (276, .iload 9, 2) rfl
theorem dX7_isSame_278 : decode cX7_isSame 278 = .ok (.invokestatic 53, 3) := dTX7_isSame_2_ok 38 (278, .invokestatic 53, 3) rfl
theorem dX7_isSame_281 : decode cX7_isSame 281 = .ok (.iadd, 1) := dTX7_isSame_2_ok 39 (281, .iadd, 1) rfl
theorem dX7_isSame_282 : decode cX7_isSame 282 = .ok (.invokestatic 56, 3) := dTX7_isSame_2_ok 40 (282, .invokestatic 56, 3) rfl
theorem dX7_isSame_285 : decode cX7_isSame 285 = .ok (.ifCond .ne 7, 3) := dTX7_isSame_2_ok 41 (285, .ifCond .ne 7, 3) rfl
theorem dX7_isSame_288 : decode cX7_isSame 288 = .ok (.iconst 1, 1) := dTX7_isSame_2_ok 42 (288, .iconst 1, 1) rfl
theorem dX7_isSame_289 : decode cX7_isSame 289 = .ok (.goto 4, 3) := dTX7_isSame_2_ok 43 (289, .goto 4, 3) rfl
theorem dX7_isSame_292 : decode cX7_isSame 292 = .ok (.iconst 0, 1) := dTX7_isSame_2_ok 44 (292, .iconst 0, 1) rfl
theorem dX7_isSame_293 : decode cX7_isSame 293 = .ok (.if_icmp .eq 5, 3) := dTX7_isSame_2_ok 45 (293, .if_icmp .eq 5, 3) rfl
theorem dX7_isSame_296 : decode cX7_isSame 296 = .ok (.iconst 0, 1) := dTX7_isSame_2_ok 46 (296, .iconst 0, 1) rfl
theorem dX7_isSame_297 : decode cX7_isSame 297 = .ok (.ireturn, 1) := dTX7_isSame_2_ok 47 (297, .ireturn, 1) rfl
theorem dX7_isSame_298 : decode cX7_isSame 298 = .ok (.iinc 9 1, 3) := dTX7_isSame_2_ok 48 (298, .iinc 9 1, 3) rfl
theorem dX7_isSame_301 : decode cX7_isSame 301 = .ok (.goto (-91), 3) := dTX7_isSame_2_ok 49 (301, .goto (-91), 3) rfl
theorem dX7_isSame_304 : decode cX7_isSame 304 = .ok (.iload 4, 2) := dTX7_isSame_2_ok 50 (304, .iload 4, 2) rfl
theorem dX7_isSame_306 : decode cX7_isSame 306 = .ok (.aload_n 0, 1) := dTX7_isSame_2_ok 51 (306, .aload_n 0, 1) rfl
theorem dX7_isSame_307 : decode cX7_isSame 307 = .ok (.getfield 16, 3) := dTX7_isSame_2_ok 52 (307, .getfield 16, 3) rfl
theorem dX7_isSame_310 : decode cX7_isSame 310 = .ok (.iload 5, 2) := dTX7_isSame_2_ok 53 (310, .iload 5, 2) rfl
theorem dX7_isSame_312 : decode cX7_isSame 312 = .ok (.aaload, 1) := dTX7_isSame_2_ok 54 (312, .aaload, 1) rfl
theorem dX7_isSame_313 : decode cX7_isSame 313 = .ok (.iload 6, 2) := dTX7_isSame_2_ok 55 (313, .iload 6, 2) rfl
theorem dX7_isSame_315 : decode cX7_isSame 315 = .ok (.iaload, 1) := dTX7_isSame_2_ok 56 (315, .iaload, 1) rfl
theorem dX7_isSame_316 : decode cX7_isSame 316 = .ok (.iconst 4, 1) := dTX7_isSame_2_ok 57 (316, .iconst 4, 1) rfl
theorem dX7_isSame_317 : decode cX7_isSame 317 = .ok (.if_icmp .ne 16, 3) := dTX7_isSame_2_ok 58 (317, .if_icmp .ne 16, 3) rfl
theorem dX7_isSame_320 : decode cX7_isSame 320 = .ok (.aload_n 0, 1) := dTX7_isSame_2_ok 59 (320, .aload_n 0, 1) rfl
noncomputable def dTX7_isSame_3 : List (Nat × Instr × Nat) := [(321, .getfield 19, 3), (324, .iload 5, 2), (326, .aaload, 1), (327, .iload 6, 2), (329, .iaload, 1), (330, .goto 4, 3), (333, .iconst 0, 1), (334, .iadd, 1), (335, .istore 4, 2), (337, .iinc 6 1, 3), (340, .goto (-317), 3), (343, .iinc 5 1, 3), (346, .goto (-333), 3), (349, .iconst 0, 1), (350, .istore 5, 2), (352, .iload 5, 2), (354, .aload_n 0, 1), (355, .getfield 29, 3), (358, .arraylength, 1), (359, .if_icmp .ge 132, 3), (362, .aload_n 0, 1), (363, .getfield 29, 3), (366, .iload 5, 2), (368, .aaload, 1), (369, .astore 6, 2), (371, .bipush 8, 2), (373, .newarray .int, 2), (375, .dup, 1), (376, .iconst 0, 1), (377, .aload 6, 2), (379, .getfield 68, 3), (382, .iastore, 1), (383, .dup, 1), (384, .iconst 1, 1), (385, .aload 6, 2), (387, .getfield 71, 3), (390, .iastore, 1), (391, .dup, 1), (392, .iconst 2, 1), (393, .aload 6, 2), (395, .getfield 91, 3), (398, .iastore, 1), (399, .dup, 1), (400, .iconst 3, 1), (401, .aload 6, 2), (403, .getfield 78, 3), (406, .iastore, 1), (407, .dup, 1), (408, .iconst 4, 1), (409, .aload 6, 2), (411, .getfield 81, 3), (414, .iastore, 1), (415, .dup, 1), (416, .iconst 5, 1), (417, .aload 6, 2), (419, .getfield 74, 3), (422, .ifCond .eq 7, 3), (425, .iconst 1, 1), (426, .goto 4, 3), (429, .iconst 0, 1)]
theorem dTX7_isSame_3_ok : ∀ (k : Nat) (q : Nat × Instr × Nat), dTX7_isSame_3[k]? = some q → decode cX7_isSame q.1 = .ok q.2 := dT_of (by decide +kernel)
theorem dX7_isSame_321 : decode cX7_isSame 321 = .ok (.getfield 19, 3) := dTX7_isSame_3_ok 0 (321, .getfield 19, 3) rfl
theorem dX7_isSame_324 : decode cX7_isSame 324 = .ok (.iload 5, 2) := dTX7_isSame_3_ok 1 (324, .iload 5, 2) rfl
theorem dX7_isSame_326 : decode cX7_isSame 326 = .ok (.aaload, 1) := dTX7_isSame_3_ok 2 (326, .aaload, 1) rfl
theorem dX7_isSame_327 : decode cX7_isSame 327 = .ok (.iload 6, 2) := dTX7_isSame_3_ok 3 (327, .iload 6, 2) rfl
theorem dX7_isSame_329 : decode cX7_isSame 329 = .ok (.iaload, 1) := dTX7_isSame_3_ok 4 (329, .iaload, 1) rfl
theorem dX7_isSame_330 : decode cX7_isSame 330 = .ok (.goto 4, 3) := dTX7_isSame_3_ok 5 (330, .goto 4, 3) rfl
theorem dX7_isSame_333 : decode cX7_isSame 333 = .ok (.iconst 0, 1) := dTX7_isSame_3_ok 6 (333, .iconst 0, 1) rfl
theorem dX7_isSame_334 : decode cX7_isSame 334 = .ok (.iadd, 1) := dTX7_isSame_3_ok 7 (334, .iadd, 1) rfl
theorem dX7_isSame_335 : decode cX7_isSame 335 = .ok (.istore 4, 2) := dTX7_isSame_3_ok 8 (335, .istore 4, 2) rfl
theorem dX7_isSame_337 : decode cX7_isSame 337 = .ok (.iinc 6 1, 3) := dTX7_isSame_3_ok 9 (337, .iinc 6 1, 3) rfl
theorem dX7_isSame_340 : decode cX7_isSame 340 = .ok (.goto (-317), 3) := dTX7_isSame_3_ok 10 (340, .goto (-317), 3) rfl
theorem dX7_isSame_343 : decode cX7_isSame 343 = .ok (.iinc 5 1, 3) := dTX7_isSame_3_ok 11 (343, .iinc 5 1, 3) rfl
theorem dX7_isSame_346 : decode cX7_isSame 346 = .ok (.goto (-333), 3) := dTX7_isSame_3_ok 12 (346, .goto (-333), 3) rfl
theorem dX7_isSame_349 : decode cX7_isSame 349 = .ok (.iconst 0, 1) := dTX7_isSame_3_ok 13 (349, .iconst 0, 1) rfl
theorem dX7_isSame_350 : decode cX7_isSame 350 = .ok (.istore 5, 2) := dTX7_isSame_3_ok 14 (350, .istore 5, 2) rfl
theorem dX7_isSame_352 : decode cX7_isSame 352 = .ok (.iload 5, 2) := dTX7_isSame_3_ok 15 (352, .iload 5, 2) rfl
theorem dX7_isSame_354 : decode cX7_isSame 354 = .ok (.aload_n 0, 1) := dTX7_isSame_3_ok 16 (354, .aload_n 0, 1) rfl
theorem dX7_isSame_355 : decode cX7_isSame 355 = .ok (.getfield 29, 3) := dTX7_isSame_3_ok 17 (355, .getfield 29, 3) rfl
theorem dX7_isSame_358 : decode cX7_isSame 358 = .ok (.arraylength, 1) := dTX7_isSame_3_ok 18 (358, .arraylength, 1) rfl
theorem dX7_isSame_359 : decode cX7_isSame 359 = .ok (.if_icmp .ge 132, 3) := dTX7_isSame_3_ok 19 (359, .if_icmp .ge 132, 3) rfl
theorem dX7_isSame_362 : decode cX7_isSame 362 = .ok (.aload_n 0, 1) := dTX7_isSame_3_ok 20 (362, .aload_n 0, 1) rfl
theorem dX7_isSame_363 : decode cX7_isSame 363 = .ok (.getfield 29, 3) := dTX7_isSame_3_ok 21 (363, .getfield 29, 3) rfl
theorem dX7_isSame_366 : decode cX7_isSame 366 = .ok (.iload 5, 2) := dTX7_isSame_3_ok 22 (366, .iload 5, 2) rfl
theorem dX7_isSame_368 : decode cX7_isSame 368 = .ok (.aaload, 1) := dTX7_isSame_3_ok 23 (368, .aaload, 1) rfl
theorem dX7_isSame_369 : decode cX7_isSame 369 = .ok (.astore 6, 2) := dTX7_isSame_3_ok 24 (369, .astore 6, 2) rfl
theorem dX7_isSame_371 : decode cX7_isSame 371 = .ok (.bipush 8, 2) := dTX7_isSame_3_ok 25 (371, .bipush 8, 2) rfl
theorem dX7_isSame_373 : decode cX7_isSame 373 = .ok (.newarray .int, 2) := dTX7_isSame_3_ok 26 (373, .newarray .int, 2) rfl
theorem dX7_isSame_375 : decode cX7_isSame 375 = .ok (.dup, 1) := dTX7_isSame_3_ok 27 (375, .dup, 1) rfl
theorem dX7_isSame_376 : decode cX7_isSame 376 = .ok (.iconst 0, 1) := dTX7_isSame_3_ok 28 (376, .iconst 0, 1) rfl
theorem dX7_isSame_377 : decode cX7_isSame 377 = .ok (.aload 6, 2) := dTX7_isSame_3_ok 29 (377, .aload 6, 2) rfl
theorem dX7_isSame_379 : decode cX7_isSame 379 = .ok (.getfield 68, 3) := dTX7_isSame_3_ok 30 (379, .getfield 68, 3) rfl
theorem dX7_isSame_382 : decode cX7_isSame 382 = .ok (.iastore, 1) := dTX7_isSame_3_ok 31 (382, .iastore, 1) rfl
theorem dX7_isSame_383 : decode cX7_isSame 383 = .ok (.dup, 1) := dTX7_isSame_3_ok 32 (383, .dup, 1) rfl
theorem dX7_isSame_384 : decode cX7_isSame 384 = .ok (.iconst 1, 1) := dTX7_isSame_3_ok 33 (384, .iconst 1, 1) rfl
theorem dX7_isSame_385 : decode cX7_isSame 385 = .ok (.aload 6, 2) := dTX7_isSame_3_ok 34 (385, .aload 6, 2) rfl
theorem dX7_isSame_387 : decode cX7_isSame 387 = .ok (.getfield 71, 3) := dTX7_isSame_3_ok 35 (387, .getfield 71, 3) rfl
theorem dX7_isSame_390 : decode cX7_isSame 390 = .ok (.iastore, 1) := dTX7_isSame_3_ok 36 (390, .iastore, 1) rfl
theorem dX7_isSame_391 : decode cX7_isSame 391 = .ok (.dup, 1) := dTX7_isSame_3_ok 37 (391, .dup, 1) rfl
theorem dX7_isSame_392 : decode cX7_isSame 392 = .ok (.iconst 2, 1) := dTX7_isSame_3_ok 38 (392, .iconst 2, 1) rfl
theorem dX7_isSame_393 : decode cX7_isSame 393 = .ok (.aload 6, 2) := dTX7_isSame_3_ok 39 (393, .aload 6, 2) rfl
theorem dX7_isSame_395 : decode cX7_isSame 395 = .ok (.getfield 91, 3) := dTX7_isSame_3_ok 40 (395, .getfield 91, 3) rfl
theorem dX7_isSame_398 : decode cX7_isSame 398 = .ok (.iastore, 1) := dTX7_isSame_3_ok 41 (398, .iastore, 1) rfl
theorem dX7_isSame_399 : decode cX7_isSame 399 = .ok (.dup, 1) := dTX7_isSame_3_ok 42 (399, .dup, 1) rfl
theorem dX7_isSame_400 : decode cX7_isSame 400 = .ok (.iconst 3, 1) := dTX7_isSame_3_ok 43 (400, .iconst 3, 1) rfl
theorem dX7_isSame_401 : decode cX7_isSame 401 = .ok (.aload 6, 2) := dTX7_isSame_3_ok 44 (401, .aload 6, 2) rfl
theorem dX7_isSame_403 : decode cX7_isSame 403 = .ok (.getfield 78, 3) := dTX7_isSame_3_ok 45 (403, .getfield 78, 3) rfl
theorem dX7_isSame_406 : decode cX7_isSame 406 = .ok (.iastore, 1) := dTX7_isSame_3_ok 46 (406, .iastore, 1) rfl
theorem dX7_isSame_407 : decode cX7_isSame 407 = .ok (.dup, 1) := dTX7_isSame_3_ok 47 (407, .dup, 1) rfl
theorem dX7_isSame_408 : decode cX7_isSame 408 = .ok (.iconst 4, 1) := dTX7_isSame_3_ok 48 (408, .iconst 4, 1) rfl
theorem dX7_isSame_409 : decode cX7_isSame 409 = .ok (.aload 6, 2) := dTX7_isSame_3_ok 49 (409, .aload 6, 2) rfl
theorem dX7_isSame_411 : decode cX7_isSame 411 = .ok (.getfield 81, 3) := dTX7_isSame_3_ok 50 (411, .getfield 81, 3) rfl
theorem dX7_isSame_414 : decode cX7_isSame 414 = .ok (.iastore, 1) := dTX7_isSame_3_ok 51 (414, .iastore, 1) rfl
theorem dX7_isSame_415 : decode cX7_isSame 415 = .ok (.dup, 1) := dTX7_isSame_3_ok 52 (415, .dup, 1) rfl
theorem dX7_isSame_416 : decode cX7_isSame 416 = .ok (.iconst 5, 1) := dTX7_isSame_3_ok 53 (416, .iconst 5, 1) rfl
theorem dX7_isSame_417 : decode cX7_isSame 417 = .ok (.aload 6, 2) := dTX7_isSame_3_ok 54 (417, .aload 6, 2) rfl
theorem dX7_isSame_419 : decode cX7_isSame 419 = .ok (.getfield 74, 3) := dTX7_isSame_3_ok 55 (419, .getfield 74, 3) rfl
theorem dX7_isSame_422 : decode cX7_isSame 422 = .ok (.ifCond .eq 7, 3) := dTX7_isSame_3_ok 56 (422, .ifCond .eq 7, 3) rfl
theorem dX7_isSame_425 : decode cX7_isSame 425 = .ok (.iconst 1, 1) := dTX7_isSame_3_ok 57 (425, .iconst 1, 1) rfl
theorem dX7_isSame_426 : decode cX7_isSame 426 = .ok (.goto 4, 3) := dTX7_isSame_3_ok 58 (426, .goto 4, 3) rfl
theorem dX7_isSame_429 : decode cX7_isSame 429 = .ok (.iconst 0, 1) := dTX7_isSame_3_ok 59 (429, .iconst 0, 1) rfl
noncomputable def dTX7_isSame_4 : List (Nat × Instr × Nat) := [(430, .iastore, 1), (431, .dup, 1), (432, .bipush 6, 2), (434, .aload 6, 2), (436, .getfield 101, 3), (439, .iastore, 1), (440, .dup, 1), (441, .bipush 7, 2), (443, .aload 6, 2), (445, .getfield 98, 3), (448, .iastore, 1), (449, .astore 7, 2), (451, .iconst 0, 1), (452, .istore 8, 2), (454, .iload 8, 2), (456, .bipush 8, 2), (458, .if_icmp .ge 27, 3), (461, .aload_n 1, 1), (462, .iload 5, 2), (464, .iload 8, 2), (466, .invokevirtual 114, 3), (469, .aload 7, 2), (471, .iload 8, 2), (473, .iaload, 1), (474, .if_icmp .eq 5, 3), (477, .iconst 0, 1), (478, .ireturn, 1), (479, .iinc 8 1, 3), (482, .goto (-28), 3), (485, .iinc 5 1, 3), (488, .goto (-136), 3), (491, .bipush 10, 2), (493, .newarray .int, 2), (495, .dup, 1), (496, .iconst 0, 1), (497, .aload_n 0, 1), (498, .getfield 45, 3), (501, .iastore, 1), (502, .dup, 1), (503, .iconst 1, 1), (504, .aload_n 0, 1), (505, .getfield 29, 3), (508, .arraylength, 1), (509, .iastore, 1), (510, .dup, 1), (511, .iconst 2, 1), (512, .aload_n 0, 1), (513, .iconst 1, 1), (514, .invokevirtual 118, 3), (517, .iastore, 1), (518, .dup, 1), (519, .iconst 3, 1), (520, .aload_n 0, 1), (521, .invokevirtual 121, 3), (524, .iastore, 1), (525, .dup, 1), (526, .iconst 4, 1), (527, .aload_n 0, 1), (528, .iconst 2, 1), (529, .invokevirtual 118, 3)]
theorem dTX7_isSame_4_ok : ∀ (k : Nat) (q : Nat × Instr × Nat), dTX7_isSame_4[k]? = some q → decode cX7_isSame q.1 = .ok q.2 := dT_of (by decide +kernel)
theorem dX7_isSame_430 : decode cX7_isSame 430 = .ok (.iastore, 1) := dTX7_isSame_4_ok 0 (430, .iastore, 1) rfl
theorem dX7_isSame_431 : decode cX7_isSame 431 = .ok (.dup, 1) := dTX7_isSame_4_ok 1 (431, .dup, 1) rfl
theorem dX7_isSame_432 : decode cX7_isSame 432 = .ok (.bipush 6, 2) := dTX7_isSame_4_ok 2 (432, .bipush 6, 2) rfl
theorem dX7_isSame_434 : decode cX7_isSame 434 = .ok (.aload 6, 2) := dTX7_isSame_4_ok 3 (434, .aload 6, 2) rfl
theorem dX7_isSame_436 : decode cX7_isSame 436 = .ok (.getfield 101, 3) := dTX7_isSame_4_ok 4 (436, .getfield 101, 3) rfl
theorem dX7_isSame_439 : decode cX7_isSame 439 = .ok (.iastore, 1) := dTX7_isSame_4_ok 5 (439, .iastore, 1) rfl
theorem dX7_isSame_440 : decode cX7_isSame 440 = .ok (.dup, 1) := dTX7_isSame_4_ok 6 (440, .dup, 1) rfl
theorem dX7_isSame_441 : decode cX7_isSame 441 = .ok (.bipush 7, 2) := dTX7_isSame_4_ok 7 (441, .bipush 7, 2) rfl
theorem dX7_isSame_443 : decode cX7_isSame 443 = .ok (.aload 6, 2) := dTX7_isSame_4_ok 8 (443, .aload 6, 2) rfl
theorem dX7_isSame_445 : decode cX7_isSame 445 = .ok (.getfield 98, 3) := dTX7_isSame_4_ok 9 (445, .getfield 98, 3) rfl
theorem dX7_isSame_448 : decode cX7_isSame 448 = .ok (.iastore, 1) := dTX7_isSame_4_ok 10 (448, .iastore, 1) rfl
theorem dX7_isSame_449 : decode cX7_isSame 449 = .ok (.astore 7, 2) := dTX7_isSame_4_ok 11 (449, .astore 7, 2) rfl
theorem dX7_isSame_451 : decode cX7_isSame 451 = .ok (.iconst 0, 1) := dTX7_isSame_4_ok 12 (451, .iconst 0, 1) rfl
theorem dX7_isSame_452 : decode cX7_isSame 452 = .ok (.istore 8, 2) := dTX7_isSame_4_ok 13 (452, .istore 8, 2) rfl
theorem dX7_isSame_454 : decode cX7_isSame 454 = .ok (.iload 8, 2) := dTX7_isSame_4_ok 14 (454, .iload 8, 2) rfl
theorem dX7_isSame_456 : decode cX7_isSame 456 = .ok (.bipush 8, 2) := dTX7_isSame_4_ok 15 (456, .bipush 8, 2) rfl
theorem dX7_isSame_458 : decode cX7_isSame 458 = .ok (.if_icmp .ge 27, 3) := dTX7_isSame_4_ok 16 (458, .if_icmp .ge 27, 3) rfl
theorem dX7_isSame_461 : decode cX7_isSame 461 = .ok (.aload_n 1, 1) := dTX7_isSame_4_ok 17 (461, .aload_n 1, 1) rfl
theorem dX7_isSame_462 : decode cX7_isSame 462 = .ok (.iload 5, 2) := dTX7_isSame_4_ok 18 (462, .iload 5, 2) rfl
theorem dX7_isSame_464 : decode cX7_isSame 464 = .ok (.iload 8, 2) := dTX7_isSame_4_ok 19 (464, .iload 8, 2) rfl
theorem dX7_isSame_466 : decode cX7_isSame 466 = .ok (.invokevirtual 114, 3) := dTX7_isSame_4_ok 20 (466, .invokevirtual 114, 3) rfl
theorem dX7_isSame_469 : decode cX7_isSame 469 = .ok (.aload 7, 2) := dTX7_isSame_4_ok 21 (469, .aload 7, 2) rfl
theorem dX7_isSame_471 : decode cX7_isSame 471 = .ok (.iload 8, 2) := dTX7_isSame_4_ok 22 (471, .iload 8, 2) rfl
theorem dX7_isSame_473 : decode cX7_isSame 473 = .ok (.iaload, 1) := dTX7_isSame_4_ok 23 (473, .iaload, 1) rfl
theorem dX7_isSame_474 : decode cX7_isSame 474 = .ok (.if_icmp .eq 5, 3) := dTX7_isSame_4_ok 24 (474, .if_icmp .eq 5, 3) rfl
theorem dX7_isSame_477 : decode cX7_isSame 477 = .ok (.iconst 0, 1) := dTX7_isSame_4_ok 25 (477, .iconst 0, 1) rfl
theorem dX7_isSame_478 : decode cX7_isSame 478 = .ok (.ireturn, 1) := dTX7_isSame_4_ok 26 (478, .ireturn, 1) rfl
theorem dX7_isSame_479 : decode cX7_isSame 479 = .ok (.iinc 8 1, 3) := dTX7_isSame_4_ok 27 (479, .iinc 8 1, 3) rfl
theorem dX7_isSame_482 : decode cX7_isSame 482 = .ok (.goto (-28), 3) := dTX7_isSame_4_ok 28 (482, .goto (-28), 3) rfl
theorem dX7_isSame_485 : decode cX7_isSame 485 = .ok (.iinc 5 1, 3) := dTX7_isSame_4_ok 29 (485, .iinc 5 1, 3) rfl
theorem dX7_isSame_488 : decode cX7_isSame 488 = .ok (.goto (-136), 3) := dTX7_isSame_4_ok 30 (488, .goto (-136), 3) rfl
theorem dX7_isSame_491 : decode cX7_isSame 491 = .ok (.bipush 10, 2) := dTX7_isSame_4_ok 31 (491, .bipush 10, 2) rfl
theorem dX7_isSame_493 : decode cX7_isSame 493 = .ok (.newarray .int, 2) := dTX7_isSame_4_ok 32 (493, .newarray .int, 2) rfl
theorem dX7_isSame_495 : decode cX7_isSame 495 = .ok (.dup, 1) := dTX7_isSame_4_ok 33 (495, .dup, 1) rfl
theorem dX7_isSame_496 : decode cX7_isSame 496 = .ok (.iconst 0, 1) := dTX7_isSame_4_ok 34 (496, .iconst 0, 1) rfl
theorem dX7_isSame_497 : decode cX7_isSame 497 = .ok (.aload_n 0, 1) := dTX7_isSame_4_ok 35 (497, .aload_n 0, 1) rfl
theorem dX7_isSame_498 : decode cX7_isSame 498 = .ok (.getfield 45, 3) := dTX7_isSame_4_ok 36 (498, .getfield 45, 3) rfl
theorem dX7_isSame_501 : decode cX7_isSame 501 = .ok (.iastore, 1) := dTX7_isSame_4_ok 37 (501, .iastore, 1) rfl
theorem dX7_isSame_502 : decode cX7_isSame 502 = .ok (.dup, 1) := dTX7_isSame_4_ok 38 (502, .dup, 1) rfl
theorem dX7_isSame_503 : decode cX7_isSame 503 = .ok (.iconst 1, 1) := dTX7_isSame_4_ok 39 (503, .iconst 1, 1) rfl
theorem dX7_isSame_504 : decode cX7_isSame 504 = .ok (.aload_n 0, 1) := dTX7_isSame_4_ok 40 (504, .aload_n 0, 1) rfl
theorem dX7_isSame_505 : decode cX7_isSame 505 = .ok (.getfield 29, 3) := dTX7_isSame_4_ok 41 (505, .getfield 29, 3) rfl
theorem dX7_isSame_508 : decode cX7_isSame 508 = .ok (.arraylength, 1) := dTX7_isSame_4_ok 42 (508, .arraylength, 1) rfl
theorem dX7_isSame_509 : decode cX7_isSame 509 = .ok (.iastore, 1) := dTX7_isSame_4_ok 43 (509, .iastore, 1) rfl
theorem dX7_isSame_510 : decode cX7_isSame 510 = .ok (.dup, 1) := dTX7_isSame_4_ok 44 (510, .dup, 1) rfl
theorem dX7_isSame_511 : decode cX7_isSame 511 = .ok (.iconst 2, 1) := dTX7_isSame_4_ok 45 (511, .iconst 2, 1) rfl
theorem dX7_isSame_512 : decode cX7_isSame 512 = .ok (.aload_n 0, 1) := dTX7_isSame_4_ok 46 (512, .aload_n 0, 1) rfl
theorem dX7_isSame_513 : decode cX7_isSame 513 = .ok (.iconst 1, 1) := dTX7_isSame_4_ok 47 (513, .iconst 1, 1) rfl
theorem dX7_isSame_514 : decode cX7_isSame 514 = .ok (.invokevirtual 118, 3) := dTX7_isSame_4_ok 48 (514, .invokevirtual 118, 3) rfl
theorem dX7_isSame_517 : decode cX7_isSame 517 = .ok (.iastore, 1) := dTX7_isSame_4_ok 49 (517, .iastore, 1) rfl
theorem dX7_isSame_518 : decode cX7_isSame 518 = .ok (.dup, 1) := dTX7_isSame_4_ok 50 (518, .dup, 1) rfl
theorem dX7_isSame_519 : decode cX7_isSame 519 = .ok (.iconst 3, 1) := dTX7_isSame_4_ok 51 (519, .iconst 3, 1) rfl
theorem dX7_isSame_520 : decode cX7_isSame 520 = .ok (.aload_n 0, 1) := dTX7_isSame_4_ok 52 (520, .aload_n 0, 1) rfl
theorem dX7_isSame_521 : decode cX7_isSame 521 = .ok (.invokevirtual 121, 3) := dTX7_isSame_4_ok 53 (521, .invokevirtual 121, 3) rfl
theorem dX7_isSame_524 : decode cX7_isSame 524 = .ok (.iastore, 1) := dTX7_isSame_4_ok 54 (524, .iastore, 1) rfl
theorem dX7_isSame_525 : decode cX7_isSame 525 = .ok (.dup, 1) := dTX7_isSame_4_ok 55 (525, .dup, 1) rfl
theorem dX7_isSame_526 : decode cX7_isSame 526 = .ok (.iconst 4, 1) := dTX7_isSame_4_ok 56 (526, .iconst 4, 1) rfl
theorem dX7_isSame_527 : decode cX7_isSame 527 = .ok (.aload_n 0, 1) := dTX7_isSame_4_ok 57 (527, .aload_n 0, 1) rfl
theorem dX7_isSame_528 : decode cX7_isSame 528 = .ok (.iconst 2, 1) := dTX7_isSame_4_ok 58 (528, .iconst 2, 1) rfl
theorem dX7_isSame_529 : decode cX7_isSame 529 = .ok (.invokevirtual 118, 3) := dTX7_isSame_4_ok 59 (529, .invokevirtual 118, 3) rfl
noncomputable def dTX7_isSame_5 : List (Nat × Instr × Nat) := [(532, .aload_n 0, 1), (533, .iconst 3, 1), (534, .invokevirtual 118, 3), (537, .iadd, 1), (538, .iastore, 1), (539, .dup, 1), (540, .iconst 5, 1), (541, .aload_n 0, 1), (542, .iconst 4, 1), (543, .invokevirtual 118, 3), (546, .iastore, 1), (547, .dup, 1), (548, .bipush 6, 2), (550, .iload_n 3, 1), (551, .iconst 2, 1), (552, .idiv, 1), (553, .iastore, 1), (554, .dup, 1), (555, .bipush 7, 2), (557, .aload_n 2, 1), (558, .invokestatic 125, 3), (561, .iastore, 1), (562, .dup, 1), (563, .bipush 8, 2), (565, .aload_n 0, 1), (566, .getfield 88, 3), (569, .iastore, 1), (570, .dup, 1), (571, .bipush 9, 2), (573, .iload 4, 2), (575, .iastore, 1), (576, .astore 5, 2), (578, .iconst 0, 1), (579, .istore 6, 2), (581, .iload 6, 2), (583, .bipush 10, 2), (585, .if_icmp .ge 25, 3), (588, .aload_n 1, 1), (589, .iload 6, 2), (591, .invokevirtual 129, 3), (594, .aload 5, 2), (596, .iload 6, 2), (598, .iaload, 1), (599, .if_icmp .eq 5, 3), (602, .iconst 0, 1), (603, .ireturn, 1), (604, .iinc 6 1, 3), (607, .goto (-26), 3), (610, .aload_n 1, 1), (611, .invokevirtual 132, 3), (614, .aload_n 0, 1), (615, .iconst 4, 1), (616, .invokevirtual 118, 3), (619, .ifCond .ne 7, 3), (622, .dconst 0, 1), (623, .goto 13, 3), (626, .iload 4, 2), (628, .i2d, 1), (629, .aload_n 0, 1), (630, .iconst 4, 1)]
theorem dTX7_isSame_5_ok : ∀ (k : Nat) (q : Nat × Instr × Nat), dTX7_isSame_5[k]? = some q → decode cX7_isSame q.1 = .ok q.2 := dT_of (by decide +kernel)
theorem dX7_isSame_532 : decode cX7_isSame 532 = .ok (.aload_n 0, 1) := dTX7_isSame_5_ok 0 (532, .aload_n 0, 1) rfl
theorem dX7_isSame_533 : decode cX7_isSame 533 = .ok (.iconst 3, 1) := dTX7_isSame_5_ok 1 (533, .iconst 3, 1) rfl
theorem dX7_isSame_534 : decode cX7_isSame 534 = .ok (.invokevirtual 118, 3) := dTX7_isSame_5_ok 2 (534, .invokevirtual 118, 3) rfl
theorem dX7_isSame_537 : decode cX7_isSame 537 = .ok (.iadd, 1) := dTX7_isSame_5_ok 3 (537, .iadd, 1) rfl
theorem dX7_isSame_538 : decode cX7_isSame 538 = .ok (.iastore, 1) := dTX7_isSame_5_ok 4 (538, .iastore, 1) rfl
theorem dX7_isSame_539 : decode cX7_isSame 539 = .ok (.dup, 1) := dTX7_isSame_5_ok 5 (539, .dup, 1) rfl
theorem dX7_isSame_540 : decode cX7_isSame 540 = .ok (.iconst 5, 1) := dTX7_isSame_5_ok 6 (540, .iconst 5, 1) rfl
theorem dX7_isSame_541 : decode cX7_isSame 541 = .ok (.aload_n 0, 1) := dTX7_isSame_5_ok 7 (541, .aload_n 0, 1) rfl
theorem dX7_isSame_542 : decode cX7_isSame 542 = .ok (.iconst 4, 1) := dTX7_isSame_5_ok 8 (542, .iconst 4, 1) rfl
theorem dX7_isSame_543 : decode cX7_isSame 543 = .ok (.invokevirtual 118, 3) := dTX7_isSame_5_ok 9 (543, .invokevirtual 118, 3) rfl
theorem dX7_isSame_546 : decode cX7_isSame 546 = .ok (.iastore, 1) := dTX7_isSame_5_ok 10 (546, .iastore, 1) rfl
theorem dX7_isSame_547 : decode cX7_isSame 547 = .ok (.dup, 1) := dTX7_isSame_5_ok 11 (547, .dup, 1) rfl
theorem dX7_isSame_548 : decode cX7_isSame 548 = .ok (.bipush 6, 2) := dTX7_isSame_5_ok 12 (548, .bipush 6, 2) rfl
theorem dX7_isSame_550 : decode cX7_isSame 550 = .ok (.iload_n 3, 1) := dTX7_isSame_5_ok 13 (550, .iload_n 3, 1) rfl
theorem dX7_isSame_551 : decode cX7_isSame 551 = .ok (.iconst 2, 1) := dTX7_isSame_5_ok 14 (551, .iconst 2, 1) rfl
theorem dX7_isSame_552 : decode cX7_isSame 552 = .ok (.idiv, 1) := dTX7_isSame_5_ok 15 (552, .idiv, 1) rfl
theorem dX7_isSame_553 : decode cX7_isSame 553 = .ok (.iastore, 1) := dTX7_isSame_5_ok 16 (553, .iastore, 1) rfl
theorem dX7_isSame_554 : decode cX7_isSame 554 = .ok (.dup, 1) := dTX7_isSame_5_ok 17 (554, .dup, 1) rfl
theorem dX7_isSame_555 : decode cX7_isSame 555 = .ok (.bipush 7, 2) := dTX7_isSame_5_ok 18 (555, .bipush 7, 2) rfl
theorem dX7_isSame_557 : decode cX7_isSame 557 = .ok (.aload_n 2, 1) := dTX7_isSame_5_ok 19 (557, .aload_n 2, 1) rfl
theorem dX7_isSame_558 : decode cX7_isSame 558 = .ok (.invokestatic 125, 3) := dTX7_isSame_5_ok 20 (558, .invokestatic 125, 3) rfl
theorem dX7_isSame_561 : decode cX7_isSame 561 = .ok (.iastore, 1) := dTX7_isSame_5_ok 21 (561, .iastore, 1) rfl
theorem dX7_isSame_562 : decode cX7_isSame 562 = .ok (.dup, 1) := dTX7_isSame_5_ok 22 (562, .dup, 1) rfl
theorem dX7_isSame_563 : decode cX7_isSame 563 = .ok (.bipush 8, 2) := dTX7_isSame_5_ok 23 (563, .bipush 8, 2) rfl
theorem dX7_isSame_565 : decode cX7_isSame 565 = .ok (.aload_n 0, 1) := dTX7_isSame_5_ok 24 (565, .aload_n 0, 1) rfl
theorem dX7_isSame_566 : decode cX7_isSame 566 = .ok (.getfield 88, 3) := dTX7_isSame_5_ok 25 (566, .getfield 88, 3) rfl
theorem dX7_isSame_569 : decode cX7_isSame 569 = .ok (.iastore, 1) := dTX7_isSame_5_ok 26 (569, .iastore, 1) rfl
theorem dX7_isSame_570 : decode cX7_isSame 570 = .ok (.dup, 1) := dTX7_isSame_5_ok 27 (570, .dup, 1) rfl
theorem dX7_isSame_571 : decode cX7_isSame 571 = .ok (.bipush 9, 2) := dTX7_isSame_5_ok 28 (571, .bipush 9, 2) rfl
theorem dX7_isSame_573 : decode cX7_isSame 573 = .ok (.iload 4, 2) := dTX7_isSame_5_ok 29 (573, .iload 4, 2) rfl
theorem dX7_isSame_575 : decode cX7_isSame 575 = .ok (.iastore, 1) := dTX7_isSame_5_ok 30 (575, .iastore, 1) rfl
theorem dX7_isSame_576 : decode cX7_isSame 576 = .ok (.astore 5, 2) := dTX7_isSame_5_ok 31 (576, .astore 5, 2) rfl
theorem dX7_isSame_578 : decode cX7_isSame 578 = .ok (.iconst 0, 1) := dTX7_isSame_5_ok 32 (578, .iconst 0, 1) rfl
theorem dX7_isSame_579 : decode cX7_isSame 579 = .ok (.istore 6, 2) := dTX7_isSame_5_ok 33 (579, .istore 6, 2) rfl
theorem dX7_isSame_581 : decode cX7_isSame 581 = .ok (.iload 6, 2) := dTX7_isSame_5_ok 34 (581, .iload 6, 2) rfl
theorem dX7_isSame_583 : decode cX7_isSame 583 = .ok (.bipush 10, 2) := dTX7_isSame_5_ok 35 (583, .bipush 10, 2) rfl
theorem dX7_isSame_585 : decode cX7_isSame 585 = .ok (.if_icmp .ge 25, 3) := dTX7_isSame_5_ok 36 (585, .if_icmp .ge 25, 3) rfl
theorem dX7_isSame_588 : decode cX7_isSame 588 = .ok (.aload_n 1, 1) := dTX7_isSame_5_ok 37 (588, .aload_n 1, 1) rfl
theorem dX7_isSame_589 : decode cX7_isSame 589 = .ok (.iload 6, 2) := dTX7_isSame_5_ok 38 (589, .iload 6, 2) rfl
theorem dX7_isSame_591 : decode cX7_isSame 591 = .ok (.invokevirtual 129, 3) := dTX7_isSame_5_ok 39 (591, .invokevirtual 129, 3) rfl
theorem dX7_isSame_594 : decode cX7_isSame 594 = .ok (.aload 5, 2) := dTX7_isSame_5_ok 40 (594, .aload 5, 2) rfl
theorem dX7_isSame_596 : decode cX7_isSame 596 = .ok (.iload 6, 2) := dTX7_isSame_5_ok 41 (596, .iload 6, 2) rfl
theorem dX7_isSame_598 : decode cX7_isSame 598 = .ok (.iaload, 1) := dTX7_isSame_5_ok 42 (598, .iaload, 1) rfl
theorem dX7_isSame_599 : decode cX7_isSame 599 = .ok (.if_icmp .eq 5, 3) := dTX7_isSame_5_ok 43 (599, .if_icmp .eq 5, 3) rfl
theorem dX7_isSame_602 : decode cX7_isSame 602 = .ok (.iconst 0, 1) := dTX7_isSame_5_ok 44 (602, .iconst 0, 1) rfl
theorem dX7_isSame_603 : decode cX7_isSame 603 = .ok (.ireturn, 1) := dTX7_isSame_5_ok 45 (603, .ireturn, 1) rfl
theorem dX7_isSame_604 : decode cX7_isSame 604 = .ok (.iinc 6 1, 3) := dTX7_isSame_5_ok 46 (604, .iinc 6 1, 3) rfl
theorem dX7_isSame_607 : decode cX7_isSame 607 = .ok (.goto (-26), 3) := dTX7_isSame_5_ok 47 (607, .goto (-26), 3) rfl
theorem dX7_isSame_610 : decode cX7_isSame 610 = .ok (.aload_n 1, 1) := dTX7_isSame_5_ok 48 (610, .aload_n 1, 1) rfl
theorem dX7_isSame_611 : decode cX7_isSame 611 = .ok (.invokevirtual 132, 3) := dTX7_isSame_5_ok 49 (611, .invokevirtual 132, 3) rfl
theorem dX7_isSame_614 : decode cX7_isSame 614 = .ok (.aload_n 0, 1) := dTX7_isSame_5_ok 50 (614, .aload_n 0, 1) rfl
theorem dX7_isSame_615 : decode cX7_isSame 615 = .ok (.iconst 4, 1) := dTX7_isSame_5_ok 51 (615, .iconst 4, 1) rfl
theorem dX7_isSame_616 : decode cX7_isSame 616 = .ok (.invokevirtual 118, 3) := dTX7_isSame_5_ok 52 (616, .invokevirtual 118, 3) rfl
theorem dX7_isSame_619 : decode cX7_isSame 619 = .ok (.ifCond .ne 7, 3) := dTX7_isSame_5_ok 53 (619, .ifCond .ne 7, 3) rfl
theorem dX7_isSame_622 : decode cX7_isSame 622 = .ok (.dconst 0, 1) := dTX7_isSame_5_ok 54 (622, .dconst 0, 1) rfl
theorem dX7_isSame_623 : decode cX7_isSame 623 = .ok (.goto 13, 3) := dTX7_isSame_5_ok 55 (623, .goto 13, 3) rfl
theorem dX7_isSame_626 : decode cX7_isSame 626 = .ok (.iload 4, 2) := dTX7_isSame_5_ok 56 (626, .iload 4, 2) rfl
theorem dX7_isSame_628 : decode cX7_isSame 628 = .ok (.i2d, 1) := dTX7_isSame_5_ok 57 (628, .i2d, 1) rfl
theorem dX7_isSame_629 : decode cX7_isSame 629 = .ok (.aload_n 0, 1) := dTX7_isSame_5_ok 58 (629, .aload_n 0, 1) rfl
theorem dX7_isSame_630 : decode cX7_isSame 630 = .ok (.iconst 4, 1) := dTX7_isSame_5_ok 59 (630, .iconst 4, 1) rfl
noncomputable def dTX7_isSame_6 : List (Nat × Instr × Nat) := [(631, .invokevirtual 118, 3), (634, .i2d, 1), (635, .ddiv, 1), (636, .dcmp .l, 1), (637, .ifCond .ne 7, 3), (640, .iconst 1, 1), (641, .goto 4, 3), (644, .iconst 0, 1), (645, .ireturn, 1)]
theorem dTX7_isSame_6_ok : ∀ (k : Nat) (q : Nat × Instr × Nat), dTX7_isSame_6[k]? = some q → decode cX7_isSame q.1 = .ok q.2 := dT_of (by decide +kernel)
theorem dX7_isSame_631 : decode cX7_isSame 631 = .ok (.invokevirtual 118, 3) := dTX7_isSame_6_ok 0 (631, .invokevirtual 118, 3) rfl
theorem dX7_isSame_634 : decode cX7_isSame 634 = .ok (.i2d, 1) := dTX7_isSame_6_ok 1 (634, .i2d, 1) rfl
theorem dX7_isSame_635 : decode cX7_isSame 635 = .ok (.ddiv, 1) := dTX7_isSame_6_ok 2 (635, .ddiv, 1) rfl
theorem dX7_isSame_636 : decode cX7_isSame 636 = .ok (.dcmp .l, 1) := dTX7_isSame_6_ok 3 (636, .dcmp .l, 1) rfl
theorem dX7_isSame_637 : decode cX7_isSame 637 = .ok (.ifCond .ne 7, 3) := dTX7_isSame_6_ok 4 (637, .ifCond .ne 7, 3) rfl
theorem dX7_isSame_640 : decode cX7_isSame 640 = .ok (.iconst 1, 1) := dTX7_isSame_6_ok 5 (640, .iconst 1, 1) rfl
theorem dX7_isSame_641 : decode cX7_isSame 641 = .ok (.goto 4, 3) := dTX7_isSame_6_ok 6 (641, .goto 4, 3) rfl
theorem dX7_isSame_644 : decode cX7_isSame 644 = .ok (.iconst 0, 1) := dTX7_isSame_6_ok 7 (644, .iconst 0, 1) rfl
theorem dX7_isSame_645 : decode cX7_isSame 645 = .ok (.ireturn, 1) := dTX7_isSame_6_ok 8 (645, .ireturn, 1) rfl
noncomputable def dTJ13_bitCount_95d88_0 : List (Nat × Instr × Nat) := [(0, .lload_n 0, 1), (1, .lload_n 0, 1), (2, .iconst 1, 1), (3, .lushr, 1), (4, .ldc2_w 314, 3), (7, .land, 1), (8, .lsub, 1), (9, .lstore_n 0, 1), (10, .lload_n 0, 1), (11, .ldc2_w 316, 3), (14, .land, 1), (15, .lload_n 0, 1), (16, .iconst 2, 1), (17, .lushr, 1), (18, .ldc2_w 316, 3), (21, .land, 1), (22, .ladd, 1), (23, .lstore_n 0, 1), (24, .lload_n 0, 1), (25, .lload_n 0, 1), (26, .iconst 4, 1), (27, .lushr, 1), (28, .ladd, 1), (29, .ldc2_w 318, 3), (32, .land, 1), (33, .lstore_n 0, 1), (34, .lload_n 0, 1), (35, .lload_n 0, 1), (36, .bipush 8, 2), (38, .lushr, 1), (39, .ladd, 1), (40, .lstore_n 0, 1), (41, .lload_n 0, 1), (42, .lload_n 0, 1), (43, .bipush 16, 2), (45, .lushr, 1), (46, .ladd, 1), (47, .lstore_n 0, 1), (48, .lload_n 0, 1), (49, .lload_n 0, 1), (50, .bipush 32, 2), (52, .lushr, 1), (53, .ladd, 1), (54, .lstore_n 0, 1), (55, .lload_n 0, 1), (56, .l2i, 1), (57, .bipush 127, 2), (59, .iand, 1), (60, .ireturn, 1)]
theorem dTJ13_bitCount_95d88_0_ok : ∀ (k : Nat) (q : Nat × Instr × Nat), dTJ13_bitCount_95d88_0[k]? = some q → decode cJ13_bitCount_95d88 q.1 = .ok q.2 := dT_of (by decide +kernel)
theorem dJ13_bitCount_95d88_0 : decode cJ13_bitCount_95d88 0 = .ok (.lload_n 0, 1) := dTJ13_bitCount_95d88_0_ok 0 (0, .lload_n 0, 1) rfl
theorem dJ13_bitCount_95d88_1 : decode cJ13_bitCount_95d88 1 = .ok (.lload_n 0, 1) := dTJ13_bitCount_95d88_0_ok 1 (1, .lload_n 0, 1) rfl
theorem dJ13_bitCount_95d88_2 : decode cJ13_bitCount_95d88 2 = .ok (.iconst 1, 1) := dTJ13_bitCount_95d88_0_ok 2 (2, .iconst 1, 1) rfl
theorem dJ13_bitCount_95d88_3 : decode cJ13_bitCount_95d88 3 = .ok (.lushr, 1) := dTJ13_bitCount_95d88_0_ok 3 (3, .lushr, 1) rfl
theorem dJ13_bitCount_95d88_4 : decode cJ13_bitCount_95d88 4 = .ok (.ldc2_w 314, 3) := dTJ13_bitCount_95d88_0_ok 4 (4, .ldc2_w 314, 3) rfl
theorem dJ13_bitCount_95d88_7 : decode cJ13_bitCount_95d88 7 = .ok (.land, 1) := dTJ13_bitCount_95d88_0_ok 5 (7, .land, 1) rfl
theorem dJ13_bitCount_95d88_8 : decode cJ13_bitCount_95d88 8 = .ok (.lsub, 1) := dTJ13_bitCount_95d88_0_ok 6 (8, .lsub, 1) rfl
theorem dJ13_bitCount_95d88_9 : decode cJ13_bitCount_95d88 9 = .ok (.lstore_n 0, 1) := dTJ13_bitCount_95d88_0_ok 7 (9, .lstore_n 0, 1) rfl
theorem dJ13_bitCount_95d88_10 : decode cJ13_bitCount_95d88 10 = .ok (.lload_n 0, 1) := dTJ13_bitCount_95d88_0_ok 8 (10, .lload_n 0, 1) rfl
theorem dJ13_bitCount_95d88_11 : decode cJ13_bitCount_95d88 11 = .ok (.ldc2_w 316, 3) := dTJ13_bitCount_95d88_0_ok 9 (11, .ldc2_w 316, 3) rfl
theorem dJ13_bitCount_95d88_14 : decode cJ13_bitCount_95d88 14 = .ok (.land, 1) := dTJ13_bitCount_95d88_0_ok 10 (14, .land, 1) rfl
theorem dJ13_bitCount_95d88_15 : decode cJ13_bitCount_95d88 15 = .ok (.lload_n 0, 1) := dTJ13_bitCount_95d88_0_ok 11 (15, .lload_n 0, 1) rfl
theorem dJ13_bitCount_95d88_16 : decode cJ13_bitCount_95d88 16 = .ok (.iconst 2, 1) := dTJ13_bitCount_95d88_0_ok 12 (16, .iconst 2, 1) rfl
theorem dJ13_bitCount_95d88_17 : decode cJ13_bitCount_95d88 17 = .ok (.lushr, 1) := dTJ13_bitCount_95d88_0_ok 13 (17, .lushr, 1) rfl
theorem dJ13_bitCount_95d88_18 : decode cJ13_bitCount_95d88 18 = .ok (.ldc2_w 316, 3) := dTJ13_bitCount_95d88_0_ok 14 (18, .ldc2_w 316, 3) rfl
theorem dJ13_bitCount_95d88_21 : decode cJ13_bitCount_95d88 21 = .ok (.land, 1) := dTJ13_bitCount_95d88_0_ok 15 (21, .land, 1) rfl
theorem dJ13_bitCount_95d88_22 : decode cJ13_bitCount_95d88 22 = .ok (.ladd, 1) := dTJ13_bitCount_95d88_0_ok 16 (22, .ladd, 1) rfl
theorem dJ13_bitCount_95d88_23 : decode cJ13_bitCount_95d88 23 = .ok (.lstore_n 0, 1) := dTJ13_bitCount_95d88_0_ok 17 (23, .lstore_n 0, 1) rfl
theorem dJ13_bitCount_95d88_24 : decode cJ13_bitCount_95d88 24 = .ok (.lload_n 0, 1) := dTJ13_bitCount_95d88_0_ok 18 (24, .lload_n 0, 1) rfl
theorem dJ13_bitCount_95d88_25 : decode cJ13_bitCount_95d88 25 = .ok (.lload_n 0, 1) := dTJ13_bitCount_95d88_0_ok 19 (25, .lload_n 0, 1) rfl
theorem dJ13_bitCount_95d88_26 : decode cJ13_bitCount_95d88 26 = .ok (.iconst 4, 1) := dTJ13_bitCount_95d88_0_ok 20 (26, .iconst 4, 1) rfl
theorem dJ13_bitCount_95d88_27 : decode cJ13_bitCount_95d88 27 = .ok (.lushr, 1) := dTJ13_bitCount_95d88_0_ok 21 (27, .lushr, 1) rfl
theorem dJ13_bitCount_95d88_28 : decode cJ13_bitCount_95d88 28 = .ok (.ladd, 1) := dTJ13_bitCount_95d88_0_ok 22 (28, .ladd, 1) rfl
theorem dJ13_bitCount_95d88_29 : decode cJ13_bitCount_95d88 29 = .ok (.ldc2_w 318, 3) := dTJ13_bitCount_95d88_0_ok 23 (29, .ldc2_w 318, 3) rfl
theorem dJ13_bitCount_95d88_32 : decode cJ13_bitCount_95d88 32 = .ok (.land, 1) := dTJ13_bitCount_95d88_0_ok 24 (32, .land, 1) rfl
theorem dJ13_bitCount_95d88_33 : decode cJ13_bitCount_95d88 33 = .ok (.lstore_n 0, 1) := dTJ13_bitCount_95d88_0_ok 25 (33, .lstore_n 0, 1) rfl
theorem dJ13_bitCount_95d88_34 : decode cJ13_bitCount_95d88 34 = .ok (.lload_n 0, 1) := dTJ13_bitCount_95d88_0_ok 26 (34, .lload_n 0, 1) rfl
theorem dJ13_bitCount_95d88_35 : decode cJ13_bitCount_95d88 35 = .ok (.lload_n 0, 1) := dTJ13_bitCount_95d88_0_ok 27 (35, .lload_n 0, 1) rfl
theorem dJ13_bitCount_95d88_36 : decode cJ13_bitCount_95d88 36 = .ok (.bipush 8, 2) := dTJ13_bitCount_95d88_0_ok 28 (36, .bipush 8, 2) rfl
theorem dJ13_bitCount_95d88_38 : decode cJ13_bitCount_95d88 38 = .ok (.lushr, 1) := dTJ13_bitCount_95d88_0_ok 29 (38, .lushr, 1) rfl
theorem dJ13_bitCount_95d88_39 : decode cJ13_bitCount_95d88 39 = .ok (.ladd, 1) := dTJ13_bitCount_95d88_0_ok 30 (39, .ladd, 1) rfl
theorem dJ13_bitCount_95d88_40 : decode cJ13_bitCount_95d88 40 = .ok (.lstore_n 0, 1) := dTJ13_bitCount_95d88_0_ok 31 (40, .lstore_n 0, 1) rfl
theorem dJ13_bitCount_95d88_41 : decode cJ13_bitCount_95d88 41 = .ok (.lload_n 0, 1) := dTJ13_bitCount_95d88_0_ok 32 (41, .lload_n 0, 1) rfl
theorem dJ13_bitCount_95d88_42 : decode cJ13_bitCount_95d88 42 = .ok (.lload_n 0, 1) := dTJ13_bitCount_95d88_0_ok 33 (42, .lload_n 0, 1) rfl
theorem dJ13_bitCount_95d88_43 : decode cJ13_bitCount_95d88 43 = .ok (.bipush 16, 2) := dTJ13_bitCount_95d88_0_ok 34 (43, .bipush 16, 2) rfl
theorem dJ13_bitCount_95d88_45 : decode cJ13_bitCount_95d88 45 = .ok (.lushr, 1) := dTJ13_bitCount_95d88_0_ok 35 (45, .lushr, 1) rfl
theorem dJ13_bitCount_95d88_46 : decode cJ13_bitCount_95d88 46 = .ok (.ladd, 1) := dTJ13_bitCount_95d88_0_ok 36 (46, .ladd, 1) rfl
theorem dJ13_bitCount_95d88_47 : decode cJ13_bitCount_95d88 47 = .ok (.lstore_n 0, 1) := dTJ13_bitCount_95d88_0_ok 37 (47, .lstore_n 0, 1) rfl
theorem dJ13_bitCount_95d88_48 : decode cJ13_bitCount_95d88 48 = .ok (.lload_n 0, 1) := dTJ13_bitCount_95d88_0_ok 38 (48, .lload_n 0, 1) rfl
theorem dJ13_bitCount_95d88_49 : decode cJ13_bitCount_95d88 49 = .ok (.lload_n 0, 1) := dTJ13_bitCount_95d88_0_ok 39 (49, .lload_n 0, 1) rfl
theorem dJ13_bitCount_95d88_50 : decode cJ13_bitCount_95d88 50 = .ok (.bipush 32, 2) := dTJ13_bitCount_95d88_0_ok 40 (50, .bipush 32, 2) rfl
theorem dJ13_bitCount_95d88_52 : decode cJ13_bitCount_95d88 52 = .ok (.lushr, 1) := dTJ13_bitCount_95d88_0_ok 41 (52, .lushr, 1) rfl
theorem dJ13_bitCount_95d88_53 : decode cJ13_bitCount_95d88 53 = .ok (.ladd, 1) := dTJ13_bitCount_95d88_0_ok 42 (53, .ladd, 1) rfl
theorem dJ13_bitCount_95d88_54 : decode cJ13_bitCount_95d88 54 = .ok (.lstore_n 0, 1) := dTJ13_bitCount_95d88_0_ok 43 (54, .lstore_n 0, 1) rfl
theorem dJ13_bitCount_95d88_55 : decode cJ13_bitCount_95d88 55 = .ok (.lload_n 0, 1) := dTJ13_bitCount_95d88_0_ok 44 (55, .lload_n 0, 1) rfl
theorem dJ13_bitCount_95d88_56 : decode cJ13_bitCount_95d88 56 = .ok (.l2i, 1) := dTJ13_bitCount_95d88_0_ok 45 (56, .l2i, 1) rfl
theorem dJ13_bitCount_95d88_57 : decode cJ13_bitCount_95d88 57 = .ok (.bipush 127, 2) := dTJ13_bitCount_95d88_0_ok 46 (57, .bipush 127, 2) rfl
theorem dJ13_bitCount_95d88_59 : decode cJ13_bitCount_95d88 59 = .ok (.iand, 1) := dTJ13_bitCount_95d88_0_ok 47 (59, .iand, 1) rfl
theorem dJ13_bitCount_95d88_60 : decode cJ13_bitCount_95d88 60 = .ok (.ireturn, 1) := dTJ13_bitCount_95d88_0_ok 48 (60, .ireturn, 1) rfl
noncomputable def dTJ9_abs_0f7a4_0 : List (Nat × Instr × Nat) := [(0, .iload_n 0, 1), (1, .ifCond .ge 8, 3), (4, .iload_n 0, 1), (5, .ineg, 1), (6, .goto 4, 3), (9, .iload_n 0, 1), (10, .ireturn, 1)]
theorem dTJ9_abs_0f7a4_0_ok : ∀ (k : Nat) (q : Nat × Instr × Nat), dTJ9_abs_0f7a4_0[k]? = some q → decode cJ9_abs_0f7a4 q.1 = .ok q.2 := dT_of (by decide +kernel)
theorem dJ9_abs_0f7a4_0 : decode cJ9_abs_0f7a4 0 = .ok (.iload_n 0, 1) := dTJ9_abs_0f7a4_0_ok 0 (0, .iload_n 0, 1) rfl
theorem dJ9_abs_0f7a4_1 : decode cJ9_abs_0f7a4 1 = .ok (.ifCond .ge 8, 3) := dTJ9_abs_0f7a4_0_ok 1 (1, .ifCond .ge 8, 3) rfl
theorem dJ9_abs_0f7a4_4 : decode cJ9_abs_0f7a4 4 = .ok (.iload_n 0, 1) := dTJ9_abs_0f7a4_0_ok 2 (4, .iload_n 0, 1) rfl
theorem dJ9_abs_0f7a4_5 : decode cJ9_abs_0f7a4 5 = .ok (.ineg, 1) := dTJ9_abs_0f7a4_0_ok 3 (5, .ineg, 1) rfl
theorem dJ9_abs_0f7a4_6 : decode cJ9_abs_0f7a4 6 = .ok (.goto 4, 3) := dTJ9_abs_0f7a4_0_ok 4 (6, .goto 4, 3) rfl
theorem dJ9_abs_0f7a4_9 : decode cJ9_abs_0f7a4 9 = .ok (.iload_n 0, 1) := dTJ9_abs_0f7a4_0_ok 5 (9, .iload_n 0, 1) rfl
theorem dJ9_abs_0f7a4_10 : decode cJ9_abs_0f7a4 10 = .ok (.ireturn, 1) := dTJ9_abs_0f7a4_0_ok 6 (10, .ireturn, 1) rfl
end
section
/-! The machine seen as a heap of known objects, by one rule an instruction (gS), and what a method's call is to do (gSafe). -/
abbrev gO : Type := (Nat × vp_A) ⊕ (Nat × List Value)
abbrev gH : Type := Nat → Option gO
def gU (h : gH) (a : Nat) (o : gO) : gH := fun q => if q = a then some o else h q
theorem gU_eq (h : gH) (a : Nat) (o : gO) : gU h a o a = some o := if_pos rfl
theorem gU_ne {h : gH} {a q : Nat} {o : gO} (n : q ≠ a) : gU h a o q = h q := if_neg n
theorem gU_gU (h : gH) (a : Nat) (o o' : gO) : gU (gU h a o) a o' = gU h a o' := by
  funext q
  by_cases e : q = a
  · subst e; rw [gU_eq, gU_eq]
  · rw [gU_ne e, gU_ne e, gU_ne e]
abbrev gL : Type := List (Option Value)
def gget (lv : gL) (i : Nat) : Option Value := match lv[i]? with
  | some (some v) => some v
  | _ => none
def gsetB (lv : gL) (j : Nat) (l2 : gL) : gL := match gget lv j with
  | some (.long _) => l2.set j none
  | some (.double _) => l2.set j none
  | _ => l2
def gset (lv : gL) (i : Nat) (v : Value) : gL := match i with
  | 0 => lv.set 0 (some v)
  | j + 1 => gsetB lv j (lv.set (j + 1) (some v))
def gset2 (lv : gL) (i : Nat) (v : Value) : gL := match i with
  | 0 => (lv.set 0 (some v)).set 1 none
  | j + 1 => gsetB lv j ((lv.set (j + 1) (some v)).set (j + 2) none)
/-- a method: its name, code, number of locals, answer's type, handlers (from, to, handler, class' number, class) -/
abbrev gM : Type := MethodName × ByteArray × Nat × Option FieldType × List (Nat × Nat × Nat × Nat × String)
abbrev gK : Type := Nat → gL → List Value → gH → Nat → Nat → Prop
abbrev gC : Type := gM → List Value → gH → Nat → Nat → (Option Value → gH → Prop) → (String → gH → Prop) → Prop
def gCnd : Jvm.ClassFile.Cond → Int32 → Int32 → Prop
  | .eq, x, y => x = y
  | .ne, x, y => ¬ x = y
  | .lt, x, y => x < y
  | .ge, x, y => y ≤ x
  | .gt, x, y => y < x
  | .le, x, y => x ≤ y
def gThr (y : gM) (X : String → gH → Prop) (K : gK) (pc : Nat) (lv : gL) (E : String) (h : gH) (bc bs : Nat) : Prop := X E h
/-- a row of the tables that stays good, or one of the few others that are carried along -/
def gNwK : Jvm.Cond → Bool
  | .fieldLinkNest .. => true
  | .methodLinkNest .. => true
  | .castable .. => true
  | .declares _ => true
  | _ => false
/-- a field by its number in a class' pool: which of the known classes, which field, its type, final or not -/
def gFL (own : String) (idx ci k : Nat) (ty : FieldType) (fin : Bool) : Prop := ∃ (C : String) (T : u_T) (N : Nat), vwCl[ci]? = some (C, T, N) ∧ k < N ∧ parseFieldDescriptor (T k).2.2.1 = some ty ∧ (T k).2.2.2 = fin ∧ (T k).1 = C ∧
  (Jvm.Cond.fieldLink own idx C (T k).2.1 (T k).2.2.1 ∈ lw_tbl ∨ ∃ host : String, Jvm.Cond.fieldLinkNest own idx C (T k).2.1 (T k).2.2.1 host ∈ lw_tbl)
/-- what the tables say of a method -/
def gOK (z : gM) : Prop := plainName z.1.cls = true ∧ Jvm.Cond.code z.1 z.2.1 z.2.2.1 z.2.2.2.1 ∈ lw_tbl ∧ Jvm.Cond.initialized z.1.cls ∈ lw_tbl ∧ (z.1.cls ≠ "java/lang/invoke/MethodHandle" ∧ z.1.cls ≠ "java/lang/invoke/VarHandle") ∧ z.2.2.1 ≤ 20 ∧ z.2.2.2.2 = []
def gNa (z : gM) (n : Nat) : Prop := (parseMethodDescriptor z.1.desc).map (fun d => d.parameters.length) = some n
def gLV (own : String) (idx : Nat) (z : gM) (n ci : Nat) : Prop := gOK z ∧ gNa z n ∧ Jvm.Cond.methodLink own idx z.1 ∈ lw_tbl ∧ Jvm.Cond.instanceMethod z.1 ∈ lw_tbl ∧ Jvm.Cond.selects z.1.cls z.1 z.1 ∈ lw_tbl ∧ ∃ (T : u_T) (N : Nat), vwCl[ci]? = some (z.1.cls, T, N)
def gLS (own : String) (idx : Nat) (z : gM) (n : Nat) : Prop := gOK z ∧ gNa z n ∧ Jvm.Cond.methodLink own idx z.1 ∈ lw_tbl ∧ Jvm.Cond.static z.1 ∈ lw_tbl
def gLI (own : String) (idx : Nat) (z : gM) (n : Nat) : Prop := gOK z ∧ gNa z n ∧ z.2.2.2.1 = none ∧ z.1.name = "<init>" ∧ Jvm.Cond.instanceMethod z.1 ∈ lw_tbl ∧ (Jvm.Cond.methodLink own idx z.1 ∈ lw_tbl ∨ ∃ host : String, Jvm.Cond.methodLinkNest own idx z.1 host ∈ lw_tbl)
def gExc : List String := ["java/lang/IndexOutOfBoundsException", "java/lang/IllegalArgumentException", "java/lang/IllegalStateException"]
def gNames : List String := ["java/lang/RuntimeException", "java/lang/Exception"]
/-- 'throw new E("text")' stands at pc -/
def gTN (y : gM) (pc ik : Nat) (E : String) : Prop := ∃ (is ic : Nat) (text : String), E ∈ gExc ∧ y.2.2.2.2 = [] ∧ decode y.2.1 (pc + 3) = .ok (.dup, 1) ∧ decode y.2.1 (pc + 4) = .ok (.ldc is, 2) ∧ decode y.2.1 (pc + 6) = .ok (.invokespecial ic, 3) ∧ decode y.2.1 (pc + 9) = .ok (.athrow, 1) ∧
  Jvm.Cond.classLink y.1.cls ik E ∈ lw_tbl ∧ Jvm.Cond.initialized E ∈ lw_tbl ∧ Jvm.Cond.stringRef y.1.cls is text ∈ lw_tbl ∧ (∀ w ∈ vx_atS y.1.cls ic E gNames, w ∈ lw_tbl ∧ (goodWord w = true ∨ gNwK w = true) ∧ vx_ot w = true) ∧ Bundle.fit E = true
/-- how long an instruction is -/
def gLen : Instr → Nat → Bool
  | .tableswitch .., _ => true
  | .iload _, n => n == 2
  | .lload _, n => n == 2
  | .dload _, n => n == 2
  | .aload _, n => n == 2
  | .istore _, n => n == 2
  | .lstore _, n => n == 2
  | .dstore _, n => n == 2
  | .astore _, n => n == 2
  | .bipush _, n => n == 2
  | .newarray _, n => n == 2
  | .sipush _, n => n == 3
  | .iinc .., n => n == 3
  | .ldc2_w _, n => n == 3
  | .getfield _, n => n == 3
  | .putfield _, n => n == 3
  | .goto _, n => n == 3
  | .ifCond .., n => n == 3
  | .if_icmp .., n => n == 3
  | .invokevirtual _, n => n == 3
  | .invokespecial _, n => n == 3
  | .invokestatic _, n => n == 3
  | .new _, n => n == 3
  | .anewarray _, n => n == 3
  | .ifnonnull _, n => n == 3
  | .ldc _, n => n == 2
  | .multianewarray .., n => n == 4
  | _, n => n == 1
/-- what an array's first contents are -/
def gNew : ArrayType → Option (Nat × ((Nat → Int32) ⊕ (Nat → Int64) ⊕ (Nat → UInt32) ⊕ (Nat → UInt64) ⊕ (Nat → Option Nat)))
  | .int => some (0, .inl (fun _ => 0))
  | .boolean => some (1, .inl (fun _ => 0))
  | _ => none
/-- an array of n arrays of k, in a row behind q: what the heap is with it -/
def gG2 (h : gH) (q t ti n k : Nat) : gH := fun p => if p = q then some (.inl (t, n, .inr (.inr (.inr (.inr (fun j => if j < n then some (q + 1 + j) else none)))))) else if q < p ∧ p ≤ q + n then some (.inl (ti, k, .inl (fun _ => 0))) else h p
/-- .. an array of n arrays of k arrays of l -/
def gG3 (h : gH) (q t tm ti n k l : Nat) : gH := fun p => if p = q then some (.inl (t, n, .inr (.inr (.inr (.inr (fun j => if j < n then some (q + 1 + j * (k + 1)) else none)))))) else if q < p ∧ p ≤ q + n * (k + 1) then (if (p - q - 1) % (k + 1) = 0 then some (.inl (tm, k, .inr (.inr (.inr (.inr (fun j => if j < k then some (p + 1 + j) else none)))))) else some (.inl (ti, l, .inl (fun _ => 0)))) else h p
/-- arrays of arrays that can be made: the class' name, the array, its parts -/
def gMN2 : String → Option (Nat × Nat)
  | "[[I" => some (2, 0)
  | "[[Z" => some (3, 1)
  | _ => none
def gCat (st : List Value) : Nat := (st.map fun v => v.category).sum
def gBegin (T : u_T) (N : Nat) (fs : List Value) : Prop := fs.length = N ∧ ∀ j : Nat, j < N → ∃ ty : FieldType, parseFieldDescriptor (T j).2.2.1 = some ty ∧ defaultValue ty = vp_V fs j
/-- ONE INSTRUCTION, backwards: from this place K holds, if it holds at all places to which the instruction may go on -/
def gS (call : gC) (y : gM) (d : Nat) (Post : Option Value → gH → Prop) (X : String → gH → Prop) (ro : Nat → Option (Nat × (Nat → Int32))) (K : gK) (i : Instr) (pc : Nat) (lv : gL) (st : List Value) (h : gH) (bc bs : Nat) : Prop :=
  match i with
  | .iload n => ∃ x, gget lv n = some (.int x) ∧ K (pc + 2) lv (.int x :: st) h bc bs
  | .iload_n n => ∃ x, gget lv n.val = some (.int x) ∧ K (pc + 1) lv (.int x :: st) h bc bs
  | .lload n => ∃ x, gget lv n = some (.long x) ∧ K (pc + 2) lv (.long x :: st) h bc bs
  | .lload_n n => ∃ x, gget lv n.val = some (.long x) ∧ K (pc + 1) lv (.long x :: st) h bc bs
  | .dload n => ∃ x, gget lv n = some (.double x) ∧ K (pc + 2) lv (.double x :: st) h bc bs
  | .aload n => ∃ x, gget lv n = some (.ref x) ∧ K (pc + 2) lv (.ref x :: st) h bc bs
  | .aload_n n => ∃ x, gget lv n.val = some (.ref x) ∧ K (pc + 1) lv (.ref x :: st) h bc bs
  | .istore n => ∃ x r, st = .int x :: r ∧ n < lv.length ∧ K (pc + 2) (gset lv n (.int x)) r h bc bs
  | .istore_n n => ∃ x r, st = .int x :: r ∧ n.val < lv.length ∧ K (pc + 1) (gset lv n.val (.int x)) r h bc bs
  | .lstore n => ∃ x r, st = .long x :: r ∧ n + 1 < lv.length ∧ K (pc + 2) (gset2 lv n (.long x)) r h bc bs
  | .lstore_n n => ∃ x r, st = .long x :: r ∧ n.val + 1 < lv.length ∧ K (pc + 1) (gset2 lv n.val (.long x)) r h bc bs
  | .dstore n => ∃ x r, st = .double x :: r ∧ n + 1 < lv.length ∧ K (pc + 2) (gset2 lv n (.double x)) r h bc bs
  | .astore n => ∃ x r, st = .ref x :: r ∧ n < lv.length ∧ K (pc + 2) (gset lv n (.ref x)) r h bc bs
  | .astore_n n => ∃ x r, st = .ref x :: r ∧ n.val < lv.length ∧ K (pc + 1) (gset lv n.val (.ref x)) r h bc bs
  | .iinc n k => ∃ x v, gget lv n = some (.int x) ∧ x + Int32.ofInt k = v ∧ n < lv.length ∧ K (pc + 3) (gset lv n (.int v)) st h bc bs
  | .iconst n => ∃ v, Int32.ofInt n = v ∧ K (pc + 1) lv (.int v :: st) h bc bs
  | .bipush n => ∃ v, (Int8.ofInt n).toInt32 = v ∧ K (pc + 2) lv (.int v :: st) h bc bs
  | .sipush n => ∃ v, (Int16.ofInt n).toInt32 = v ∧ K (pc + 3) lv (.int v :: st) h bc bs
  | .lconst n => ∃ v, Int64.ofNat (n : Nat) = v ∧ K (pc + 1) lv (.long v :: st) h bc bs
  | .dconst n => n = 0 ∧ K (pc + 1) lv (.double FP.dconst0 :: st) h bc bs
  | .ldc n => ∃ v, Jvm.Cond.constant y.1.cls n v ∈ lw_tbl ∧ K (pc + 2) lv (.int v :: st) h bc bs
  | .ldc2_w n => ∃ v, Jvm.Cond.constantLong y.1.cls n v ∈ lw_tbl ∧ K (pc + 3) lv (.long v :: st) h bc bs
  | .iadd => ∃ b a r, st = .int b :: .int a :: r ∧ K (pc + 1) lv (.int (a + b) :: r) h bc bs
  | .isub => ∃ b a r, st = .int b :: .int a :: r ∧ K (pc + 1) lv (.int (a - b) :: r) h bc bs
  | .imul => ∃ b a r, st = .int b :: .int a :: r ∧ K (pc + 1) lv (.int (a * b) :: r) h bc bs
  | .iand => ∃ b a r, st = .int b :: .int a :: r ∧ K (pc + 1) lv (.int (a &&& b) :: r) h bc bs
  | .ixor => ∃ b a r, st = .int b :: .int a :: r ∧ K (pc + 1) lv (.int (a ^^^ b) :: r) h bc bs
  | .idiv => ∃ b a r, st = .int b :: .int a :: r ∧ ¬ b = 0 ∧ K (pc + 1) lv (.int (a / b) :: r) h bc bs
  | .irem => ∃ b a r, st = .int b :: .int a :: r ∧ ¬ b = 0 ∧ K (pc + 1) lv (.int (a - a / b * b) :: r) h bc bs
  | .ishr => ∃ b a r, st = .int b :: .int a :: r ∧ K (pc + 1) lv (.int (a >>> (b &&& 31)) :: r) h bc bs
  | .ladd => ∃ b a r, st = .long b :: .long a :: r ∧ K (pc + 1) lv (.long (a + b) :: r) h bc bs
  | .lsub => ∃ b a r, st = .long b :: .long a :: r ∧ K (pc + 1) lv (.long (a - b) :: r) h bc bs
  | .lmul => ∃ b a r, st = .long b :: .long a :: r ∧ K (pc + 1) lv (.long (a * b) :: r) h bc bs
  | .land => ∃ b a r, st = .long b :: .long a :: r ∧ K (pc + 1) lv (.long (a &&& b) :: r) h bc bs
  | .lor => ∃ b a r, st = .long b :: .long a :: r ∧ K (pc + 1) lv (.long (a ||| b) :: r) h bc bs
  | .lxor => ∃ b a r, st = .long b :: .long a :: r ∧ K (pc + 1) lv (.long (a ^^^ b) :: r) h bc bs
  | .lshl => ∃ b a r, st = .int b :: .long a :: r ∧ K (pc + 1) lv (.long (a <<< (b.toInt64 &&& 63)) :: r) h bc bs
  | .lushr => ∃ b a r, st = .int b :: .long a :: r ∧ K (pc + 1) lv (.long (a.toUInt64 >>> (b.toInt64.toUInt64 &&& Int64.toUInt64 63)).toInt64 :: r) h bc bs
  | .lcmp => ∃ b a r, st = .long b :: .long a :: r ∧ K (pc + 1) lv (.int (lg_cmp a b) :: r) h bc bs
  | .i2l => ∃ a r, st = .int a :: r ∧ K (pc + 1) lv (.long a.toInt64 :: r) h bc bs
  | .l2i => ∃ a r, st = .long a :: r ∧ K (pc + 1) lv (.int a.toInt32 :: r) h bc bs
  | .i2d => ∃ a r, st = .int a :: r ∧ K (pc + 1) lv (.double (FP.i2d a) :: r) h bc bs
  | .ddiv => ∃ b a r, st = .double b :: .double a :: r ∧ vf_n64 (FP.ddiv a b) ∧ K (pc + 1) lv (.double (FP.ddiv a b) :: r) h bc bs
  | .dcmp op => ∃ b a r, st = .double b :: .double a :: r ∧ K (pc + 1) lv (.int (Op.cmpValue (FP.dcmp a b) op) :: r) h bc bs
  | .dup => ∃ v r, st = v :: r ∧ v.category = 1 ∧ K (pc + 1) lv (v :: v :: r) h bc bs
  | .dup2 => ∃ v w r, st = v :: w :: r ∧ v.category = 1 ∧ w.category = 1 ∧ K (pc + 1) lv (v :: w :: v :: w :: r) h bc bs
  | .pop => ∃ v r, st = v :: r ∧ v.category = 1 ∧ K (pc + 1) lv r h bc bs
  | .goto off => ∃ t : Nat, (pc : Int) + off = (t : Int) ∧ K t lv st h bc bs
  | .ifCond cn off => ∃ (x : Int32) (r : List Value) (t : Nat), st = .int x :: r ∧ (pc : Int) + off = (t : Int) ∧ (gCnd cn x 0 → K t lv r h bc bs) ∧ (¬ gCnd cn x 0 → K (pc + 3) lv r h bc bs)
  | .if_icmp cn off => ∃ (b a : Int32) (r : List Value) (t : Nat), st = .int b :: .int a :: r ∧ (pc : Int) + off = (t : Int) ∧ (gCnd cn a b → K t lv r h bc bs) ∧ (¬ gCnd cn a b → K (pc + 3) lv r h bc bs)
  | .ifnonnull off => ∃ (a : Nat) (r : List Value) (t : Nat), st = .ref a :: r ∧ (pc : Int) + off = (t : Int) ∧ K t lv r h bc bs
  | .tableswitch dflt lo hi offs => ∃ (x : Int32) (r : List Value), st = .int x :: r ∧ ((x.toInt < lo ∨ hi < x.toInt) → ∃ t : Nat, (pc : Int) + dflt = (t : Int) ∧ K t lv r h bc bs) ∧ (¬ x.toInt < lo → ¬ hi < x.toInt → ∃ (off : Int) (t : Nat), offs[(x.toInt - lo).toNat]? = some off ∧ (pc : Int) + off = (t : Int) ∧ K t lv r h bc bs)
  | .getfield idx => ∃ a r ci k ty fin fs v, st = .ref a :: r ∧ gFL y.1.cls idx ci k ty fin ∧ h a = some (.inr (ci, fs)) ∧ fs[k]? = some v ∧ K (pc + 3) lv (v :: r) h bc bs
  | .putfield idx => ∃ v a r ci k ty fin fs, st = v :: .ref a :: r ∧ gFL y.1.cls idx ci k ty fin ∧ (fin = false ∨ (y.1.name = "<init>" ∧ ∃ (T : u_T) (N : Nat), vwCl[ci]? = some (y.1.cls, T, N))) ∧ h a = some (.inr (ci, fs)) ∧ k < fs.length ∧ narrow ty v = v ∧ fits ty v = true ∧ K (pc + 3) lv r (gU h a (.inr (ci, fs.set k v))) bc bs
  | .iaload => ∃ i a r n f, st = .int i :: .ref a :: r ∧ (h a = some (.inl (0, n, .inl f)) ∨ ro a = some (n, f)) ∧ vp_in i n ∧ K (pc + 1) lv (.int (f i.toNatClampNeg) :: r) h bc bs
  | .baload => ∃ i a r n f, st = .int i :: .ref a :: r ∧ h a = some (.inl (1, n, .inl f)) ∧ vp_in i n ∧ K (pc + 1) lv (.int (f i.toNatClampNeg) :: r) h bc bs
  | .iastore => ∃ x i a r n f, st = .int x :: .int i :: .ref a :: r ∧ h a = some (.inl (0, n, .inl f)) ∧ vp_in i n ∧ K (pc + 1) lv r (gU h a (.inl (0, n, .inl (upd f i.toNatClampNeg x)))) bc bs
  | .bastore => ∃ x i a r n f, st = .int x :: .int i :: .ref a :: r ∧ h a = some (.inl (1, n, .inl f)) ∧ vp_in i n ∧ K (pc + 1) lv r (gU h a (.inl (1, n, .inl (upd f i.toNatClampNeg (vp_nar .boolean x))))) bc bs
  | .arraylength => ∃ a r v, st = .ref a :: r ∧ ((∃ t x, h a = some (.inl (t, x)) ∧ t < 6 ∧ Int32.ofNat x.1 = v) ∨ ∃ n f, ro a = some (n, f) ∧ Int32.ofNat n = v) ∧ K (pc + 1) lv (.int v :: r) h bc bs
  | .newarray at_ => ∃ n r N t c0, st = .int n :: r ∧ gNew at_ = some (t, c0) ∧ ¬ n < 0 ∧ n.toNatClampNeg = N ∧ N ≤ 1000000 ∧ 1 ≤ bc ∧ N ≤ bs ∧ ∀ q : Nat, h q = none → K (pc + 2) lv (.ref q :: r) (gU h q (.inl (t, N, c0))) (bc - 1) (bs - N)
  | .new idx => (∃ ci C T N fs, vwCl[ci]? = some (C, T, N) ∧ Jvm.Cond.classLink y.1.cls idx C ∈ lw_tbl ∧ Jvm.Cond.instantiable C N ∈ lw_tbl ∧ Jvm.Cond.initialized C ∈ lw_tbl ∧ gBegin T N fs ∧ 1 ≤ bc ∧ N ≤ bs ∧ ∀ q : Nat, h q = none → K (pc + 3) lv (.ref q :: st) (gU h q (.inr (ci, fs))) (bc - 1) (bs - N)) ∨
      (∃ E, gTN y pc idx E ∧ 6 ≤ d ∧ 1 ≤ bc ∧ 6 ≤ bs ∧ gCat st ≤ 100 ∧ X E h)
  | .invokespecial idx => (∃ a r, st = .ref a :: r ∧ Jvm.Cond.methodLink y.1.cls idx objectInit ∈ lw_tbl ∧ 1 ≤ d ∧ gCat r ≤ 8 ∧ K (pc + 3) lv r h bc bs) ∨
      (∃ z n as a r mc ms, gLI y.1.cls idx z n ∧ st = as.reverse ++ .ref a :: r ∧ as.length = n ∧ gCat r ≤ 8 ∧ mc ≤ bc ∧ ms ≤ bs ∧ call z (.ref a :: as) h mc ms (fun v h' => K (pc + 3) lv (v.toList ++ r) h' (bc - mc) (bs - ms)) (fun E h' => gThr y X K pc lv E h' (bc - mc) (bs - ms)))
  | .invokevirtual idx => (∃ z n ci as a r fs mc ms, gLV y.1.cls idx z n ci ∧ st = as.reverse ++ .ref a :: r ∧ as.length = n ∧ h a = some (.inr (ci, fs)) ∧ gCat r ≤ 8 ∧ mc ≤ bc ∧ ms ≤ bs ∧ call z (.ref a :: as) h mc ms (fun v h' => K (pc + 3) lv (v.toList ++ r) h' (bc - mc) (bs - ms)) (fun E h' => gThr y X K pc lv E h' (bc - mc) (bs - ms)))
  | .invokestatic idx => (∃ z n as r mc ms, gLS y.1.cls idx z n ∧ st = as.reverse ++ r ∧ as.length = n ∧ gCat r ≤ 8 ∧ mc ≤ bc ∧ ms ≤ bs ∧ call z as h mc ms (fun v h' => K (pc + 3) lv (v.toList ++ r) h' (bc - mc) (bs - ms)) (fun E h' => gThr y X K pc lv E h' (bc - mc) (bs - ms))) ∨
      (∃ a r, st = .int a :: r ∧ Jvm.Cond.methodLink y.1.cls idx Lib.Math.abs.name ∈ lw_tbl ∧ 1 ≤ d ∧ gCat r ≤ 8 ∧ K (pc + 3) lv (.int (if 0 ≤ a then a else 0 - a) :: r) h bc bs)
  | .anewarray idx => ∃ n r N, st = .int n :: r ∧ Jvm.Cond.classLink y.1.cls idx "GhostCandlesLaw$Ghost" ∈ lw_tbl ∧ ¬ n < 0 ∧ n.toNatClampNeg = N ∧ N ≤ 1000 ∧ 1 ≤ bc ∧ N ≤ bs ∧ ∀ q : Nat, h q = none → K (pc + 3) lv (.ref q :: r) (gU h q (.inl (5, N, .inr (.inr (.inr (.inr (fun _ => none))))))) (bc - 1) (bs - N)
  | .multianewarray idx dims => (dims = 2 ∧ ∃ nm t ti n k r N M, st = .int k :: .int n :: r ∧ gMN2 nm = some (t, ti) ∧ Jvm.Cond.classLink y.1.cls idx nm ∈ lw_tbl ∧ ¬ n < 0 ∧ n.toNatClampNeg = N ∧ ¬ k < 0 ∧ k.toNatClampNeg = M ∧ N ≤ 1000 ∧ M ≤ 1000 ∧ 1 + N ≤ bc ∧ N + N * M ≤ bs ∧ ∀ q : Nat, (∀ j, j ≤ N → h (q + j) = none) → K (pc + 4) lv (.ref q :: r) (gG2 h q t ti N M) (bc - (1 + N)) (bs - (N + N * M))) ∨
      (dims = 3 ∧ ∃ n k l r N M P, st = .int l :: .int k :: .int n :: r ∧ Jvm.Cond.classLink y.1.cls idx "[[[Z" ∈ lw_tbl ∧ ¬ n < 0 ∧ n.toNatClampNeg = N ∧ ¬ k < 0 ∧ k.toNatClampNeg = M ∧ ¬ l < 0 ∧ l.toNatClampNeg = P ∧ N ≤ 100 ∧ M ≤ 100 ∧ P ≤ 100 ∧ 1 + N * (M + 1) ≤ bc ∧ N + N * (M + M * P) ≤ bs ∧ ∀ q : Nat, (∀ j, j ≤ N * (M + 1) → h (q + j) = none) → K (pc + 4) lv (.ref q :: r) (gG3 h q 4 3 1 N M P) (bc - (1 + N * (M + 1))) (bs - (N + N * (M + M * P))))
  | .aastore => ∃ v i a r n f fs, st = .ref v :: .int i :: .ref a :: r ∧ h a = some (.inl (5, n, .inr (.inr (.inr (.inr f))))) ∧ h v = some (.inr (5, fs)) ∧ vp_in i n ∧ K (pc + 1) lv r (gU h a (.inl (5, n, .inr (.inr (.inr (.inr (va_up f i.toNatClampNeg (some v)))))))) bc bs
  | .aaload => ∃ i a r t n f v, st = .int i :: .ref a :: r ∧ h a = some (.inl (t, n, .inr (.inr (.inr (.inr f))))) ∧ 2 ≤ t ∧ t < 6 ∧ vp_in i n ∧ f i.toNatClampNeg = some v ∧ K (pc + 1) lv (.ref v :: r) h bc bs
  | .areturn => ∃ a ty, st = [.ref a] ∧ y.2.2.2.1 = some ty ∧ ((∃ C, ty = .object C) ∨ ∃ t, ty = .array t) ∧ Post (some (.ref a)) h
  | .ireturn => ∃ x ty, st = [.int x] ∧ y.2.2.2.1 = some ty ∧ narrow ty (.int x) = .int x ∧ Post (some (.int x)) h
  | .lreturn => ∃ x, st = [.long x] ∧ y.2.2.2.1 = some .long ∧ Post (some (.long x)) h
  | .dreturn => ∃ x, st = [.double x] ∧ y.2.2.2.1 = some .double ∧ Post (some (.double x)) h
  | .return_ => st = [] ∧ y.2.2.2.1 = none ∧ Post none h
  | _ => False
def gClosed (call : gC) (y : gM) (d : Nat) (Post : Option Value → gH → Prop) (X : String → gH → Prop) (ro : Nat → Option (Nat × (Nat → Int32))) (K : gK) : Prop :=
  ∀ (pc : Nat) (lv : gL) (st : List Value) (h : gH) (bc bs : Nat) (i : Instr) (len : Nat), decode y.2.1 pc = .ok (i, len) → gLen i len = true → gS call y d Post X ro K i pc lv st h bc bs → K pc lv st h bc bs
def gSl : List Value → gL
  | [] => []
  | .long x :: vs => some (.long x) :: none :: gSl vs
  | .double x :: vs => some (.double x) :: none :: gSl vs
  | v :: vs => some v :: gSl vs
def gEntry (n : Nat) (vs : List Value) : gL := gSl vs ++ List.replicate (n - (gSl vs).length) none
/-- a call of y from the heap h, in d frames, with mc cells and ms slots to spend, comes to an end: with an answer in Post, or an exception in X -/
def gSafe : Nat → gC
  | 0, _, _, _, _, _, _, _ => False
  | d + 1, y, args, h, mc, ms, Post, X => (gSl args).length ≤ y.2.2.1 ∧ ∀ K : gK, gClosed (gSafe d) y (d + 1) Post X (fun _ => none) K → K 0 (gEntry y.2.2.1 args) [] h mc ms
end
section
/-! locals -/
theorem gget_some {lv : gL} {i : Nat} {v : Value} : gget lv i = some v ↔ lv[i]? = some (some v) := by
  unfold gget
  constructor
  · intro h
    split at h
    · next w hw => rw [hw, Option.some.inj h]
    · cases h
  · intro h
    rw [h]
theorem gget_set {lv : gL} {i j : Nat} {o : Option Value} {w : Value} (h : gget (lv.set i o) j = some w) : (j = i ∧ o = some w) ∨ (j ≠ i ∧ gget lv j = some w) := by
  rw [gget_some] at h
  by_cases e : j = i
  · subst e
    rw [List.getElem?_set] at h
    simp at h
    exact Or.inl ⟨rfl, h.2⟩
  · rw [List.getElem?_set_ne (Ne.symm e)] at h
    exact Or.inr ⟨e, gget_some.mpr h⟩
theorem gsetB_spec {lv l2 : gL} {k j : Nat} {w : Value} (h : gget (gsetB lv k l2) j = some w) : gget l2 j = some w ∧ (j = k → ∀ v, gget lv k = some v → v.category ≠ 2) := by
  unfold gsetB at h
  split at h
  · next x hx =>
    rcases gget_set h with ⟨-, h1⟩ | ⟨h1, h2⟩
    · cases h1
    · exact ⟨h2, fun e => absurd e h1⟩
  · next x hx =>
    rcases gget_set h with ⟨-, h1⟩ | ⟨h1, h2⟩
    · cases h1
    · exact ⟨h2, fun e => absurd e h1⟩
  · next n1 n2 =>
    refine ⟨h, fun _ v hv hc => ?_⟩
    cases v with
    | long x => exact n1 x hv
    | double x => exact n2 x hv
    | _ => simp [Value.category] at hc
theorem gset_spec {lv : gL} {i j : Nat} {v w : Value} (h : gget (gset lv i v) j = some w) : (j = i ∧ w = v) ∨ (j ≠ i ∧ gget lv j = some w ∧ (j + 1 = i → w.category ≠ 2)) := by
  cases i with
  | zero =>
    rcases gget_set h with ⟨h1, h2⟩ | ⟨h1, h2⟩
    · exact Or.inl ⟨h1, (Option.some.inj h2).symm⟩
    · exact Or.inr ⟨h1, h2, fun e => by omega⟩
  | succ k =>
    obtain ⟨h0, hc⟩ := gsetB_spec h
    rcases gget_set h0 with ⟨h1, h2⟩ | ⟨h1, h2⟩
    · exact Or.inl ⟨h1, (Option.some.inj h2).symm⟩
    · refine Or.inr ⟨h1, h2, fun e => ?_⟩
      have e2 : j = k := by omega
      exact hc e2 w (e2 ▸ h2)
theorem gset2_spec {lv : gL} {i j : Nat} {v w : Value} (h : gget (gset2 lv i v) j = some w) : (j = i ∧ w = v) ∨ (j ≠ i ∧ j ≠ i + 1 ∧ gget lv j = some w ∧ (j + 1 = i → w.category ≠ 2)) := by
  cases i with
  | zero =>
    rcases gget_set h with ⟨-, h2⟩ | ⟨h1, h2⟩
    · cases h2
    · rcases gget_set h2 with ⟨h3, h4⟩ | ⟨h3, h4⟩
      · exact Or.inl ⟨h3, (Option.some.inj h4).symm⟩
      · exact Or.inr ⟨h3, h1, h4, fun e => by omega⟩
  | succ k =>
    obtain ⟨h0, hc⟩ := gsetB_spec h
    rcases gget_set h0 with ⟨-, h2⟩ | ⟨h1, h2⟩
    · cases h2
    · rcases gget_set h2 with ⟨h3, h4⟩ | ⟨h3, h4⟩
      · exact Or.inl ⟨h3, (Option.some.inj h4).symm⟩
      · refine Or.inr ⟨h3, h1, h4, fun e => ?_⟩
        have e2 : j = k := by omega
        exact hc e2 w (e2 ▸ h4)
theorem gsetB_len (lv l2 : gL) (j : Nat) : (gsetB lv j l2).length = l2.length := by
  unfold gsetB
  split <;> simp
theorem gset_len (lv : gL) (i : Nat) (v : Value) : (gset lv i v).length = lv.length := by
  cases i with
  | zero => simp [gset]
  | succ k => rw [gset, gsetB_len]; simp
theorem gset2_len (lv : gL) (i : Nat) (v : Value) : (gset2 lv i v).length = lv.length := by
  cases i with
  | zero => simp [gset2]
  | succ k => rw [gset2, gsetB_len]; simp
def gA (lv : gL) : List (Nat × Value) := (List.range lv.length).filterMap (fun i => (gget lv i).map (fun v => (i, v)))
theorem gget_lt {lv : gL} {i : Nat} {v : Value} (h : gget lv i = some v) : i < lv.length := (List.getElem?_eq_some_iff.mp (gget_some.mp h)).1
theorem gA_mem {lv : gL} {q : Nat × Value} : q ∈ gA lv ↔ gget lv q.1 = some q.2 := by
  unfold gA
  rw [List.mem_filterMap]
  constructor
  · rintro ⟨i, -, h⟩
    cases hg : gget lv i with
    | none => rw [hg] at h; cases h
    | some v => rw [hg] at h; cases h; exact hg
  · intro h
    refine ⟨q.1, List.mem_range.mpr (gget_lt h), ?_⟩
    rw [h]
    rfl
def gLH (ls : Array Slot) (nL : Nat) (lv : gL) : Prop := ls.size = nL ∧ lv.length = nL ∧ lv_wf ls ∧ ∀ (i : Nat) (v : Value), gget lv i = some v → ls[i]? = some (.val v)
theorem gLH.has {ls : Array Slot} {nL : Nat} {lv : gL} (h : gLH ls nL lv) : lv_has ls nL (gA lv) := ⟨h.1, h.2.2.1, fun q hq => h.2.2.2 q.1 q.2 (gA_mem.mp hq)⟩
theorem gLH.set {ls ls' : Array Slot} {nL i : Nat} {lv : gL} {v : Value} (h : gLH ls nL lv) (h' : lv_has ls' nL ((i, v) :: (gA lv).filter (fun q => !(q.1 == i) && !(q.1 + 1 == i && q.2.category == 2)))) : gLH ls' nL (gset lv i v) := by
  refine ⟨h'.1, by rw [gset_len]; exact h.2.1, h'.2.1, fun j w hg => ?_⟩
  rcases gset_spec hg with ⟨rfl, rfl⟩ | ⟨h1, h2, h3⟩
  · exact h'.2.2 (j, w) List.mem_cons_self
  · refine h'.2.2 (j, w) (List.mem_cons_of_mem _ (List.mem_filter.mpr ⟨gA_mem.mpr h2, ?_⟩))
    by_cases e : j + 1 = i
    · have := h3 e
      simp [h1, e, this]
    · simp [h1, e]
theorem gLH.set2 {ls ls' : Array Slot} {nL i : Nat} {lv : gL} {v : Value} (h : gLH ls nL lv) (h' : lv_has ls' nL ((i, v) :: (gA lv).filter (fun q => !(q.1 == i) && (!(q.1 == i + 1) && !(q.1 + 1 == i && q.2.category == 2))))) : gLH ls' nL (gset2 lv i v) := by
  refine ⟨h'.1, by rw [gset2_len]; exact h.2.1, h'.2.1, fun j w hg => ?_⟩
  rcases gset2_spec hg with ⟨rfl, rfl⟩ | ⟨h1, h1b, h2, h3⟩
  · exact h'.2.2 (j, w) List.mem_cons_self
  · refine h'.2.2 (j, w) (List.mem_cons_of_mem _ (List.mem_filter.mpr ⟨gA_mem.mpr h2, ?_⟩))
    by_cases e : j + 1 = i
    · have := h3 e
      simp [h1, h1b, e, this]
    · simp [h1, h1b, e]
theorem gEntry_has {vs : List Value} {n : Nat} (h : (lg_sl vs).length ≤ n) : gLH ((lg_sl vs ++ List.replicate (n - (lg_sl vs).length) Slot.unset).toArray) n (gEntry n vs) := by
  have hlen : ∀ vs : List Value, (gSl vs).length = (lg_sl vs).length := by
    intro vs
    induction vs with
    | nil => rfl
    | cons v vs ih => cases v <;> simp [gSl, lg_sl, Value.category] at ih ⊢ <;> exact ih
  have hl := lv_entry vs h
  refine ⟨hl.1, ?_, hl.2.1, ?_⟩
  · unfold gEntry
    rw [List.length_append, List.length_replicate, hlen]
    omega
  · intro i v hg
    have key : ∀ (vs : List Value) (b i : Nat) (v : Value), (gSl vs)[i]? = some (some v) → (b + i, v) ∈ lv_args b vs := by
      intro vs
      induction vs with
      | nil => intro b i v h; simp [gSl] at h
      | cons w vs ih =>
        intro b i v h
        have two : ∀ {x : Value}, x.category = 2 → gSl (x :: vs) = some x :: none :: gSl vs → (gSl (x :: vs))[i]? = some (some v) → (b + i, v) ∈ lv_args b (x :: vs) := by
          intro x hx hs h
          rw [hs] at h
          match i, h with
          | 0, h => simp at h; subst h; simp [lv_args]
          | 1, h => simp at h
          | i + 2, h =>
            simp at h
            have := ih (b + 2) i v h
            simp only [lv_args, hx, if_true]
            refine List.mem_cons_of_mem _ ?_
            rw [show b + (i + 2) = b + 2 + i by omega]
            exact this
        have one : ∀ {x : Value}, x.category ≠ 2 → gSl (x :: vs) = some x :: gSl vs → (gSl (x :: vs))[i]? = some (some v) → (b + i, v) ∈ lv_args b (x :: vs) := by
          intro x hx hs h
          rw [hs] at h
          match i, h with
          | 0, h => simp at h; subst h; simp [lv_args]
          | i + 1, h =>
            simp at h
            have := ih (b + 1) i v h
            simp only [lv_args, hx, if_false]
            refine List.mem_cons_of_mem _ ?_
            rw [show b + (i + 1) = b + 1 + i by omega]
            exact this
        cases w with
        | long x => exact two rfl rfl h
        | double x => exact two rfl rfl h
        | _ => exact one (by simp [Value.category]) rfl h
    rw [gget_some] at hg
    unfold gEntry at hg
    by_cases hi : i < (gSl vs).length
    · rw [List.getElem?_append_left hi] at hg
      have := key vs 0 i v hg
      rw [Nat.zero_add] at this
      exact hl.2.2 (i, v) this
    · rw [List.getElem?_append_right (by omega)] at hg
      have := List.eq_of_mem_replicate (List.mem_of_getElem? hg)
      cases this
/-! the heap of known objects, and the machine's -/
def gTys (dT : Nat → ClassId) : List (ClassId × FieldType) := [(dT 0, .int), (dT 1, .boolean), (dT 2, .array .int), (dT 3, .array .boolean), (dT 4, .array (.array .boolean)), (dT 5, .object "GhostCandlesLaw$Ghost")]
def gE (dT : Nat → ClassId) : gO → va_E
  | .inl x => .inl (dT x.1, x.2)
  | .inr o => .inr o
def gF (dT : Nat → ClassId) (h : gH) : Nat → va_E := fun a => match h a with
  | some o => gE dT o
  | none => .inr (0, [])
def gI (D : va_G) (dT : Nat → ClassId) (A : Nat → Prop) (L : List Nat) (h : gH) (H : Heap) : Prop := (∀ a : Nat, a ∈ L ↔ (h a).isSome = true) ∧ va_P D vwCl (va_pl L (gF dT h)) H ∧ va_D A (va_pl L (gF dT h))
theorem gF_some {dT : Nat → ClassId} {h : gH} {a : Nat} {o : gO} (e : h a = some o) : gF dT h a = gE dT o := by simp [gF, e]
theorem gF_gU {dT : Nat → ClassId} (h : gH) (a : Nat) (o : gO) : va_up (gF dT h) a (gE dT o) = gF dT (gU h a o) := by
  funext q
  by_cases e : q = a
  · subst e; simp [va_up, gF, gU]
  · simp [va_up, gF, gU, e]
theorem gI.get {D : va_G} {dT : Nat → ClassId} {A : Nat → Prop} {L : List Nat} {h : gH} {H : Heap} (I : gI D dT A L h H) {a : Nat} {o : gO} (e : h a = some o) : ∃ k : Nat, (va_pl L (gF dT h))[k]? = some (a, gE dT o) := by
  obtain ⟨k, hk⟩ := va_pl_get (X := []) (f := gF dT h) ((I.1 a).mpr (by rw [e]; rfl))
  rw [gF_some e] at hk
  exact ⟨k, hk⟩
theorem gI.set {D : va_G} {dT : Nat → ClassId} {A : Nat → Prop} {L : List Nat} {h : gH} {H H1 : Heap} (I : gI D dT A L h H) {a k : Nat} {o o' : gO} (e : h a = some o) (hk : (va_pl L (gF dT h))[k]? = some (a, gE dT o)) (hP : va_P D vwCl ((va_pl L (gF dT h)).set k (a, gE dT o')) H1) (hD : va_D A ((va_pl L (gF dT h)).set k (a, gE dT o'))) : gI D dT A L (gU h a o') H1 := by
  have ha : a ∈ L := (I.1 a).mpr (by rw [e]; rfl)
  have hs : (va_pl L (gF dT h)).set k (a, gE dT o') = va_pl L (gF dT (gU h a o')) := by
    have := va_pl_set (X := []) (e := gE dT o') I.2.2 ha (by rw [gF_some e]; exact hk)
    rw [← gF_gU]
    exact this
  rw [hs] at hP hD
  refine ⟨fun q => ?_, hP, hD⟩
  by_cases hq : q = a
  · subst hq
    simp [gU, ha]
  · rw [gU_ne hq]
    exact I.1 q
theorem gI.new {D : va_G} {dT : Nat → ClassId} {A : Nat → Prop} {L : List Nat} {h : gH} {H H1 : Heap} (I : gI D dT A L h H) {q : Nat} {o : gO} (hP : va_P D vwCl (va_pl L (gF dT h) ++ [(q, gE dT o)]) H1) (hD : va_D A (va_pl L (gF dT h) ++ [(q, gE dT o)])) : h q = none ∧ gI D dT A (L ++ [q]) (gU h q o) H1 := by
  have hq : q ∉ L := fun hm => by
    obtain ⟨k, hk⟩ := va_pl_get (X := []) (f := gF dT h) hm
    have hk : (va_pl L (gF dT h))[k]? = some (q, gF dT h q) := hk
    have hl := (List.getElem?_eq_some_iff.mp hk).1
    have h1 : (va_pl L (gF dT h) ++ [(q, gE dT o)])[k]? = some (q, gF dT h q) := by rw [List.getElem?_append_left hl]; exact hk
    have h2 : (va_pl L (gF dT h) ++ [(q, gE dT o)])[(va_pl L (gF dT h)).length]? = some (q, gE dT o) := by rw [List.getElem?_append_right (Nat.le_refl _)]; simp
    have := hD.1 k _ _ _ h1 h2 rfl
    omega
  have hn : h q = none := by
    cases e : h q with
    | none => rfl
    | some o => exact absurd ((I.1 q).mpr (by rw [e]; rfl)) hq
  have hs : va_pl L (gF dT h) ++ [(q, gE dT o)] = va_pl (L ++ [q]) (gF dT (gU h q o)) := by rw [va_pl_push hq, gF_gU]
  rw [hs] at hP hD
  refine ⟨hn, fun x => ?_, hP, hD⟩
  by_cases hx : x = q
  · subst hx
    simp [gU]
  · rw [gU_ne hx, List.mem_append, ← I.1 x]
    simp [hx]
theorem gI.dom {D : va_G} {dT : Nat → ClassId} {A : Nat → Prop} {L : List Nat} {h : gH} {H : Heap} (I : gI D dT A L h H) {q : Nat} (hq : (h q).isSome = true) : A q ∧ q < H.size := by
  obtain ⟨o, e⟩ := Option.isSome_iff_exists.mp hq
  obtain ⟨k, hk⟩ := I.get e
  exact ⟨I.2.2.2 k _ hk, (I.2.1 k _ hk).lt⟩
theorem gI.weaken {D : va_G} {dT : Nat → ClassId} {A B : Nat → Prop} {L : List Nat} {h : gH} {H : Heap} (I : gI D dT A L h H) (hAB : ∀ q, A q → B q) : gI D dT B L h H := ⟨I.1, I.2.1, I.2.2.weaken (fun _ q _ => hAB q.1)⟩
theorem gI.kept {D : va_G} {dT : Nat → ClassId} {A : Nat → Prop} {L : List Nat} {h : gH} {H H1 : Heap} (I : gI D dT A L h H) (hq : ∀ q : Nat, q < H.size → H1[q]? = H[q]?) : gI D dT A L h H1 := ⟨I.1, I.2.1.kept (fun k q hk => hq q.1 ((I.2.1 k q hk).lt)), I.2.2⟩
end
section
/-! the machine's judgement, with the heap of known objects -/
def gAO1 (ty : FieldType) (U : State) : Prop := (Jvm.Cond.arrayOver (.array ty)).before #[] U = true
theorem gAO1.moved {ty : FieldType} {u U : State} (hvm : u.vm.Alike U.vm) (h : gAO1 ty u) : gAO1 ty U := by
  obtain ⟨comp, c, k, h1, h2, h3, h4, h5⟩ := arrayOverA_spec h
  obtain ⟨k', hk', he⟩ := hvm.2.2 _ _ h3
  have hi : (U.vm.classes.findIdx? fun (x : Class) => match x.kind with | .array component _ => component == comp | _ => false) = some c := by
    rw [hvm.findIdx?_eq _ (fun _ => rfl)]
    exact h2
  have hkind : k'.kind = .array comp (.array ty) := by rw [he]; exact h4
  have f1 : U.vm.findClass (FieldType.array ty).toString = some comp := by rw [hvm.findClass]; exact h1
  have f2 : U.vm.findClass ("[" ++ (FieldType.array ty).toString) = some c := by rw [hvm.findClass]; exact h5
  unfold gAO1 Cond.before Cond.holds
  simp only [Cond.value]
  rw [f1, Option.bind_some]
  refine (congrArg (fun o : Option Nat => (o.bind (fun c => (U.vm.classes[c]?).map fun (k : Class) => match k.kind with | .array _ t9 => decide (t9 = FieldType.array ty) && decide (U.vm.findClass ("[" ++ (FieldType.array ty).toString) = some c) | _ => false) == some true)) hi).trans ?_
  simp [hk', hkind, f2]
def gAO (U : State) : Prop := gAO1 .int U ∧ gAO1 .boolean U ∧ gAO1 (.array .boolean) U ∧ va_AO "GhostCandlesLaw$Ghost" U
theorem gAO.moved {u U : State} (hvm : u.vm.Alike U.vm) (h : gAO u) : gAO U := ⟨h.1.moved hvm, h.2.1.moved hvm, h.2.2.1.moved hvm, h.2.2.2.moved hvm⟩
def gEnv (A : Nat → Prop) (U : State) : Prop := (∀ w ∈ lw_tbl, gNwK w = true → va_Nw w U) ∧ vx_Zq Bundle.tN "UNASSIGNED_STACK" Bundle.steD A U U.heap ∧ vx_Zq Bundle.tN "SUPPRESSED_SENTINEL" Bundle.listD A U U.heap ∧ (∀ (own : String) (k : Nat) (tx : String), Jvm.Cond.stringRef own k tx ∈ lw_tbl → ∃ a : Nat, vk_R own k tx a U) ∧ (∀ E ∈ gExc, ∀ F ∈ gExc, E ≠ F → va_Nc E F U) ∧ gAO U
def gAd (h : gH) (sz : Nat) : Nat → Prop := fun q => (h q).isSome = true ∨ sz ≤ q
def gRm (d mc ms : Nat) : Room := { frames := d, cells := mc, slots := ms, locals := 39 * d }
def gGood : List Jvm.Cond := lw_tbl.filter goodWord
def gWs (z : gM) : List Jvm.Cond := Jvm.Cond.code z.1 z.2.1 z.2.2.1 z.2.2.2.1 :: gGood
def gPc (D : va_G) (dT : Nat → ClassId) (as : List Value) (h : gH) (sz : Nat) : Array Value → State → Prop := va_Pc as (fun U => U.heap.size = sz ∧ (∃ L : List Nat, gI D dT (fun _ => True) L h U.heap) ∧ va_K D vwCl (gTys dT) U ∧ gEnv (gAd h sz) U)
def gQc (D : va_G) (dT : Nat → ClassId) (A : Nat → Prop) (Post : Option Value → gH → Prop) : Array Value → State → Outcome → State → Prop := fun _ st oc t => ∃ (v : Option Value) (h' : gH) (L : List Nat), oc = .returned v ∧ Post v h' ∧ gI D dT A L h' t.heap ∧ va_F A st t
def gXC (D : va_G) (dT : Nat → ClassId) (A : Nat → Prop) (X : String → gH → Prop) : String → State → State → Prop := fun E st t => ∃ (h' : gH) (L : List Nat), E ∈ gExc ∧ X E h' ∧ gI D dT A L h' t.heap ∧ va_F A st t
def gMet (l : Launch) (d : Nat) (z : gM) (as : List Value) (h : gH) (mc ms : Nat) (Post : Option Value → gH → Prop) (X : String → gH → Prop) : Prop := ∀ (D : va_G) (dT : Nat → ClassId) (sz : Nat), vx_Met l z.1 (gWs z) (gRm d mc ms) (gPc D dT as h sz) (gQc D dT (gAd h sz) Post) (gXC D dT (gAd h sz) X) mc ms (gAd h sz)
def gKX (p : Program) (l : Launch) (e : Env) (R : Room) (s : State) (m : MethodId) (args : Array Value) (below : List Frame) (meth : Method) (c : Code) (D : va_G) (dT : Nat → ClassId) (A : Nat → Prop) (nL : Nat) (Q : State → Prop) : gK := fun pc lv st h bc bs =>
  ∀ (H : Heap) (locs : List Loc) (cells slots : Nat) (ls : Array Slot) (L : List Nat), gI D dT A L h H → va_S A s.heap H locs → cells + bc ≤ R.cells → slots + bs ≤ R.slots → gLH ls nL lv → W p l e R s m args below meth c H locs cells slots Q (F0 m pc ls st)
def gCtx (p : Program) (l : Launch) (R : Room) (s : State) (m : MethodId) (args : Array Value) (meth : Method) (c : Code) (y : gM) (d : Nat) (D : va_G) (dT : Nat → ClassId) (A : Nat → Prop) : Prop :=
  p.tables.exec = Jvm.exec ∧ c.code = y.2.1 ∧ c.maxLocals = y.2.2.1 ∧ s.vm.findClass y.1.cls = some m.cls ∧ (∀ w ∈ gGood, w.before args s = true) ∧ va_K D vwCl (gTys dT) s ∧ (∀ q, s.heap.size ≤ q → A q) ∧ gEnv A s ∧ (d ≤ R.frames ∧ 39 * d ≤ R.locals) ∧ (y.1.name = "<init>" → meth.name = "<init>")
theorem gGood_in {w : Jvm.Cond} (h : w ∈ lw_tbl) (hg : goodWord w = true) : w ∈ gGood := List.mem_filter.mpr ⟨h, hg⟩
theorem gGood_all : ∀ w ∈ gGood, goodWord w = true := fun w h => (List.mem_filter.mp h).2
theorem gGood_goodIn : GoodIn gGood gGood := fun w h => ⟨h, good_of_word (gGood_all w h)⟩
theorem gNw_warm {w : Jvm.Cond} {s U : State} (hw : gNwK w = true) (hW : s.WarmedH U.vm) (h : va_Nw w s) : va_Nw w U := by
  cases w with
  | fieldLinkNest a i b n d h2 => exact va_Nw.warmF hW h
  | methodLinkNest a i x h2 => exact va_Nw.warmM hW h
  | castable C T => exact va_Nw.warmC hW h
  | declares x => exact va_Nw.warmD hW h
  | _ => cases hw
theorem gNw_on {w : Jvm.Cond} (hw : gNwK w = true) : w.onTables = true := by
  cases w <;> first | rfl | cases hw
theorem va_Nc_moved {C T : String} {u U : State} (hvm : u.vm.Alike U.vm) (h : va_Nc C T u) : va_Nc C T U := by
  first
    | exact va_Nc.moved hvm h
    | (obtain ⟨c, t, h1, h2, h3⟩ := h
       exact ⟨c, t, by rw [hvm.findClass]; exact h1, by rw [hvm.findClass]; exact h2, by first | (rw [hvm.assignable]; exact h3) | (rw [← hvm.assignable]; exact h3)⟩)
/-- what is carried along, from a place in the caller to its callee's start -/
theorem gEnv.move {A B : Nat → Prop} {s U : State} {H : Heap} {locs : List Loc} (hE : gEnv A s) (hS : va_S A s.heap H locs) (hU : U.heap = H) (hW : s.WarmedH U.vm) (hBA : ∀ q, B q → A q) : gEnv B U := by
  obtain ⟨h1, h2, h3, h4, h5, h6⟩ := hE
  refine ⟨fun w hw hk => gNw_warm hk hW (h1 w hw hk), ?_, ?_, fun own k tx hw => ?_, fun E hE F hF hne => va_Nc_moved hW.alike (h5 E hE F hF hne), gAO.moved hW.alike h6⟩
  · rw [hU]; exact (vx_Zq.moved hW.alike (h2.kept hS.2.1)).narrow hBA
  · rw [hU]; exact (vx_Zq.moved hW.alike (h3.kept hS.2.1)).narrow hBA
  · obtain ⟨a, ha⟩ := h4 own k tx hw
    exact ⟨a, vk_R.warm hW ha⟩
theorem gPc_blind (D : va_G) (dT : Nat → ClassId) (as : List Value) (h : gH) (sz : Nat) : FrameBlind (gPc D dT as h sz) := by
  intro a U g mk ⟨q1, q2, q3, q4, q5⟩
  refine ⟨q1, q2, q3, va_K.moved (u := U) (U := U.calling g mk a) (Vm.Alike.refl U.vm) q4, ?_⟩
  obtain ⟨h1, h2, h3, h4, h5, h6⟩ := q5
  refine ⟨fun w hw hk => va_Nw.same (gNw_on hk) (u := U) (U := U.calling g mk a) rfl (h1 w hw hk), vx_Zq.moved (u := U) (U := U.calling g mk a) (Vm.Alike.refl U.vm) h2, vx_Zq.moved (u := U) (U := U.calling g mk a) (Vm.Alike.refl U.vm) h3, fun own k tx hw => ?_, fun E hE F hF hne => va_Nc_moved (u := U) (U := U.calling g mk a) (Vm.Alike.refl U.vm) (h5 E hE F hF hne), gAO.moved (u := U) (U := U.calling g mk a) (Vm.Alike.refl U.vm) h6⟩
  obtain ⟨x, hx⟩ := h4 own k tx hw
  exact ⟨x, vk_R.same (u := U) (U := U.calling g mk a) rfl hx⟩
section GXR
variable {p : Program} {l : Launch} {e : Env} {R : Room} {s : State} {m : MethodId} {args : Array Value} {below : List Frame} {meth : Method} {c : Code} {H : Heap} {locs : List Loc} {cells slots : Nat} {Q : State → Prop}
variable {mc ms : Nat} {A : Nat → Prop} {a : Array Value} {pc : Nat} {ls : Array Slot} {st0 rest : List Value} {D : va_G} {dT : Nat → ClassId} {h : gH} {Post : Option Value → gH → Prop} {X : String → gH → Prop}
/-- what a call's two ways of ending give the caller -/
theorem gx_call (hr : vx_Run p l e R s m args below meth c H locs cells slots mc ms (F0 m pc ls st0) rest (gQc D dT (gAd h H.size) Post a) (gXC D dT (gAd h H.size) X) (gAd h H.size)) (hS : va_S A s.heap H locs) (hA : ∀ q, gAd h H.size q → A q)
    (kx : ∀ (E : String) (ce : Cell) (q9 : Addr) (h' : gH) (L : List Nat) (H1 : Heap) (locs1 : List Loc), E ∈ gExc → X E h' → gI D dT A L h' H1 → va_S A s.heap H1 locs1 → H1[q9]? = some ce → ce.vm = .none → s.vm.findClass E = some ce.cls → vx_W p l e R s m args below meth c H1 locs1 (cells + mc) (slots + ms) Q (F0 m pc ls rest) q9)
    (kk : ∀ (v : Option Value) (h' : gH) (L : List Nat) (H1 : Heap) (locs1 : List Loc), Post v h' → gI D dT A L h' H1 → va_S A s.heap H1 locs1 → W p l e R s m args below meth c H1 locs1 (cells + mc) (slots + ms) Q (F0 m (pc + 3) ls (v.toList ++ rest))) : W p l e R s m args below meth c H locs cells slots Q (F0 m pc ls st0) := by
  intro T hT X9
  rcases hr T hT X9 with ⟨v, st₀, t, T', L, h0, X', hL, e1, e2, ⟨v', h', L', hv, hp, hI, hF⟩, st⟩ | ⟨q, st₀, t, T', L, E, ce, h0, X', hL, e1, e2, ⟨h', L', hE, hp, hI, hF⟩, hce, hcv, hcl, st⟩
  · cases hv
    obtain ⟨k1, k2, k3⟩ := vx_keep h0 e1 hS (fun q _ => hA q) hA hL hF
    obtain ⟨t2, a1, b1⟩ := kk v h' L' T'.heap (locs ++ L) hp (by rw [e1]; exact hI.weaken hA) k3 T' rfl X'
    exact ⟨t2, st t2 a1, b1⟩
  · obtain ⟨k1, k2, k3⟩ := vx_keep h0 e1 hS (fun q _ => hA q) hA hL hF
    obtain ⟨t2, a1, b1⟩ := kx E ce q h' L' T'.heap (locs ++ L) hE hp (by rw [e1]; exact hI.weaken hA) k3 (by rw [e1]; exact hce) hcv hcl T' rfl X'
    exact ⟨t2, st.trans a1, b1⟩
end GXR
end
section
/-! calls, by kind -/
section GXD
variable {p : Program} {l : Launch} {e : Env} {R : Room} {s : State} {m : MethodId} {args : Array Value} {below : List Frame} {meth : Method} {c : Code} {H : Heap} {locs : List Loc} {cells slots : Nat} {Q : State → Prop}
variable {mc ms d n idx ci nL : Nat} {A : Nat → Prop} {a : Nat} {pc : Nat} {ls : Array Slot} {r as fs : List Value} {D : va_G} {dT : Nat → ClassId} {h : gH} {Post : Option Value → gH → Prop} {X : String → gH → Prop} {y z : gM} {L : List Nat}
theorem gx_A (C : gCtx p l R s m args meth c y d D dT A) (I : gI D dT A L h H) (hS : va_S A s.heap H locs) : ∀ q, gAd h H.size q → A q := by
  intro q hq
  rcases hq with hq | hq
  · exact (I.dom hq).1
  · exact C.2.2.2.2.2.2.1 q (Nat.le_trans hS.1 hq)
theorem gx_pre (C : gCtx p l R s m args meth c y d D dT A) (I : gI D dT A L h H) (hS : va_S A s.heap H locs) (U : State) (hU : U.heap = H) (hW : s.WarmedH U.vm) : gPc D dT as h H.size as.toArray U := by
  refine ⟨rfl, by rw [hU], ⟨L, by rw [hU]; exact I.weaken (fun _ _ => trivial)⟩, va_K.moved hW.alike C.2.2.2.2.2.1, gEnv.move C.2.2.2.2.2.2.2.1 hS hU hW (gx_A C I hS)⟩
theorem gx_fix (C : gCtx p l R s m args meth c y d D dT A) : CallFix p m c y.2.1 y.2.2.1 s args gGood y.1.cls := ⟨C.1, C.2.1, C.2.2.1, C.2.2.2.1, C.2.2.2.2.1⟩
theorem gWs_ok {z : gM} (hz : gOK z) : gWs z = Jvm.Cond.code z.1 z.2.1 z.2.2.1 z.2.2.2.1 :: gGood := rfl
theorem gWs_good {z : gM} (hz : gOK z) : ∀ w ∈ gWs z, w ∈ gGood := by
  intro w hw
  rw [gWs_ok hz] at hw
  rcases List.mem_cons.mp hw with rfl | hw
  · exact gGood_in hz.2.1 rfl
  · exact hw
theorem gGI {ws : List Jvm.Cond} (h : ∀ w ∈ ws, w ∈ gGood) : GoodIn gGood ws := fun w hw => ⟨h w hw, good_of_word (gGood_all w (h w hw))⟩
theorem gx_room (C : gCtx p l R s m args meth c y (d + 1) D dT A) {maxL : Nat} (hm : maxL ≤ 20) : (gRm d mc ms).frames + 1 ≤ R.frames ∧ 8 + (maxL + 11) + (gRm d mc ms).locals ≤ R.locals := by
  obtain ⟨h1, h2⟩ := C.2.2.2.2.2.2.2.2.1
  refine ⟨h1, ?_⟩
  show 8 + (maxL + 11) + 39 * d ≤ R.locals
  omega
theorem gx_V (C : gCtx p l R s m args meth c y (d + 1) D dT A) (hM : gMet l d z (.ref a :: as) h mc ms Post X) (hl : gLV y.1.cls idx z n ci) (I : gI D dT A L h H) (hS : va_S A s.heap H locs) (hn : as.length = n) (ha : h a = some (.inr (ci, fs))) (hr : gCat r ≤ 8) (hls : ls.size = y.2.2.1) (hf : cells + mc ≤ R.cells ∧ slots + ms ≤ R.slots) (hd : decode y.2.1 pc = .ok (.invokevirtual idx, 3))
    (kx : ∀ (E : String) (ce : Cell) (q9 : Addr) (h' : gH) (L : List Nat) (H1 : Heap) (locs1 : List Loc), E ∈ gExc → X E h' → gI D dT A L h' H1 → va_S A s.heap H1 locs1 → H1[q9]? = some ce → ce.vm = .none → s.vm.findClass E = some ce.cls → vx_W p l e R s m args below meth c H1 locs1 (cells + mc) (slots + ms) Q (F0 m pc ls r) q9)
    (kk : ∀ (v : Option Value) (h' : gH) (L : List Nat) (H1 : Heap) (locs1 : List Loc), Post v h' → gI D dT A L h' H1 → va_S A s.heap H1 locs1 → W p l e R s m args below meth c H1 locs1 (cells + mc) (slots + ms) Q (F0 m (pc + 3) ls (v.toList ++ r))) : W p l e R s m args below meth c H locs cells slots Q (F0 m pc ls (as.reverse ++ .ref a :: r)) := by
  obtain ⟨hz, hna, h1, h2, h3, T, N, hc⟩ := hl
  obtain ⟨k, hk⟩ := I.get ha
  have hcw : CallW R s args y.1.cls z.1.cls idx z.1 z.2.1 z.2.2.1 z.2.2.2.1 (gWs z) (gRm d mc ms) mc ms n := by
    refine cwV n C.2.2.2.2.1 (gGI ?_) (gWs_ok hz) rfl rfl ⟨rfl, hz.2.2.2.1.1, hz.2.2.2.1.2, hna⟩ (gx_room C hz.2.2.2.2.1)
    intro w hw
    rcases List.mem_append.mp hw with hw | hw
    · simp only [List.mem_cons, List.not_mem_nil, or_false] at hw
      rcases hw with rfl | rfl | rfl | rfl
      · exact gGood_in h1 rfl
      · exact gGood_in h2 rfl
      · exact gGood_in h3 rfl
      · exact gGood_in hz.2.2.1 rfl
    · exact gWs_good hz w hw
  refine gx_call (vx_runV (gx_fix C) (hM D dT H.size) hcw ⟨gPc_blind D dT _ h H.size, va_recv C.2.2.2.2.2.1 I.2.1 hc hk, fun U hU hW => gx_pre C I hS U hU hW⟩ rfl hn hls rfl (lv_room hr) hd hf) hS (gx_A C I hS) kx kk
theorem gx_St (C : gCtx p l R s m args meth c y (d + 1) D dT A) (hM : gMet l d z as h mc ms Post X) (hl : gLS y.1.cls idx z n) (I : gI D dT A L h H) (hS : va_S A s.heap H locs) (hn : as.length = n) (hr : gCat r ≤ 8) (hls : ls.size = y.2.2.1) (hf : cells + mc ≤ R.cells ∧ slots + ms ≤ R.slots) (hd : decode y.2.1 pc = .ok (.invokestatic idx, 3))
    (kx : ∀ (E : String) (ce : Cell) (q9 : Addr) (h' : gH) (L : List Nat) (H1 : Heap) (locs1 : List Loc), E ∈ gExc → X E h' → gI D dT A L h' H1 → va_S A s.heap H1 locs1 → H1[q9]? = some ce → ce.vm = .none → s.vm.findClass E = some ce.cls → vx_W p l e R s m args below meth c H1 locs1 (cells + mc) (slots + ms) Q (F0 m pc ls r) q9)
    (kk : ∀ (v : Option Value) (h' : gH) (L : List Nat) (H1 : Heap) (locs1 : List Loc), Post v h' → gI D dT A L h' H1 → va_S A s.heap H1 locs1 → W p l e R s m args below meth c H1 locs1 (cells + mc) (slots + ms) Q (F0 m (pc + 3) ls (v.toList ++ r))) : W p l e R s m args below meth c H locs cells slots Q (F0 m pc ls (as.reverse ++ r)) := by
  obtain ⟨hz, hna, h1, h2⟩ := hl
  have hcw : CallB R s args y.1.cls idx z.1 z.2.1 z.2.2.1 z.2.2.2.1 (gWs z) (gRm d mc ms) mc ms n ∧ (Jvm.Cond.static z.1).before args s = true :=
    ⟨callB_of n C.2.2.2.2.1 (gGI (gWs_good hz)) (gWs_ok hz) rfl rfl (C.2.2.2.2.1 _ (gGood_in hz.2.2.1 rfl)) (C.2.2.2.2.1 _ (gGood_in h1 rfl)) ⟨hz.2.2.2.1.1, hz.2.2.2.1.2, hna⟩ (gx_room C hz.2.2.2.2.1), C.2.2.2.2.1 _ (gGood_in h2 rfl)⟩
  exact gx_call (vx_runS (gx_fix C) (hM D dT H.size) hcw ⟨gPc_blind D dT _ h H.size, fun U hU hW => gx_pre C I hS U hU hW⟩ rfl hn hls rfl (lv_room hr) hd hf) hS (gx_A C I hS) kx kk
theorem gx_In (C : gCtx p l R s m args meth c y (d + 1) D dT A) (hM : gMet l d z (.ref a :: as) h mc ms Post X) (hl : gLI y.1.cls idx z n) (I : gI D dT A L h H) (hS : va_S A s.heap H locs) (hn : as.length = n) (hr : gCat r ≤ 8) (hls : ls.size = y.2.2.1) (hf : cells + mc ≤ R.cells ∧ slots + ms ≤ R.slots) (hd : decode y.2.1 pc = .ok (.invokespecial idx, 3))
    (kx : ∀ (E : String) (ce : Cell) (q9 : Addr) (h' : gH) (L : List Nat) (H1 : Heap) (locs1 : List Loc), E ∈ gExc → X E h' → gI D dT A L h' H1 → va_S A s.heap H1 locs1 → H1[q9]? = some ce → ce.vm = .none → s.vm.findClass E = some ce.cls → vx_W p l e R s m args below meth c H1 locs1 (cells + mc) (slots + ms) Q (F0 m pc ls r) q9)
    (kk : ∀ (v : Option Value) (h' : gH) (L : List Nat) (H1 : Heap) (locs1 : List Loc), Post v h' → gI D dT A L h' H1 → va_S A s.heap H1 locs1 → W p l e R s m args below meth c H1 locs1 (cells + mc) (slots + ms) Q (F0 m (pc + 3) ls (v.toList ++ r))) : W p l e R s m args below meth c H locs cells slots Q (F0 m pc ls (as.reverse ++ .ref a :: r)) := by
  obtain ⟨hz, hna, hret, h1, h2, h3⟩ := hl
  have hw : gWs z = Jvm.Cond.code z.1 z.2.1 z.2.2.1 none :: gGood := by rw [gWs_ok hz, hret]
  have hini := C.2.2.2.2.1 _ (gGood_in hz.2.2.1 rfl)
  have hin := C.2.2.2.2.1 _ (gGood_in h2 rfl)
  rcases h3 with h3 | ⟨host, h3⟩
  · exact gx_call (vx_runI (gx_fix C) (hM D dT H.size) (cwI n C.2.2.2.2.1 (gGI (gWs_good hz)) hw rfl rfl hini (C.2.2.2.2.1 _ (gGood_in h3 rfl)) hin h1 ⟨hz.2.2.2.1.1, hz.2.2.2.1.2, hna⟩ (gx_room C hz.2.2.2.2.1)) ⟨gPc_blind D dT _ h H.size, fun U hU hW => gx_pre C I hS U hU hW⟩ rfl hn hls rfl (lv_room hr) hd hf) hS (gx_A C I hS) kx kk
  · exact gx_call (vx_runIN (gx_fix C) (hM D dT H.size) ⟨va_cnB n C.2.2.2.2.1 (gGI (gWs_good hz)) hw rfl rfl (C.2.2.2.2.2.2.2.1.1 _ h3 rfl) hini ⟨hz.2.2.2.1.1, hz.2.2.2.1.2, hna⟩ (gx_room C hz.2.2.2.2.1), h1, hin⟩ ⟨gPc_blind D dT _ h H.size, fun U hU hW => gx_pre C I hS U hU hW⟩ rfl hn hls rfl (lv_room hr) hd hf) hS (gx_A C I hS) kx kk
end GXD
end
section
/-! arrays of arrays: made by one instruction; a builder of states (B), its cells (nc) and slots (ns) -/
def mOut (c : ClassId) (N h0 nc i : Nat) : Cell := arrV c N (fun j => va_rf (if j < i then some (h0 + 1 + j * nc) else none))
def mBO (B : State → State) (c : ClassId) (N nc : Nat) (s : State) : Nat → State
  | 0 => s.pushCell (mOut c N s.heap.size nc 0)
  | i + 1 => (B (mBO B c N nc s i)).setCell s.heap.size (mOut c N s.heap.size nc (i + 1))
def mFx (B : State → State) (nc ns : Nat) : Prop := ∀ u : State, (B u).vm = u.vm ∧ (B u).heap.size = u.heap.size + nc ∧ (B u).slotsUsed = u.slotsUsed + ns ∧ (∀ a : Addr, a < u.heap.size → (B u).heap[a]? = u.heap[a]?) ∧ ∀ f : JFrame, B (u.setTop f) = (B u).setTop f
theorem mOut_size (c : ClassId) (N h0 nc i : Nat) : (mOut c N h0 nc i).slots.size = N := arrV_size _ _ _
theorem mOut_succ (c : ClassId) (N h0 nc i : Nat) : (mOut c N h0 nc i).setSlot i (.ref (h0 + 1 + i * nc)) = mOut c N h0 nc (i + 1) := by
  unfold mOut
  rw [arrV_store]
  refine congrArg (arrV c N) (funext fun j => ?_)
  by_cases e : j = i
  · subst e
    simp [updV, va_rf]
  · by_cases h : j < i
    · simp [updV, e, h, Nat.lt_succ_of_lt h]
    · simp [updV, e, h, show ¬ j < i + 1 by omega]
theorem mB1_fx (c : ClassId) (M : Nat) (f : Nat → Value) : mFx (fun u => u.pushCell (arrV c M f)) 1 M := fun u => ⟨rfl, by simp, by simp [arrV_size], fun a ha => State.heap_pushCell_of_lt _ _ ha, fun f => rfl⟩
theorem mBO_fx {B : State → State} {nc ns : Nat} (hB : mFx B nc ns) (c : ClassId) (N : Nat) (s : State) : ∀ i : Nat, (mBO B c N nc s i).vm = s.vm ∧ (mBO B c N nc s i).heap.size = s.heap.size + 1 + i * nc ∧ (mBO B c N nc s i).slotsUsed = s.slotsUsed + N + i * ns ∧ (mBO B c N nc s i).heap[s.heap.size]? = some (mOut c N s.heap.size nc i) ∧ (∀ a : Addr, a < s.heap.size → (mBO B c N nc s i).heap[a]? = s.heap[a]?) ∧ ∀ f : JFrame, mBO B c N nc (s.setTop f) i = (mBO B c N nc s i).setTop f
  | 0 => ⟨rfl, by simp [mBO], by simp [mBO, mOut_size], by simp [mBO], fun a ha => State.heap_pushCell_of_lt _ _ ha, fun f => rfl⟩
  | i + 1 => by
    obtain ⟨h1, h2, h3, h4, h5, h6⟩ := mBO_fx hB c N s i
    obtain ⟨b1, b2, b3, b4, b5⟩ := hB (mBO B c N nc s i)
    have hlt : s.heap.size < (mBO B c N nc s i).heap.size := by rw [h2]; omega
    have hc : (B (mBO B c N nc s i)).heap[s.heap.size]? = some (mOut c N s.heap.size nc i) := (b4 _ hlt).trans h4
    refine ⟨?_, ?_, ?_, ?_, ?_, ?_⟩
    · show (B (mBO B c N nc s i)).vm = _
      rw [b1, h1]
    · show ((B (mBO B c N nc s i)).setCell _ _).heap.size = _
      rw [size_setCell, b2, h2, Nat.succ_mul]
      omega
    · show (B (mBO B c N nc s i)).slotsUsed = _
      rw [b3, h3, Nat.succ_mul]
      omega
    · exact State.heap_setCell_self hc
    · intro a ha
      show ((B (mBO B c N nc s i)).setCell _ _).heap[a]? = _
      rw [State.heap_setCell_other (Nat.ne_of_gt ha), b4 a (Nat.lt_of_lt_of_le ha (by rw [h2]; omega)), h5 a ha]
    · intro f
      show (B (mBO B c N nc (s.setTop f) i)).setCell _ _ = ((B (mBO B c N nc s i)).setCell _ _).setTop f
      rw [h6 f, (hB (mBO B c N nc s i)).2.2.2.2 f]
      rfl
theorem mBO_fxN {B : State → State} {nc ns : Nat} (hB : mFx B nc ns) (c : ClassId) (N : Nat) : mFx (fun s => mBO B c N nc s N) (1 + N * nc) (N + N * ns) := fun s => by
  obtain ⟨h1, h2, h3, h4, h5, h6⟩ := mBO_fx hB c N s N
  exact ⟨h1, by rw [h2]; omega, by rw [h3]; omega, h5, h6⟩
/-! the machine's making of them -/
def mWp (e : Env) (vm : Vm) (c : ClassId) (cs : List Int32) (B : State → State) (nc ns : Nat) : Prop := ∀ (E : CtlPost) (d : Bool) (acts : List Action) (u : State) (Q : Addr → Pre), u.vm = vm → u.heap.size + nc ≤ e.platform.maxCells → u.slotsUsed + ns ≤ e.platform.maxSlots → (∀ d' acts', Q u.heap.size d' acts' (B u)) → wp (Op.multianewarray.make c cs) Q E e d acts u
theorem mWp_1 {e : Env} {vm : Vm} {c comp : ClassId} {k : Class} {ty : FieldType} {m : Int32} (hk : vm.classes[c]? = some k) (hkind : k.kind = .array comp ty) (hm : ¬ m < 0) (hl : ¬ m.toNatClampNeg > e.platform.arrayLengthLimit) (hh : ¬ m.toNatClampNeg * componentBytes ty > e.platform.maxHeapBytes) (hdf : fits ty (defaultValue ty) = true) : mWp e vm c [m] (fun u => u.pushCell (arrV c m.toNatClampNeg (fun _ => defaultValue ty))) 1 m.toNatClampNeg := by
  intro E d acts u Q hv h1 h2 hq
  subst hv
  rw [Op.multianewarray.make]
  simp only [wp_bind', W.ite, hm, if_false, wp_pure', W.theClass, hk, hkind, Option.some.injEq, exists_eq_left']
  refine W.newArray_of hk hkind hl hh (by omega) h2 hdf (fun acts' => ?_)
  have := hq d acts'
  rw [← arrV_new] at this
  exact this
theorem mRefFits {t : FieldType} (h : t.isReference = true) (v : Value) (hv : v = .null ∨ ∃ a, v = .ref a) : fits t v = true := by
  rcases hv with rfl | ⟨a, rfl⟩ <;> cases t <;> simp [FieldType.isReference] at h <;> rfl
set_option maxHeartbeats 1000000 in
theorem mWp_O {e : Env} {vm : Vm} {c comp : ClassId} {k : Class} {t0 : FieldType} {n r0 : Int32} {rs : List Int32} {B : State → State} {nc ns : Nat} (hB : mFx B nc ns) (hW : mWp e vm comp (r0 :: rs) B nc ns) (hk : vm.classes[c]? = some k) (hkind : k.kind = .array comp t0) (href : t0.isReference = true) (hn : ¬ n < 0) (hneg : (r0 :: rs).find? (· < 0) = none) (hl : ¬ n.toNatClampNeg > e.platform.arrayLengthLimit) (hh : ¬ n.toNatClampNeg * componentBytes t0 > e.platform.maxHeapBytes) :
    mWp e vm c (n :: r0 :: rs) (fun s => mBO B c n.toNatClampNeg nc s n.toNatClampNeg) (1 + n.toNatClampNeg * nc) (n.toNatClampNeg + n.toNatClampNeg * ns) := by
  intro E d acts s Q hv h1 h2 hq
  subst hv
  rw [Op.multianewarray.make]
  simp only [wp_bind', W.ite, hn, if_false, wp_pure', W.theClass, hk, hkind, Option.some.injEq, exists_eq_left']
  refine W.newArray_of hk hkind hl hh (by omega) (by omega) (mRefFits href _ (Or.inl rfl)) (fun acts1 => ?_)
  simp only [hneg]
  rw [ite_self, wp_bind', Std.Legacy.Range.forIn_eq_forIn_range']
  have hsz : ([:n.toNatClampNeg] : Std.Legacy.Range).size = n.toNatClampNeg := by simp [Std.Legacy.Range.size]
  rw [hsz]
  show wp (forIn (List.range' 0 n.toNatClampNeg 1) PUnit.unit _) _ E e d acts1 _
  refine wp_forIn_inv (fun rest s' => ∃ i, i ≤ n.toNatClampNeg ∧ rest = List.range' i (n.toNatClampNeg - i) ∧ s' = mBO B c n.toNatClampNeg nc s i) _ _ ⟨0, Nat.zero_le _, rfl, ?_⟩ ?_ ?_
  · show s.pushCell _ = s.pushCell (mOut c n.toNatClampNeg s.heap.size nc 0)
    refine congrArg s.pushCell ?_
    unfold mOut
    simp only [Nat.not_lt_zero, if_false]
    exact arrV_new _ _ _
  · rintro x rest s' d' acts' Q' ⟨i, hi, hl9, rfl⟩ hnext
    have hlt : i < n.toNatClampNeg := by
      rcases Nat.lt_or_ge i n.toNatClampNeg with h | h
      · exact h
      · rw [show n.toNatClampNeg - i = 0 from by omega] at hl9; simp at hl9
    obtain ⟨rfl, hrest⟩ : x = i ∧ rest = List.range' (i + 1) (n.toNatClampNeg - (i + 1)) := by
      rw [show n.toNatClampNeg - i = (n.toNatClampNeg - (i + 1)) + 1 from by omega, List.range'_succ] at hl9
      exact ⟨(List.cons.inj hl9).1, (List.cons.inj hl9).2⟩
    obtain ⟨f1, f2, f3, f4, f5, f6⟩ := mBO_fx hB c n.toNatClampNeg s x
    obtain ⟨b1, b2, b3, b4, b5⟩ := hB (mBO B c n.toNatClampNeg nc s x)
    have m1 : x * nc + nc ≤ n.toNatClampNeg * nc := by
      have := Nat.mul_le_mul_right nc (show x + 1 ≤ n.toNatClampNeg from hlt)
      rw [Nat.succ_mul] at this; exact this
    have m2 : x * ns + ns ≤ n.toNatClampNeg * ns := by
      have := Nat.mul_le_mul_right ns (show x + 1 ≤ n.toNatClampNeg from hlt)
      rw [Nat.succ_mul] at this; exact this
    simp only [wp_bind']
    refine hW E d' acts' _ _ f1 (by rw [f2]; omega) (by rw [f3]; omega) (fun d2 acts2 => ?_)
    have hlt0 : s.heap.size < (mBO B c n.toNatClampNeg nc s x).heap.size := by rw [f2]; omega
    simp only [wp_bind', W.writeLoc, wp_pure']
    refine ⟨mOut c n.toNatClampNeg s.heap.size nc x, (b4 _ hlt0).trans f4, (fun h => by cases h), by rw [mOut_size]; exact hlt, ?_, hnext _ _ _ ⟨x + 1, hlt, hrest, ?_⟩⟩
    · show State.fitsSlot _ c .none _ _ = true
      simp [State.fitsSlot, State.slotType?, b1, f1, hk, hkind, mRefFits href _ (Or.inr ⟨_, rfl⟩)]
    · rw [f2, mOut_succ]
      rfl
  · rintro s' d' acts' ⟨i, hi, hl9, rfl⟩
    have hiN : i = n.toNatClampNeg := by
      rcases Nat.lt_or_ge i n.toNatClampNeg with h | h
      · rw [show n.toNatClampNeg - i = (n.toNatClampNeg - (i + 1)) + 1 from by omega, List.range'_succ] at hl9; cases hl9
      · omega
    subst hiN
    simp only [wp_pure']
    exact hq _ _
def mSt (B : State → State) (nc ns : Nat) : Prop := ∀ (p : Program) (l : Launch) (e : Env) (R : Room) (s : State) (m : MethodId) (args : Array Value) (below : List Frame) (meth : Method) (c : Code) (T : State) (locs : List Loc) (cells slots : Nat), Stand p l e R s m args below meth c T locs cells slots → ∃ L : List Loc, Stand p l e R s m args below meth c (B T) (locs ++ L) (cells + nc) (slots + ns) ∧ ∀ x ∈ L, T.heap.size ≤ x.base
theorem mSt_1 (c : ClassId) (M : Nat) (f : Nat → Value) : mSt (fun u => u.pushCell (arrV c M f)) 1 M := fun p l e R s m args below meth c9 T locs cells slots X => ⟨[], by
  have h := X.pushed (arrV c M f)
  rw [arrV_size] at h
  rw [List.append_nil]
  exact h, fun x hx => by cases hx⟩
theorem mSt_O {B : State → State} {nc ns : Nat} (hB : mFx B nc ns) (hS : mSt B nc ns) (c : ClassId) (N : Nat) : mSt (fun s => mBO B c N nc s N) (1 + N * nc) (N + N * ns) := by
  intro p l e R s m args below meth c9 T locs cells slots X
  have key : ∀ i : Nat, ∃ L : List Loc, Stand p l e R s m args below meth c9 (mBO B c N nc T i) (locs ++ L) (cells + 1 + i * nc) (slots + N + i * ns) ∧ ∀ x ∈ L, T.heap.size ≤ x.base := by
    intro i
    induction i with
    | zero =>
      refine ⟨[], ?_, fun x hx => by cases hx⟩
      have h := X.pushed (mOut c N T.heap.size nc 0)
      rw [mOut_size] at h
      rw [List.append_nil, Nat.zero_mul, Nat.zero_mul]
      exact h
    | succ i ih =>
      obtain ⟨L, X1, hL⟩ := ih
      obtain ⟨L2, X2, hL2⟩ := hS _ _ _ _ _ _ _ _ _ _ _ _ _ _ X1
      obtain ⟨f1, f2, f3, f4, f5, f6⟩ := mBO_fx hB c N T i
      obtain ⟨b1, b2, b3, b4, b5⟩ := hB (mBO B c N nc T i)
      have hlt0 : T.heap.size < (mBO B c N nc T i).heap.size := by rw [f2]; omega
      have h := X2.stored ((b4 _ hlt0).trans f4) i (.ref (T.heap.size + 1 + i * nc))
      rw [mOut_succ] at h
      refine ⟨L ++ L2 ++ [⟨T.heap.size, i⟩], ?_, fun x hx => ?_⟩
      · rw [Nat.succ_mul, Nat.succ_mul, ← List.append_assoc, ← List.append_assoc, ← Nat.add_assoc, ← Nat.add_assoc]
        exact h
      · rcases List.mem_append.mp hx with hx | hx
        · rcases List.mem_append.mp hx with hx | hx
          · exact hL x hx
          · exact Nat.le_trans (Nat.le_of_lt hlt0) (hL2 x hx)
        · simp at hx
          subst hx
          exact Nat.le_refl _
  obtain ⟨L, h1, h2⟩ := key N
  refine ⟨L, ?_, h2⟩
  rw [← Nat.add_assoc, ← Nat.add_assoc]
  exact h1
/-! the heap of known objects behind it -/
def mGI (D : va_G) (dT : Nat → ClassId) (B : State → State) (G : gH → Nat → gH) : Prop := ∀ (A : Nat → Prop) (L : List Nat) (h : gH) (u : State), gI D dT A L h u.heap → (∀ q : Nat, u.heap.size ≤ q → A q) → ∃ L' : List Nat, gI D dT A L' (G h u.heap.size) (B u).heap
theorem gI.push {D : va_G} {dT : Nat → ClassId} {A : Nat → Prop} {L : List Nat} {h : gH} {H : Heap} (I : gI D dT A L h H) (t : Nat) (x : vp_A) (hA : A H.size) : gI D dT A (L ++ [H.size]) (gU h H.size (.inl (t, x))) (H.push (vp_cell (dT t) x)) := by
  have o1 : ∀ q : Nat, q < H.size → (H.push (vp_cell (dT t) x))[q]? = H[q]? := fun q hq => by rw [Array.getElem?_push, if_neg (Nat.ne_of_lt hq)]
  have hP1 : va_P D vwCl (va_pl L (gF dT h) ++ [(H.size, gE dT (.inl (t, x)))]) (H.push (vp_cell (dT t) x)) := by
    refine (I.2.1.kept (fun k z hz => o1 z.1 ((I.2.1 k z hz).lt))).app (fun k z hz => ?_)
    have h0 : k < 1 := (List.getElem?_eq_some_iff.mp hz).1
    rw [show k = 0 by omega] at hz
    cases hz
    show (H.push (vp_cell (dT t) x))[H.size]? = some (vp_cell _ _)
    rw [Array.getElem?_push_size]
  exact (I.new hP1 (I.2.2.push I.2.1 rfl hA)).2
theorem gI.setc {D : va_G} {dT : Nat → ClassId} {A : Nat → Prop} {L : List Nat} {h : gH} {H : Heap} (I : gI D dT A L h H) {a t : Nat} {x x' : vp_A} (e : h a = some (.inl (t, x))) : gI D dT A L (gU h a (.inl (t, x'))) (H.setIfInBounds a (vp_cell (dT t) x')) := by
  obtain ⟨k, hk⟩ := I.get e
  have hlt : a < H.size := (I.2.1 k _ hk).lt
  refine I.set (o' := .inl (t, x')) e hk (I.2.1.set I.2.2 hk ?_ ?_) (I.2.2.set hk)
  · show (H.setIfInBounds a (vp_cell (dT t) x'))[a]? = some (vp_cell (dT t) x')
    simp [hlt]
  · intro q hq
    rw [Array.getElem?_setIfInBounds, if_neg (Ne.symm hq)]
def gGO (G : gH → Nat → gH) (t N nc : Nat) (h : gH) (q : Nat) : Nat → gH
  | 0 => gU h q (.inl (t, N, .inr (.inr (.inr (.inr (fun j => if j < 0 then some (q + 1 + j * nc) else none))))))
  | i + 1 => gU (G (gGO G t N nc h q i) (q + 1 + i * nc)) q (.inl (t, N, .inr (.inr (.inr (.inr (fun j => if j < i + 1 then some (q + 1 + j * nc) else none))))))
theorem mGI_1 {D : va_G} {dT : Nat → ClassId} (t M : Nat) : mGI D dT (fun u => u.pushCell (vp_cell (dT t) (M, .inl (fun _ => 0)))) (fun h q => gU h q (.inl (t, M, .inl (fun _ => 0)))) := fun A L h u I hA => ⟨_, I.push t (M, .inl (fun _ => 0)) (hA _ (Nat.le_refl _))⟩
theorem mGI_O {D : va_G} {dT : Nat → ClassId} {B : State → State} {G : gH → Nat → gH} {nc ns : Nat} (hB : mFx B nc ns) (hG : mGI D dT B G) (hk : ∀ (h : gH) (a q : Nat), q < a → G h a q = h q) (t N : Nat) : mGI D dT (fun s => mBO B (dT t) N nc s N) (fun h q => gGO G t N nc h q N) := by
  intro A L h u I hA
  have key : ∀ i : Nat, ∃ L' : List Nat, gI D dT A L' (gGO G t N nc h u.heap.size i) (mBO B (dT t) N nc u i).heap ∧ gGO G t N nc h u.heap.size i u.heap.size = some (.inl (t, N, .inr (.inr (.inr (.inr (fun j => if j < i then some (u.heap.size + 1 + j * nc) else none)))))) := by
    intro i
    induction i with
    | zero => exact ⟨_, I.push t _ (hA _ (Nat.le_refl _)), gU_eq _ _ _⟩
    | succ i ih =>
      obtain ⟨L1, I1, e1⟩ := ih
      obtain ⟨f1, f2, f3, f4, f5, f6⟩ := mBO_fx hB (dT t) N u i
      obtain ⟨L2, I2⟩ := hG A L1 _ _ I1 (fun q hq => hA q (by rw [f2] at hq; omega))
      rw [f2] at I2
      have e2 : G (gGO G t N nc h u.heap.size i) (u.heap.size + 1 + i * nc) u.heap.size = _ := (hk _ _ _ (by omega)).trans e1
      exact ⟨L2, I2.setc (x' := (N, .inr (.inr (.inr (.inr (fun j => if j < i + 1 then some (u.heap.size + 1 + j * nc) else none)))))) e2, gU_eq _ _ _⟩
  obtain ⟨L', h1, -⟩ := key N
  exact ⟨L', h1⟩
theorem gGO_2 (h : gH) (q t ti n k : Nat) : gGO (fun h q => gU h q (.inl (ti, k, .inl (fun _ => 0)))) t n 1 h q n = gG2 h q t ti n k := by
  have key : ∀ i : Nat, gGO (fun h q => gU h q (.inl (ti, k, .inl (fun _ => 0)))) t n 1 h q i = fun p => if p = q then some (.inl (t, n, .inr (.inr (.inr (.inr (fun j => if j < i then some (q + 1 + j) else none)))))) else if q < p ∧ p ≤ q + i then some (.inl (ti, k, .inl (fun _ => 0))) else h p := by
    intro i
    induction i with
    | zero =>
      funext p
      simp only [gGO, gU, Nat.mul_one, Nat.add_zero]
      by_cases e : p = q
      · simp only [if_pos e]
      · have e2 : ¬ (q < p ∧ p ≤ q) := by omega
        simp only [if_neg e, if_neg e2]
    | succ i ih =>
      funext p
      simp only [gGO, ih, gU, Nat.mul_one]
      by_cases e : p = q
      · simp only [if_pos e]
      · by_cases e2 : p = q + 1 + i
        · have e3 : q < p ∧ p ≤ q + (i + 1) := by omega
          simp only [if_neg e, if_pos e2, if_pos e3]
        · by_cases e3 : q < p ∧ p ≤ q + i
          · have e4 : q < p ∧ p ≤ q + (i + 1) := by omega
            simp only [if_neg e, if_neg e2, if_pos e3, if_pos e4]
          · have e4 : ¬ (q < p ∧ p ≤ q + (i + 1)) := by omega
            simp only [if_neg e, if_neg e2, if_neg e3, if_neg e4]
  exact key n
theorem gGO_3 (h : gH) (q t tm ti n k l : Nat) : gGO (fun h q => gG2 h q tm ti k l) t n (k + 1) h q n = gG3 h q t tm ti n k l := by
  have key : ∀ i : Nat, gGO (fun h q => gG2 h q tm ti k l) t n (k + 1) h q i = fun p => if p = q then some (.inl (t, n, .inr (.inr (.inr (.inr (fun j => if j < i then some (q + 1 + j * (k + 1)) else none)))))) else if q < p ∧ p ≤ q + i * (k + 1) then (if (p - q - 1) % (k + 1) = 0 then some (.inl (tm, k, .inr (.inr (.inr (.inr (fun j => if j < k then some (p + 1 + j) else none)))))) else some (.inl (ti, l, .inl (fun _ => 0)))) else h p := by
    intro i
    induction i with
    | zero =>
      funext p
      simp only [gGO, gU, Nat.zero_mul, Nat.add_zero]
      by_cases e : p = q
      · simp only [if_pos e]
      · have e2 : ¬ (q < p ∧ p ≤ q) := by omega
        simp only [if_neg e, if_neg e2]
    | succ i ih =>
      funext p
      have hm : (i + 1) * (k + 1) = i * (k + 1) + (k + 1) := Nat.succ_mul _ _
      simp only [gGO, ih, gU, gG2, hm]
      generalize hX : i * (k + 1) = X at *
      by_cases e : p = q
      · simp only [if_pos e]
      · by_cases e2 : p = q + 1 + X
        · have e3 : q < p ∧ p ≤ q + (X + (k + 1)) := by omega
          have e4 : (p - q - 1) % (k + 1) = 0 := by rw [e2, show q + 1 + X - q - 1 = X by omega, ← hX]; exact Nat.mul_mod_left _ _
          simp only [if_neg e, if_pos e2, if_pos e3, if_pos e4]
          subst e2
          rfl
        · by_cases e3 : q + 1 + X < p ∧ p ≤ q + 1 + X + k
          · have e4 : ¬ (p - q - 1) % (k + 1) = 0 := by
              obtain ⟨r, hr⟩ : ∃ r, p - q - 1 = i * (k + 1) + r := ⟨p - q - 1 - i * (k + 1), by omega⟩
              rw [hr, Nat.add_comm, Nat.add_mul_mod_self_right, Nat.mod_eq_of_lt (by omega)]
              omega
            have e5 : q < p ∧ p ≤ q + (X + (k + 1)) := by omega
            simp only [if_neg e, if_neg e2, if_pos e3, if_neg e4, if_pos e5]
          · by_cases e5 : q < p ∧ p ≤ q + X
            · have e6 : q < p ∧ p ≤ q + (X + (k + 1)) := by omega
              simp only [if_neg e, if_neg e2, if_neg e3, if_pos e5, if_pos e6]
            · have e6 : ¬ (q < p ∧ p ≤ q + (X + (k + 1))) := by omega
              simp only [if_neg e, if_neg e2, if_neg e3, if_neg e5, if_neg e6]
  exact key n
section GMN
variable {p : Program} {l : Launch} {e : Env} {R : Room} {s : State} {m : MethodId} {args : Array Value} {below : List Frame} {meth : Method} {c : Code} {H : Heap} {locs : List Loc} {cells slots : Nat} {Q : State → Prop}
set_option maxHeartbeats 1000000 in
theorem gx_mna2 {cc : ByteArray} (hexec : p.tables.exec = Jvm.exec) (hb : c.code = cc) {own nm : String} {index : Nat} {cA : ClassId} (hown : s.vm.findClass own = some m.cls) (hclink : (Cond.classLink own index nm).before args s = true) (hcA : s.vm.findClass nm = some cA) {pc : Nat} {ls : Array Slot} (hdg : decode cc pc = .ok (.multianewarray index 2, 4)) {n k : Int32} {rest : List Value} {B : State → State} {nc ns : Nat}
    (hW : l.admits e → ∀ vm₁ : Vm, s.vm.Alike vm₁ → mWp e vm₁ cA [n, k] B nc ns) (hF : mFx B nc ns) (hSt : mSt B nc ns) (hcells : cells + nc ≤ R.cells) (hslots : slots + ns ≤ R.slots)
    (kk : ∀ (u : State) (L : List Loc), u.heap = H → (∀ x ∈ L, H.size ≤ x.base) → W p l e R s m args below meth c (B u).heap (locs ++ L) (cells + nc) (slots + ns) Q (F0 m (pc + 4) ls (.ref H.size :: rest))) : W p l e R s m args below meth c H locs cells slots Q (F0 m pc ls (.int k :: .int n :: rest)) := by
  intro T hT X
  subst hT; subst hb
  have hpl : e.platform.magicAccessors = ({} : Platform).magicAccessors := by rw [X.admits.platform]
  obtain ⟨c0, hfc0, hcl⟩ := Cond.classLink_spec hown hclink e.platform hpl
  cases hcA.symm.trans hfc0
  obtain ⟨hg₁, hwarm₁, hready₁⟩ := State.classEntry (e := e) X.warmed hcl
  generalize T.vm.noted (F0 m pc ls (.int k :: .int n :: rest)).method.cls index (.cls cA) = vm₁ at hg₁ hwarm₁ hready₁
  have X₁ := X.noted hwarm₁
  obtain ⟨L, X₂, hL⟩ := hSt _ _ _ _ _ _ _ _ _ _ _ _ _ _ X₁
  obtain ⟨hr1, hr2⟩ := X.roomAbove hcells hslots
  obtain ⟨t', a1, b1⟩ := kk (T.setVm vm₁) L rfl hL (B (T.setVm vm₁)) rfl X₂
  refine ⟨t', ?_, b1⟩
  have hm9 : (T.setTop (F0 m pc ls (.int k :: .int n :: rest))).method? = some m := State.method?_setTop _ X.here.top
  have hg9 : (resolveClass m.cls index).Gives e.toSetting (T.setTop (F0 m pc ls (.int k :: .int n :: rest))).vm (.ok cA) vm₁ := hg₁
  jvm_step X.here [hexec, hdg]
  simp only [Op.multianewarray.sem, wp_bind', W.resolveClassAt_links hm9 hg9]
  rw [W.popN, if_neg (by decide)]
  refine ⟨F0 m pc ls (.int k :: .int n :: rest), State.topJava?_setTop' (s := T.setVm vm₁) _ X.here.top, [.int n, .int k], rest, rfl, rfl, ?_⟩
  simp only [List.mapM_cons, List.mapM_nil, wp_bind', wp_pure']
  have eS : ((T.setTop (F0 m pc ls (.int k :: .int n :: rest))).setVm vm₁).setTop { F0 m pc ls (.int k :: .int n :: rest) with stack := rest } = (T.setVm vm₁).setTop { F0 m pc ls (.int k :: .int n :: rest) with stack := rest } := by
    show ((T.setVm vm₁).setTop _).setTop _ = _
    rw [State.setTop_setTop]
  rw [eS]
  refine hW X.admits vm₁ hwarm₁.alike _ _ _ _ _ rfl hr1 hr2 (fun d' acts' => ?_)
  rw [(hF (T.setVm vm₁)).2.2.2.2]
  simp only [wp_bind', W.mark, W.pushRef, State.topJava?_setTop' _ X₂.here.top, Option.some.injEq, exists_eq_left', State.setTop_setTop, State.heap_setTop]
  intro acts
  simp [jvm, X₂.here.top]
  exact a1
set_option maxHeartbeats 1000000 in
theorem gx_mna3 {cc : ByteArray} (hexec : p.tables.exec = Jvm.exec) (hb : c.code = cc) {own nm : String} {index : Nat} {cA : ClassId} (hown : s.vm.findClass own = some m.cls) (hclink : (Cond.classLink own index nm).before args s = true) (hcA : s.vm.findClass nm = some cA) {pc : Nat} {ls : Array Slot} (hdg : decode cc pc = .ok (.multianewarray index 3, 4)) {n k k3 : Int32} {rest : List Value} {B : State → State} {nc ns : Nat}
    (hW : l.admits e → ∀ vm₁ : Vm, s.vm.Alike vm₁ → mWp e vm₁ cA [n, k, k3] B nc ns) (hF : mFx B nc ns) (hSt : mSt B nc ns) (hcells : cells + nc ≤ R.cells) (hslots : slots + ns ≤ R.slots)
    (kk : ∀ (u : State) (L : List Loc), u.heap = H → (∀ x ∈ L, H.size ≤ x.base) → W p l e R s m args below meth c (B u).heap (locs ++ L) (cells + nc) (slots + ns) Q (F0 m (pc + 4) ls (.ref H.size :: rest))) : W p l e R s m args below meth c H locs cells slots Q (F0 m pc ls (.int k3 :: .int k :: .int n :: rest)) := by
  intro T hT X
  subst hT; subst hb
  have hpl : e.platform.magicAccessors = ({} : Platform).magicAccessors := by rw [X.admits.platform]
  obtain ⟨c0, hfc0, hcl⟩ := Cond.classLink_spec hown hclink e.platform hpl
  cases hcA.symm.trans hfc0
  obtain ⟨hg₁, hwarm₁, hready₁⟩ := State.classEntry (e := e) X.warmed hcl
  generalize T.vm.noted (F0 m pc ls (.int k3 :: .int k :: .int n :: rest)).method.cls index (.cls cA) = vm₁ at hg₁ hwarm₁ hready₁
  have X₁ := X.noted hwarm₁
  obtain ⟨L, X₂, hL⟩ := hSt _ _ _ _ _ _ _ _ _ _ _ _ _ _ X₁
  obtain ⟨hr1, hr2⟩ := X.roomAbove hcells hslots
  obtain ⟨t', a1, b1⟩ := kk (T.setVm vm₁) L rfl hL (B (T.setVm vm₁)) rfl X₂
  refine ⟨t', ?_, b1⟩
  have hm9 : (T.setTop (F0 m pc ls (.int k3 :: .int k :: .int n :: rest))).method? = some m := State.method?_setTop _ X.here.top
  have hg9 : (resolveClass m.cls index).Gives e.toSetting (T.setTop (F0 m pc ls (.int k3 :: .int k :: .int n :: rest))).vm (.ok cA) vm₁ := hg₁
  jvm_step X.here [hexec, hdg]
  simp only [Op.multianewarray.sem, wp_bind', W.resolveClassAt_links hm9 hg9]
  rw [W.popN, if_neg (by decide)]
  refine ⟨F0 m pc ls (.int k3 :: .int k :: .int n :: rest), State.topJava?_setTop' (s := T.setVm vm₁) _ X.here.top, [.int n, .int k, .int k3], rest, rfl, rfl, ?_⟩
  simp only [List.mapM_cons, List.mapM_nil, wp_bind', wp_pure']
  have eS : ((T.setTop (F0 m pc ls (.int k3 :: .int k :: .int n :: rest))).setVm vm₁).setTop { F0 m pc ls (.int k3 :: .int k :: .int n :: rest) with stack := rest } = (T.setVm vm₁).setTop { F0 m pc ls (.int k3 :: .int k :: .int n :: rest) with stack := rest } := by
    show ((T.setVm vm₁).setTop _).setTop _ = _
    rw [State.setTop_setTop]
  rw [eS]
  refine hW X.admits vm₁ hwarm₁.alike _ _ _ _ _ rfl hr1 hr2 (fun d' acts' => ?_)
  rw [(hF (T.setVm vm₁)).2.2.2.2]
  simp only [wp_bind', W.mark, W.pushRef, State.topJava?_setTop' _ X₂.here.top, Option.some.injEq, exists_eq_left', State.setTop_setTop, State.heap_setTop]
  intro acts
  simp [jvm, X₂.here.top]
  exact a1
end GMN
end
section
theorem gIn1 : ∀ w ∈ u_ws RX1 TX1 9, w ∈ lw_tbl := by decide +kernel
theorem gGd1 : ∀ w ∈ u_ws RX1 TX1 9, goodWord w = true := by decide +kernel
theorem gIn2 : ∀ w ∈ u_ws RX2 TX2 5, w ∈ lw_tbl := by decide +kernel
theorem gGd2 : ∀ w ∈ u_ws RX2 TX2 5, goodWord w = true := by decide +kernel
theorem gIn3 : ∀ w ∈ u_ws RX3 TX3 1, w ∈ lw_tbl := by decide +kernel
theorem gGd3 : ∀ w ∈ u_ws RX3 TX3 1, goodWord w = true := by decide +kernel
theorem gIn4 : ∀ w ∈ u_ws RX4 TX4 4, w ∈ lw_tbl := by decide +kernel
theorem gGd4 : ∀ w ∈ u_ws RX4 TX4 4, goodWord w = true := by decide +kernel
theorem gIn5 : ∀ w ∈ u_ws RX5 TX5 2, w ∈ lw_tbl := by decide +kernel
theorem gGd5 : ∀ w ∈ u_ws RX5 TX5 2, goodWord w = true := by decide +kernel
theorem gIn6 : ∀ w ∈ u_ws RX6 TX6 8, w ∈ lw_tbl := by decide +kernel
theorem gGd6 : ∀ w ∈ u_ws RX6 TX6 8, goodWord w = true := by decide +kernel
theorem gIn7 : ∀ w ∈ u_ws RX7 TX7 9, w ∈ lw_tbl := by decide +kernel
theorem gGd7 : ∀ w ∈ u_ws RX7 TX7 9, goodWord w = true := by decide +kernel
theorem gArI : Jvm.Cond.arrayClass (newarray.typeOf .int) ∈ lw_tbl := by decide +kernel
theorem gArZ : Jvm.Cond.arrayClass (newarray.typeOf .boolean) ∈ lw_tbl := by decide +kernel
theorem gObjI : Jvm.Cond.instanceMethod objectInit ∈ lw_tbl := by decide +kernel
theorem gObjC : Jvm.Cond.code objectInit ⟨#[0xb1]⟩ 1 none ∈ lw_tbl := by decide +kernel
theorem gMi1 : Jvm.Cond.static Lib.Math.abs.name ∈ lw_tbl := by decide +kernel
theorem gMi2 : Jvm.Cond.initialized "java/lang/Math" ∈ lw_tbl := by decide +kernel
theorem gMi3 : Jvm.Cond.code Lib.Math.abs.name Lib.Math.abs.code 1 (some .int) ∈ lw_tbl := by decide +kernel
theorem gFitI {cA : ClassId} {n i : Nat} {f : Nat → Int32} {v : Value} (h : (vp_cell cA (n, .inl f)).slots[i]? = some v) : fits .int v = true := by
  rw [vp_cell_i] at h
  by_cases hi : i < n
  · rw [arrV_read _ _ hi] at h
    cases h
    rfl
  · have h2 : i < (arrV cA n (fun j => Value.int (f j))).slots.size := (Array.getElem?_eq_some_iff.mp h).1
    rw [arrV_size] at h2
    exact absurd h2 hi
/-- a nest mate's field lies in another class -/
def gNestBad : Jvm.Cond → Bool
  | .fieldLinkNest a _ b _ _ _ => a == b
  | _ => false
theorem gNestF : ∀ w ∈ lw_tbl, gNestBad w = false := by decide +kernel
/-! one instruction of gS is one row of the kit -/
section GXS
variable {p : Program} {l : Launch} {e : Env} {R : Room} {s : State} {m : MethodId} {args : Array Value} {below : List Frame} {meth : Method} {c : Code} {Q : State → Prop} {A : Nat → Prop} {D : va_G} {dT : Nat → ClassId} {y : gM} {d : Nat} {Post : Option Value → gH → Prop} {X : String → gH → Prop} {ro : Nat → Option (Nat × (Nat → Int32))}
/-- the answer that an instruction gives back -/
def gRet (y : gM) (i : Instr) (v : Option Value) : Prop := (i = .ireturn ∧ ∃ (x : Int32) (ty : FieldType), v = some (.int x) ∧ y.2.2.2.1 = some ty ∧ narrow ty (.int x) = .int x) ∨ (i = .lreturn ∧ ∃ x : Int64, v = some (.long x) ∧ y.2.2.2.1 = some .long) ∨ (i = .dreturn ∧ ∃ x : UInt64, v = some (.double x) ∧ y.2.2.2.1 = some .double) ∨ (i = .return_ ∧ v = none ∧ y.2.2.2.1 = none) ∨ (i = .areturn ∧ ∃ (a : Nat) (ty : FieldType), v = some (.ref a) ∧ y.2.2.2.1 = some ty ∧ ((∃ C, ty = .object C) ∨ ∃ t, ty = .array t))
theorem gCl_facts : ∀ (ci : Nat) (C : String) (T : u_T) (N : Nat), vwCl[ci]? = some (C, T, N) → (∀ w ∈ u_ws C T N, w ∈ lw_tbl ∧ goodWord w = true) ∧ (∃ ty : Nat → FieldType, ∀ k, k < N → parseFieldDescriptor (T k).2.2.1 = some (ty k)) ∧ ∀ a, a < N → ∀ b, b < N → a ≠ b → (T a).2.1 ≠ (T b).2.1 := by
  intro ci C T N h
  match ci, h with
  | 0, h => cases h; exact ⟨fun w hw => ⟨gIn1 w hw, gGd1 w hw⟩, ⟨tyX1, tyX1_ok⟩, nmX1⟩
  | 1, h => cases h; exact ⟨fun w hw => ⟨gIn2 w hw, gGd2 w hw⟩, ⟨tyX2, tyX2_ok⟩, nmX2⟩
  | 2, h => cases h; exact ⟨fun w hw => ⟨gIn3 w hw, gGd3 w hw⟩, ⟨tyX3, tyX3_ok⟩, nmX3⟩
  | 3, h => cases h; exact ⟨fun w hw => ⟨gIn4 w hw, gGd4 w hw⟩, ⟨tyX4, tyX4_ok⟩, nmX4⟩
  | 4, h => cases h; exact ⟨fun w hw => ⟨gIn5 w hw, gGd5 w hw⟩, ⟨tyX5, tyX5_ok⟩, nmX5⟩
  | 5, h => cases h; exact ⟨fun w hw => ⟨gIn6 w hw, gGd6 w hw⟩, ⟨tyX6, tyX6_ok⟩, nmX6⟩
  | 6, h => cases h; exact ⟨fun w hw => ⟨gIn7 w hw, gGd7 w hw⟩, ⟨tyX7, tyX7_ok⟩, nmX7⟩
  | k + 7, h => simp [vwCl] at h
theorem vw_rec {own : String} {idx ci k : Nat} {ty : FieldType} {fin : Bool} (h : gFL own idx ci k ty fin) : True := trivial
set_option maxHeartbeats 4000000 in
set_option maxRecDepth 100000 in
theorem gx_step (C : gCtx p l R s m args meth c y (d + 1) D dT A)
    (hcall : ∀ (z : gM) (as : List Value) (h : gH) (mc ms : Nat) (Post : Option Value → gH → Prop) (X : String → gH → Prop), gOK z → gSafe d z as h mc ms Post X → gMet l d z as h mc ms Post X)
    (hro : ∀ (a n : Nat) (f : Nat → Int32), ro a = some (n, f) → va_X a n f s s.heap ∧ a < s.heap.size ∧ ¬ A a)
    (hret : ∀ (i : Instr) (v : Option Value) (pc : Nat) (ls : Array Slot) (h : gH) (L : List Nat) (H : Heap) (locs : List Loc), gRet y i v → decode y.2.1 pc = .ok (i, 1) → Post v h → gI D dT A L h H → va_S A s.heap H locs → W p l e R s m args below meth c H locs R.cells R.slots Q (F0 m pc ls v.toList))
    (hthrow : ∀ (E : String) (ce : Cell) (q9 : Addr) (pc : Nat) (ls : Array Slot) (rest : List Value) (h : gH) (L : List Nat) (H : Heap) (locs : List Loc), E ∈ gExc → X E h → gI D dT A L h H → va_S A s.heap H locs → H[q9]? = some ce → ce.vm = .none → s.vm.findClass E = some ce.cls → vx_W p l e R s m args below meth c H locs R.cells R.slots Q (F0 m pc ls rest) q9)
    (hnew : ∀ (E : String) (pc ik : Nat) (ls : Array Slot) (st : List Value) (h : gH) (L : List Nat) (H : Heap) (locs : List Loc) (cells slots : Nat), gTN y pc ik E → decode y.2.1 pc = .ok (.new ik, 3) → 6 ≤ d + 1 → gCat st ≤ 100 → X E h → gI D dT A L h H → va_S A s.heap H locs → cells + 1 ≤ R.cells → slots + 6 ≤ R.slots → ls.size = y.2.2.1 → W p l e R s m args below meth c H locs cells slots Q (F0 m pc ls st)) :
    gClosed (gSafe d) y (d + 1) Post X ro (gKX p l e R s m args below meth c D dT A y.2.2.1 Q) := by
  intro pc lv st h bc bs i len hd hlen hs H locs cells slots ls L hI hS hc hbs hL
  obtain ⟨hx, hb, hml, hown, hts, hK, hA, hE, hR, hin⟩ := id C
  have gw : ∀ w : Jvm.Cond, w ∈ lw_tbl → goodWord w = true → w.before args s = true := fun w h1 h2 => hts w (gGood_in h1 h2)
  -- a call's thrown end
  have kxx : ∀ (pc : Nat) (lv : gL) (r : List Value) (mc ms : Nat), mc ≤ bc → ms ≤ bs → gLH ls y.2.2.1 lv → ∀ (E : String) (ce : Cell) (q9 : Addr) (h' : gH) (L : List Nat) (H1 : Heap) (locs1 : List Loc), E ∈ gExc → gThr y X (gKX p l e R s m args below meth c D dT A y.2.2.1 Q) pc lv E h' (bc - mc) (bs - ms) → gI D dT A L h' H1 → va_S A s.heap H1 locs1 → H1[q9]? = some ce → ce.vm = .none → s.vm.findClass E = some ce.cls → vx_W p l e R s m args below meth c H1 locs1 (cells + mc) (slots + ms) Q (F0 m pc ls r) q9 := by
    intro pc lv r mc ms hmc hms hL E ce q9 h' L H1 locs1 hEx ht hI1 hS1 hce hcv hcl
    exact vx_widen (by omega) (by omega) (hthrow E ce q9 pc ls r h' L H1 locs1 hEx ht hI1 hS1 hce hcv hcl)
  cases i with
  | iload n =>
    obtain rfl : len = 2 := by simpa [gLen] using hlen
    obtain ⟨x, hg, k⟩ := hs
    exact lv_iload hx hb hd (hL.2.2.2 _ _ hg) (k H locs cells slots ls L hI hS hc hbs hL)
  | lload n =>
    obtain rfl : len = 2 := by simpa [gLen] using hlen
    obtain ⟨x, hg, k⟩ := hs
    exact lv_lload hx hb hd (hL.2.2.2 _ _ hg) (k H locs cells slots ls L hI hS hc hbs hL)
  | dload n =>
    obtain rfl : len = 2 := by simpa [gLen] using hlen
    obtain ⟨x, hg, k⟩ := hs
    exact lv_dload hx hb hd (hL.2.2.2 _ _ hg) (k H locs cells slots ls L hI hS hc hbs hL)
  | aload n =>
    obtain rfl : len = 2 := by simpa [gLen] using hlen
    obtain ⟨x, hg, k⟩ := hs
    exact lv_aload hx hb hd (hL.2.2.2 _ _ hg) (k H locs cells slots ls L hI hS hc hbs hL)
  | iload_n n =>
    obtain rfl : len = 1 := by simpa [gLen] using hlen
    obtain ⟨x, hg, k⟩ := hs
    exact lv_iload_n hx hb hd rfl (hL.2.2.2 _ _ hg) (k H locs cells slots ls L hI hS hc hbs hL)
  | lload_n n =>
    obtain rfl : len = 1 := by simpa [gLen] using hlen
    obtain ⟨x, hg, k⟩ := hs
    exact lv_lload_n hx hb hd rfl (hL.2.2.2 _ _ hg) (k H locs cells slots ls L hI hS hc hbs hL)
  | aload_n n =>
    obtain rfl : len = 1 := by simpa [gLen] using hlen
    obtain ⟨x, hg, k⟩ := hs
    exact lv_aload_n hx hb hd rfl (hL.2.2.2 _ _ hg) (k H locs cells slots ls L hI hS hc hbs hL)
  | istore n =>
    obtain rfl : len = 2 := by simpa [gLen] using hlen
    obtain ⟨x, r, rfl, hn, k⟩ := hs
    exact lv_istore hx hb hd hL.has (by rw [← hL.2.1]; exact hn) rfl (fun ls1 h1 => (k H locs cells slots ls1 L hI hS hc hbs (hL.set h1)))
  | istore_n n =>
    obtain rfl : len = 1 := by simpa [gLen] using hlen
    obtain ⟨x, r, rfl, hn, k⟩ := hs
    exact lv_istore_n hx hb hd rfl hL.has (by rw [← hL.2.1]; exact hn) rfl (fun ls1 h1 => (k H locs cells slots ls1 L hI hS hc hbs (hL.set h1)))
  | astore n =>
    obtain rfl : len = 2 := by simpa [gLen] using hlen
    obtain ⟨x, r, rfl, hn, k⟩ := hs
    exact lv_astore hx hb hd hL.has (by rw [← hL.2.1]; exact hn) rfl (fun ls1 h1 => (k H locs cells slots ls1 L hI hS hc hbs (hL.set h1)))
  | astore_n n =>
    obtain rfl : len = 1 := by simpa [gLen] using hlen
    obtain ⟨x, r, rfl, hn, k⟩ := hs
    exact lv_astore_n hx hb hd rfl hL.has (by rw [← hL.2.1]; exact hn) rfl (fun ls1 h1 => (k H locs cells slots ls1 L hI hS hc hbs (hL.set h1)))
  | lstore n =>
    obtain rfl : len = 2 := by simpa [gLen] using hlen
    obtain ⟨x, r, rfl, hn, k⟩ := hs
    exact lv_lstore hx hb hd hL.has (by rw [← hL.2.1]; exact hn) rfl (fun ls1 h1 => (k H locs cells slots ls1 L hI hS hc hbs (hL.set2 h1)))
  | dstore n =>
    obtain rfl : len = 2 := by simpa [gLen] using hlen
    obtain ⟨x, r, rfl, hn, k⟩ := hs
    exact lv_dstore hx hb hd hL.has (by rw [← hL.2.1]; exact hn) rfl (fun ls1 h1 => (k H locs cells slots ls1 L hI hS hc hbs (hL.set2 h1)))
  | lstore_n n =>
    obtain rfl : len = 1 := by simpa [gLen] using hlen
    obtain ⟨x, r, rfl, hn, k⟩ := hs
    exact lv_lstore_n hx hb hd rfl hL.has (by rw [← hL.2.1]; exact hn) rfl (fun ls1 h1 => (k H locs cells slots ls1 L hI hS hc hbs (hL.set2 h1)))
  | iinc n k0 =>
    obtain rfl : len = 3 := by simpa [gLen] using hlen
    obtain ⟨x, v, hg, hv, hn, k⟩ := hs
    obtain ⟨i, hi⟩ := List.getElem?_of_mem (gA_mem (q := (n, Value.int x)).mpr hg)
    exact lv_iinc hx hb hd hL.has hi hv (by rw [← hL.2.1]; exact hn) rfl (fun ls1 h1 => (k H locs cells slots ls1 L hI hS hc hbs (hL.set h1)))
  | iconst n =>
    obtain rfl : len = 1 := by simpa [gLen] using hlen
    obtain ⟨v, hv, k⟩ := hs
    exact lv_iconst hx hb hd hv (k H locs cells slots ls L hI hS hc hbs hL)
  | bipush n =>
    obtain rfl : len = 2 := by simpa [gLen] using hlen
    obtain ⟨v, hv, k⟩ := hs
    exact lv_bipush hx hb hd hv (k H locs cells slots ls L hI hS hc hbs hL)
  | sipush n =>
    obtain rfl : len = 3 := by simpa [gLen] using hlen
    obtain ⟨v, hv, k⟩ := hs
    exact lv_sipush hx hb hd hv (k H locs cells slots ls L hI hS hc hbs hL)
  | lconst n =>
    obtain rfl : len = 1 := by simpa [gLen] using hlen
    obtain ⟨v, hv, k⟩ := hs
    exact lv_lconst hx hb hd hv (k H locs cells slots ls L hI hS hc hbs hL)
  | dconst n =>
    obtain rfl : len = 1 := by simpa [gLen] using hlen
    obtain ⟨rfl, k⟩ := hs
    exact lv_dconst0 hx hb hd (k H locs cells slots ls L hI hS hc hbs hL)
  | ldc2_w n =>
    obtain rfl : len = 3 := by simpa [gLen] using hlen
    obtain ⟨v, hw, k⟩ := hs
    exact lv_ldc2 hx hb hown (gw _ hw rfl) hd (k H locs cells slots ls L hI hS hc hbs hL)
  | iadd =>
    obtain rfl : len = 1 := by simpa [gLen] using hlen
    obtain ⟨b, a, r, rfl, k⟩ := hs
    exact lv_iadd hx hb hd (k H locs cells slots ls L hI hS hc hbs hL)
  | isub =>
    obtain rfl : len = 1 := by simpa [gLen] using hlen
    obtain ⟨b, a, r, rfl, k⟩ := hs
    exact lv_isub hx hb hd (k H locs cells slots ls L hI hS hc hbs hL)
  | imul =>
    obtain rfl : len = 1 := by simpa [gLen] using hlen
    obtain ⟨b, a, r, rfl, k⟩ := hs
    exact lv_imul hx hb hd (k H locs cells slots ls L hI hS hc hbs hL)
  | iand =>
    obtain rfl : len = 1 := by simpa [gLen] using hlen
    obtain ⟨b, a, r, rfl, k⟩ := hs
    exact lv_iand hx hb hd (k H locs cells slots ls L hI hS hc hbs hL)
  | ixor =>
    obtain rfl : len = 1 := by simpa [gLen] using hlen
    obtain ⟨b, a, r, rfl, k⟩ := hs
    exact lv_ixor hx hb hd (k H locs cells slots ls L hI hS hc hbs hL)
  | ladd =>
    obtain rfl : len = 1 := by simpa [gLen] using hlen
    obtain ⟨b, a, r, rfl, k⟩ := hs
    exact lv_ladd hx hb hd (k H locs cells slots ls L hI hS hc hbs hL)
  | lsub =>
    obtain rfl : len = 1 := by simpa [gLen] using hlen
    obtain ⟨b, a, r, rfl, k⟩ := hs
    exact lv_lsub hx hb hd (k H locs cells slots ls L hI hS hc hbs hL)
  | lmul =>
    obtain rfl : len = 1 := by simpa [gLen] using hlen
    obtain ⟨b, a, r, rfl, k⟩ := hs
    exact lv_lmul hx hb hd (k H locs cells slots ls L hI hS hc hbs hL)
  | land =>
    obtain rfl : len = 1 := by simpa [gLen] using hlen
    obtain ⟨b, a, r, rfl, k⟩ := hs
    exact lv_land hx hb hd (k H locs cells slots ls L hI hS hc hbs hL)
  | lor =>
    obtain rfl : len = 1 := by simpa [gLen] using hlen
    obtain ⟨b, a, r, rfl, k⟩ := hs
    exact lv_lor hx hb hd (k H locs cells slots ls L hI hS hc hbs hL)
  | lxor =>
    obtain rfl : len = 1 := by simpa [gLen] using hlen
    obtain ⟨b, a, r, rfl, k⟩ := hs
    exact lv_lxor hx hb hd (k H locs cells slots ls L hI hS hc hbs hL)
  | idiv =>
    obtain rfl : len = 1 := by simpa [gLen] using hlen
    obtain ⟨b, a, r, rfl, hne, k⟩ := hs
    exact lv_idiv hx hb hd hne (k H locs cells slots ls L hI hS hc hbs hL)
  | irem =>
    obtain rfl : len = 1 := by simpa [gLen] using hlen
    obtain ⟨b, a, r, rfl, hne, k⟩ := hs
    exact lv_irem hx hb hd hne (k H locs cells slots ls L hI hS hc hbs hL)
  | lshl =>
    obtain rfl : len = 1 := by simpa [gLen] using hlen
    obtain ⟨b, a, r, rfl, k⟩ := hs
    exact lv_lshl hx hb hd rfl (k H locs cells slots ls L hI hS hc hbs hL)
  | lushr =>
    obtain rfl : len = 1 := by simpa [gLen] using hlen
    obtain ⟨b, a, r, rfl, k⟩ := hs
    exact lv_lushr hx hb hd rfl (k H locs cells slots ls L hI hS hc hbs hL)
  | lcmp =>
    obtain rfl : len = 1 := by simpa [gLen] using hlen
    obtain ⟨b, a, r, rfl, k⟩ := hs
    exact W.lcmp hx hb hd (k H locs cells slots ls L hI hS hc hbs hL)
  | i2l =>
    obtain rfl : len = 1 := by simpa [gLen] using hlen
    obtain ⟨a, r, rfl, k⟩ := hs
    exact lv_i2l hx hb hd rfl (k H locs cells slots ls L hI hS hc hbs hL)
  | l2i =>
    obtain rfl : len = 1 := by simpa [gLen] using hlen
    obtain ⟨a, r, rfl, k⟩ := hs
    exact lv_l2i hx hb hd rfl (k H locs cells slots ls L hI hS hc hbs hL)
  | i2d =>
    obtain rfl : len = 1 := by simpa [gLen] using hlen
    obtain ⟨a, r, rfl, k⟩ := hs
    exact lv_i2d hx hb hd (k H locs cells slots ls L hI hS hc hbs hL)
  | ddiv =>
    obtain rfl : len = 1 := by simpa [gLen] using hlen
    obtain ⟨b, a, r, rfl, hne, k⟩ := hs
    exact lv_ddiv hx hb hd hne (k H locs cells slots ls L hI hS hc hbs hL)
  | dcmp op =>
    obtain rfl : len = 1 := by simpa [gLen] using hlen
    obtain ⟨b, a, r, rfl, k⟩ := hs
    exact lv_dcmp hx hb hd (k H locs cells slots ls L hI hS hc hbs hL)
  | dup =>
    obtain rfl : len = 1 := by simpa [gLen] using hlen
    obtain ⟨v, r, rfl, hv, k⟩ := hs
    exact lv_dup hx hb hd hv (k H locs cells slots ls L hI hS hc hbs hL)
  | dup2 =>
    obtain rfl : len = 1 := by simpa [gLen] using hlen
    obtain ⟨v, w, r, rfl, hv, hw, k⟩ := hs
    exact lv_dup2_11 hx hb hd hv hw (k H locs cells slots ls L hI hS hc hbs hL)
  | pop =>
    obtain rfl : len = 1 := by simpa [gLen] using hlen
    obtain ⟨v, r, rfl, hv, k⟩ := hs
    exact lv_pop hx hb hd hv (k H locs cells slots ls L hI hS hc hbs hL)
  | goto off =>
    obtain rfl : len = 3 := by simpa [gLen] using hlen
    obtain ⟨t, ht, k⟩ := hs
    exact lv_goto hx hb hd ht (k H locs cells slots ls L hI hS hc hbs hL)
  | ifCond cn off =>
    obtain rfl : len = 3 := by simpa [gLen] using hlen
    obtain ⟨x, r, t, rfl, ht, kt, kf⟩ := hs
    cases cn with
    | eq => exact lv_if_eq hx hb hd ht (fun q => kt q H locs cells slots ls L hI hS hc hbs hL) (fun q => kf q H locs cells slots ls L hI hS hc hbs hL)
    | ne => exact lv_if_ne hx hb hd ht (fun q => kt q H locs cells slots ls L hI hS hc hbs hL) (fun q => kf (fun z => z q) H locs cells slots ls L hI hS hc hbs hL)
    | lt => exact lv_if_lt hx hb hd ht (fun q => kt q H locs cells slots ls L hI hS hc hbs hL) (fun q => kf q H locs cells slots ls L hI hS hc hbs hL)
    | ge => exact lv_if_ge hx hb hd ht (fun q => kt q H locs cells slots ls L hI hS hc hbs hL) (fun q => kf q H locs cells slots ls L hI hS hc hbs hL)
    | gt => exact lv_if_gt hx hb hd ht (fun q => kt q H locs cells slots ls L hI hS hc hbs hL) (fun q => kf q H locs cells slots ls L hI hS hc hbs hL)
    | le => exact lv_if_le hx hb hd ht (fun q => kt q H locs cells slots ls L hI hS hc hbs hL) (fun q => kf q H locs cells slots ls L hI hS hc hbs hL)
  | if_icmp cn off =>
    obtain rfl : len = 3 := by simpa [gLen] using hlen
    obtain ⟨b, a, r, t, rfl, ht, kt, kf⟩ := hs
    cases cn with
    | eq => exact lv_icmp_eq hx hb hd ht (fun q => kt q H locs cells slots ls L hI hS hc hbs hL) (fun q => kf q H locs cells slots ls L hI hS hc hbs hL)
    | ne => exact lv_icmp_ne hx hb hd ht (fun q => kt q H locs cells slots ls L hI hS hc hbs hL) (fun q => kf (fun z => z q) H locs cells slots ls L hI hS hc hbs hL)
    | lt => exact lv_icmp_lt hx hb hd ht (fun q => kt q H locs cells slots ls L hI hS hc hbs hL) (fun q => kf q H locs cells slots ls L hI hS hc hbs hL)
    | ge => exact lv_icmp_ge hx hb hd ht (fun q => kt q H locs cells slots ls L hI hS hc hbs hL) (fun q => kf q H locs cells slots ls L hI hS hc hbs hL)
    | gt => exact lv_icmp_gt hx hb hd ht (fun q => kt q H locs cells slots ls L hI hS hc hbs hL) (fun q => kf q H locs cells slots ls L hI hS hc hbs hL)
    | le => exact lv_icmp_le hx hb hd ht (fun q => kt q H locs cells slots ls L hI hS hc hbs hL) (fun q => kf q H locs cells slots ls L hI hS hc hbs hL)
  | tableswitch dflt lo hi offs =>
    obtain ⟨x, r, rfl, k1, k2⟩ := hs
    by_cases h1 : x.toInt < lo
    · obtain ⟨t, ht, k⟩ := k1 (Or.inl h1)
      exact lv_tableOut hx hb hd (Or.inl h1) ht (k H locs cells slots ls L hI hS hc hbs hL)
    · by_cases h2 : hi < x.toInt
      · obtain ⟨t, ht, k⟩ := k1 (Or.inr h2)
        exact lv_tableOut hx hb hd (Or.inr h2) ht (k H locs cells slots ls L hI hS hc hbs hL)
      · obtain ⟨off, t, ho, ht, k⟩ := k2 h1 h2
        exact lv_tableIn hx hb hd h1 h2 ho ht (k H locs cells slots ls L hI hS hc hbs hL)
  | getfield idx =>
    obtain rfl : len = 3 := by simpa [gLen] using hlen
    obtain ⟨a, r, ci, k0, ty, fin, fs, v, rfl, hf, ha, hv, k⟩ := hs
    obtain ⟨C0, T, N, h1, h2, h3, h4, h5, h6⟩ := hf
    obtain ⟨i, hi⟩ := hI.get ha
    obtain ⟨f1, ⟨ty0, f2⟩, f3⟩ := gCl_facts ci C0 T N h1
    rcases h6 with h6 | ⟨host, h6⟩
    · exact va_get (Ts := gGood) hx hb hts (fun w hw => gGood_in (f1 w hw).1 (f1 w hw).2) hown hK hI.2.1 i hi h1 k0 h2 (gw _ h6 rfl) (fun _ h9 => by rw [h5] at h9; exact h9) hv hd (k H locs cells slots ls L hI hS hc hbs hL)
    · exact va_getN (Ts := gGood) hx hb hts (fun w hw => gGood_in (f1 w hw).1 (f1 w hw).2) hown hK hI.2.1 i hi h1 k0 h2 (va_Nw.use rfl (hE.1 _ h6 rfl)) (fun _ h9 => by rw [h5] at h9; exact h9) hv hd (k H locs cells slots ls L hI hS hc hbs hL)
  | putfield idx =>
    obtain rfl : len = 3 := by simpa [gLen] using hlen
    obtain ⟨v, a, r, ci, k0, ty, fin, fs, rfl, hf, hfin, ha, hl, hnw, hft, k⟩ := hs
    obtain ⟨C0, T, N, h1, h2, h3, h4, h5, h6⟩ := hf
    obtain ⟨i, hi⟩ := hI.get ha
    obtain ⟨f1, ⟨ty0, f2⟩, f3⟩ := gCl_facts ci C0 T N h1
    have kk : ∀ (H1 : Heap) (locs1 : List Loc), va_P D vwCl ((va_pl L (gF dT h)).set i (a, .inr (ci, fs.set k0 v))) H1 → va_D A ((va_pl L (gF dT h)).set i (a, .inr (ci, fs.set k0 v))) → va_S A s.heap H1 locs1 → W p l e R s m args below meth c H1 locs1 cells slots Q (F0 m (pc + 3) ls r) :=
      fun H1 locs1 hP hD hS1 => k H1 locs1 cells slots ls L (hI.set (o' := .inr (ci, fs.set k0 v)) ha hi hP hD) hS1 hc hbs hL
    have hq : ∀ w ∈ u_ws C0 T N, w ∈ gGood := fun w hw => gGood_in (f1 w hw).1 (f1 w hw).2
    cases fin with
    | false =>
      rcases h6 with h6 | ⟨host, h6⟩
      · exact va_put (Ts := gGood) hx hb hts hq ty0 f2 f3 hown hK hI.2.1 hI.2.2 hS i hi h1 k0 h2 (gw _ h6 rfl) (fun _ h9 => by rw [h5] at h9; exact h9) h4 h3 hnw hft hl hd kk
      · exact va_putN (Ts := gGood) hx hb hts hq ty0 f2 f3 hown hK hI.2.1 hI.2.2 hS i hi h1 k0 h2 (va_Nw.use rfl (hE.1 _ h6 rfl)) (fun _ h9 => by rw [h5] at h9; exact h9) h4 h3 hnw hft hl hd kk
    | true =>
      rcases hfin with hfin | ⟨hi1, T2, N2, hi2⟩
      · cases hfin
      · have he : C0 = y.1.cls := by rw [h1] at hi2; exact congrArg (fun q : vw_C => q.1) (Option.some.inj hi2)
        rcases h6 with h6 | ⟨host, h6⟩
        · exact va_putF (Ts := gGood) hx hb hts hq ty0 f2 f3 hown hK hI.2.1 hI.2.2 hS i hi h1 k0 h2 (gw _ h6 rfl) (fun _ h9 => by rw [h5] at h9; exact h9) h4 (hin hi1) (h5.trans he) h3 hnw hft hl hd kk
        · exact absurd (gNestF _ h6) (by rw [← he]; simp [gNestBad])
  | iaload =>
    obtain rfl : len = 1 := by simpa [gLen] using hlen
    obtain ⟨i, a, r, n, f, rfl, ha, hi, k⟩ := hs
    rcases ha with ha | ha
    · obtain ⟨q, hq⟩ := hI.get ha
      exact va_iald hx hb hK hI.2.1 q 0 hq rfl hi hd (k H locs cells slots ls L hI hS hc hbs hL)
    · obtain ⟨g1, g2, g3⟩ := hro a n f ha
      exact va_sld hx hb g1 g2 g3 hS hi hd (k H locs cells slots ls L hI hS hc hbs hL)
  | baload =>
    obtain rfl : len = 1 := by simpa [gLen] using hlen
    obtain ⟨i, a, r, n, f, rfl, ha, hi, k⟩ := hs
    obtain ⟨q, hq⟩ := hI.get ha
    exact va_zald hx hb hK hI.2.1 q 1 hq rfl hi hd (k H locs cells slots ls L hI hS hc hbs hL)
  | iastore =>
    obtain rfl : len = 1 := by simpa [gLen] using hlen
    obtain ⟨x, i, a, r, n, f, rfl, ha, hi, k⟩ := hs
    obtain ⟨q, hq⟩ := hI.get ha
    exact va_iast hx hb hK hI.2.1 hI.2.2 hS q 0 hq rfl hi hd (fun H1 locs1 hP hD hS1 => k H1 locs1 cells slots ls L (hI.set (o' := .inl (0, n, .inl (upd f i.toNatClampNeg x))) ha hq hP hD) hS1 hc hbs hL)
  | bastore =>
    obtain rfl : len = 1 := by simpa [gLen] using hlen
    obtain ⟨x, i, a, r, n, f, rfl, ha, hi, k⟩ := hs
    obtain ⟨q, hq⟩ := hI.get ha
    exact va_zast hx hb hK hI.2.1 hI.2.2 hS q 1 hq rfl hi hd (fun H1 locs1 hP hD hS1 => k H1 locs1 cells slots ls L (hI.set (o' := .inl (1, n, .inl (upd f i.toNatClampNeg (vp_nar .boolean x)))) ha hq hP hD) hS1 hc hbs hL)
  | arraylength =>
    obtain rfl : len = 1 := by simpa [gLen] using hlen
    obtain ⟨a, r, v, rfl, ha, k⟩ := hs
    rcases ha with ⟨t, x, ha, ht, hv⟩ | ⟨n, f, ha, hv⟩
    · obtain ⟨q, hq⟩ := hI.get ha
      have ht9 : ∃ ty : FieldType, (gTys dT)[t]? = some (dT t, ty) := by
        match t, ht with
        | 0, _ => exact ⟨_, rfl⟩
        | 1, _ => exact ⟨_, rfl⟩
        | 2, _ => exact ⟨_, rfl⟩
        | 3, _ => exact ⟨_, rfl⟩
        | 4, _ => exact ⟨_, rfl⟩
        | 5, _ => exact ⟨_, rfl⟩
      obtain ⟨ty, ht9⟩ := ht9
      exact va_alen hx hb hK hI.2.1 q t hq ht9 hv hd (k H locs cells slots ls L hI hS hc hbs hL)
    · obtain ⟨g1, g2, g3⟩ := hro a n f ha
      refine va_slen hx hb g1 g2 g3 hS hd ?_
      rw [hv]
      exact k H locs cells slots ls L hI hS hc hbs hL
  | newarray at_ =>
    obtain rfl : len = 2 := by simpa [gLen] using hlen
    obtain ⟨n, r, N, t, c0, rfl, hg, hn, hN, hN2, hc1, hs1, k⟩ := hs
    have go : ∀ (ty : FieldType), newarray.typeOf at_ = ty → Jvm.Cond.arrayClass (newarray.typeOf at_) ∈ lw_tbl → (∀ cA : ClassId, vp_cell cA (N, c0) = arrV cA N (fun _ => defaultValue ty)) → N * componentBytes ty ≤ 536870912 → (gTys dT)[t]? = some (dT t, ty) → (match ty with | .object _ => False | _ => True) → W p l e R s m args below meth c H locs cells slots Q (F0 m pc ls (.int n :: r)) := by
      intro ty hty hw hcell hbytes ht hno
      refine va_newa hx hb (gw _ hw rfl) hty hK hI.2.1 hI.2.2 hS hA hcell hn hN hbytes (by omega) (by omega) hd (fun q cA H1 hK1 hP hD hS1 => ?_)
      have hcA : cA = dT t := by
        have q1 := (hK1.2 (gTys dT).length (cA, ty) (by rw [List.getElem?_append_right (Nat.le_refl _)]; simp)).2
        have q2 := (hK.2 t (dT t, ty) ht).2
        cases ty with
        | object C => exact hno.elim
        | _ => exact Option.some.inj (q1.symm.trans q2)
      subst hcA
      obtain ⟨hn0, hI1⟩ := hI.new (o := .inl (t, N, c0)) hP hD
      exact k q hn0 H1 locs (cells + 1) (slots + N) ls (L ++ [q]) hI1 hS1 (by omega) (by omega) hL
    cases at_ with
    | int => cases hg; exact go .int rfl gArI (fun cA => by first | rfl | exact vp_cell_i .. | simp [vp_cell, defaultValue]) (by simp [componentBytes]; omega) rfl trivial
    | boolean => cases hg; exact go .boolean rfl gArZ (fun cA => by first | rfl | exact vp_cell_i .. | simp [vp_cell, defaultValue]) (by simp [componentBytes]; omega) rfl trivial
    | _ => cases hg
  | new idx =>
    obtain rfl : len = 3 := by simpa [gLen] using hlen
    rcases hs with ⟨ci, C0, T, N, fs, h1, h2, h3, h4, ⟨h5, h5b⟩, h6, h7, k⟩ | ⟨E, h1, h2, h3, h4, h5, h6⟩
    · obtain ⟨f1, ⟨ty0, f2⟩, f3⟩ := gCl_facts ci C0 T N h1
      refine va_new (Ts := gGood) (fs := fs) hx hb hts (fun w hw => gGood_in (f1 w hw).1 (f1 w hw).2) ty0 f2 hown (gw _ h2 rfl) (gw _ h3 rfl) (gw _ h4 rfl) hK hI.2.1 hI.2.2 hS hA h1 (fun j hj => ?_) (by omega) (by omega) hd (fun q H1 hP hD hS1 => ?_)
      · obtain ⟨ty, e1, e2⟩ := h5b j hj
        rw [f2 j hj] at e1
        rw [Option.some.inj e1]
        exact e2
      · obtain ⟨hn0, hI1⟩ := hI.new (o := .inr (ci, fs)) hP hD
        exact k q hn0 H1 locs (cells + 1) (slots + N) ls (L ++ [q]) hI1 hS1 (by omega) (by omega) hL
    · exact hnew E pc idx ls st h L H locs cells slots h1 hd h2 h5 h6 hI hS (by omega) (by omega) hL.1
  | invokespecial idx =>
    obtain rfl : len = 3 := by simpa [gLen] using hlen
    rcases hs with ⟨a, r, rfl, h1, h2, h3, k⟩ | ⟨z, n, as, a, r, mc, ms, hl, rfl, hn, hr, hmc, hms, hq⟩
    · refine W.objInit hx hb hown (gw _ h1 rfl) (gw _ gObjI rfl) (gw _ gObjC rfl) rfl (by rw [hml]; exact hL.1) rfl hd (by omega) ?_ ?_
      · have := hR.2
        have h3' : (r.map fun v => v.category).sum ≤ 8 := h3
        have hm0 : 2 * (F0 m pc ls (.ref a :: r)).monitorRoom + (r.map fun v => v.category).sum ≤ 8 := lv_room h3'
        omega
      · exact k H locs cells slots ls L hI hS hc hbs hL
    · exact gx_In C (hcall z _ h mc ms _ _ hl.1 hq) hl hI hS hn hr hL.1 ⟨by omega, by omega⟩ hd (kxx pc lv r mc ms hmc hms hL) (fun v h' L1 H1 locs1 hp hI1 hS1 => hp H1 locs1 _ _ ls L1 hI1 hS1 (by omega) (by omega) hL)
  | invokevirtual idx =>
    obtain rfl : len = 3 := by simpa [gLen] using hlen
    obtain ⟨z, n, ci, as, a, r, fs, mc, ms, hl, rfl, hn, ha, hr, hmc, hms, hq⟩ := hs
    exact gx_V C (hcall z _ h mc ms _ _ hl.1 hq) hl hI hS hn ha hr hL.1 ⟨by omega, by omega⟩ hd (kxx pc lv r mc ms hmc hms hL) (fun v h' L1 H1 locs1 hp hI1 hS1 => hp H1 locs1 _ _ ls L1 hI1 hS1 (by omega) (by omega) hL)
  | invokestatic idx =>
    obtain rfl : len = 3 := by simpa [gLen] using hlen
    rcases hs with ⟨z, n, as, r, mc, ms, hl, rfl, hn, hr, hmc, hms, hq⟩ | ⟨a, r, rfl, hw, hd1, hr, k⟩
    · exact gx_St C (hcall z _ h mc ms _ _ hl.1 hq) hl hI hS hn hr hL.1 ⟨by omega, by omega⟩ hd (kxx pc lv r mc ms hmc hms hL) (fun v h' L1 H1 locs1 hp hI1 hS1 => hp H1 locs1 _ _ ls L1 hI1 hS1 (by omega) (by omega) hL)
    · have hr' : (r.map fun v => v.category).sum ≤ 8 := hr
      exact va_mabs hx hb (by rw [hml]; exact hL.1.symm) hown (gw _ hw rfl) (gw _ gMi1 rfl) (gw _ gMi2 rfl) (gw _ gMi3 rfl) (by omega) (by omega) (by omega) (by omega) hd (k H locs cells slots ls L hI hS hc hbs hL)
  | anewarray idx =>
    obtain rfl : len = 3 := by simpa [gLen] using hlen
    obtain ⟨n, r, N, rfl, hw, hn, hN, hN2, hc1, hs1, k⟩ := hs
    refine va_newq hx hb hown (gw _ hw rfl) hE.2.2.2.2.2.2.2.2 hK hI.2.1 hI.2.2 hS hA hn hN (by omega) (by omega) (by omega) hd (fun q cA H1 hK1 hP hD hS1 => ?_)
    have hcA : cA = dT 5 := by
      obtain ⟨kA, comp, q1, q2, q3, q4⟩ := (hK1.2 (gTys dT).length (cA, .object "GhostCandlesLaw$Ghost") (by rw [List.getElem?_append_right (Nat.le_refl _)]; simp)).2
      obtain ⟨kB, comp2, r1, r2, r3, r4⟩ := (hK.2 5 (dT 5, .object "GhostCandlesLaw$Ghost") rfl).2
      exact Option.some.inj (q4.symm.trans r4)
    subst hcA
    obtain ⟨hn0, hI1⟩ := hI.new (o := .inl (5, N, .inr (.inr (.inr (.inr (fun _ => none)))))) hP hD
    exact k q hn0 H1 locs (cells + 1) (slots + N) ls (L ++ [q]) hI1 hS1 (by omega) (by omega) hL
  | multianewarray idx dims =>
    obtain rfl : len = 4 := by simpa [gLen] using hlen
    have fresh : ∀ q : Nat, H.size ≤ q → h q = none := fun q hq => by
      cases e : h q with
      | none => rfl
      | some o => exact absurd (hI.dom (by rw [e]; rfl)).2 (Nat.not_lt.mpr hq)
    have spec : ∀ (ty : FieldType), gAO1 ty s → ∀ (t ti : Nat), (∃ cA, s.vm.findClass ("[" ++ (FieldType.array ty).toString) = some cA ∧ dT t = cA) → (∃ cA, s.vm.findClass (FieldType.array ty).toString = some cA ∧ dT ti = cA) → ∃ k : Class, s.vm.classes[dT t]? = some k ∧ k.kind = .array (dT ti) (.array ty) := by
      intro ty hO t ti ⟨c1, e1, g1⟩ ⟨c2, e2, g2⟩
      obtain ⟨comp, c9, kA, j1, -, j2, j3, j4⟩ := arrayOverA_spec hO
      subst g1; subst g2
      cases j4.symm.trans e1
      cases j1.symm.trans e2
      exact ⟨kA, j2, j3⟩
    have leaf : ∀ (ty : FieldType), Jvm.Cond.arrayClass ty ∈ lw_tbl → ∀ ti : Nat, s.vm.findClass ("[" ++ ty.toString) = some (dT ti) → ∃ (k : Class) (comp : ClassId), s.vm.classes[dT ti]? = some k ∧ k.kind = .array comp ty := by
      intro ty hw ti e
      obtain ⟨cA, kA, comp, j1, j2, j3⟩ := Cond.arrayClass_spec (gw _ hw rfl)
      cases j1.symm.trans e
      exact ⟨kA, comp, j2, j3⟩
    have mv : ∀ {vm₁ : Vm} {c9 : ClassId} {k9 : Class} {kd : Jvm.Kind}, s.vm.Alike vm₁ → s.vm.classes[c9]? = some k9 → k9.kind = kd → ∃ k8 : Class, vm₁.classes[c9]? = some k8 ∧ k8.kind = kd := by
      intro vm₁ c9 k9 kd hal e1 e2
      obtain ⟨k8, e3, e4⟩ := hal.2.2 _ _ e1
      exact ⟨k8, e3, by rw [e4]; exact e2⟩
    have hAsz : ∀ q : Nat, H.size ≤ q → A q := fun q hq => hA q (Nat.le_trans hS.1 hq)
    have hSx : ∀ (B : State → State) (nc ns : Nat) (u : State) (L9 : List Loc), mFx B nc ns → u.heap = H → (∀ x ∈ L9, H.size ≤ x.base) → va_S A s.heap (B u).heap (locs ++ L9) := by
      intro B nc ns u L9 hF hu hL9
      obtain ⟨b1, b2, b3, b4, b5⟩ := hF u
      rw [hu] at b2 b4
      refine ⟨by rw [b2]; exact Nat.le_trans hS.1 (by omega), fun x h1 h2 => (b4 x (Nat.lt_of_lt_of_le h1 hS.1)).trans (hS.2.1 x h1 h2), fun x hx9 => ?_⟩
      rcases List.mem_append.mp hx9 with hx9 | hx9
      · exact hS.2.2 x hx9
      · exact hAsz _ (hL9 x hx9)
    rcases hs with ⟨rfl, nm, t, ti, n, k0, r, N, M, rfl, hnm, hw, hn, hN, hk0, hM, hN2, hM2, hc1, hs1, k⟩ | ⟨rfl, n, k0, l0, r, N, M, P, rfl, hw, hn, hN, hk0, hM, hl0, hP0, hN2, hM2, hP2, hc1, hs1, k⟩
    · subst hN; subst hM
      have go : ∀ (ty : FieldType), "[" ++ (FieldType.array ty).toString = nm → gAO1 ty s → Jvm.Cond.arrayClass ty ∈ lw_tbl → s.vm.findClass ("[" ++ (FieldType.array ty).toString) = some (dT t) → s.vm.findClass ("[" ++ ty.toString) = some (dT ti) → (FieldType.array ty).toString = "[" ++ ty.toString → componentBytes ty ≤ 4 → fits ty (defaultValue ty) = true → (∀ c9 : ClassId, vp_cell c9 (k0.toNatClampNeg, .inl (fun _ => 0)) = arrV c9 k0.toNatClampNeg (fun _ => defaultValue ty)) → W p l e R s m args below meth c H locs cells slots Q (F0 m pc ls (.int k0 :: .int n :: r)) := by
        intro ty hty hO hw2 hft hfi hts9 hcb hdf hcell
        have hF := mB1_fx (dT ti) k0.toNatClampNeg (fun _ => defaultValue ty)
        have hF2 := mBO_fxN hF (dT t) n.toNatClampNeg
        have hSt := mSt_O hF (mSt_1 (dT ti) k0.toNatClampNeg (fun _ => defaultValue ty)) (dT t) n.toNatClampNeg
        refine gx_mna2 hx hb hown (gw _ hw rfl) (by rw [← hty]; exact hft) hd (fun had vm₁ hal => ?_) hF2 hSt (by omega) (by omega) (fun u L9 hu hL9 => ?_)
        · obtain ⟨k1, q1, q2⟩ := spec ty hO t ti ⟨_, hft, rfl⟩ ⟨_, by rw [hts9]; exact hfi, rfl⟩
          obtain ⟨k2, comp, q3, q4⟩ := leaf ty hw2 ti hfi
          obtain ⟨k3, q5, q6⟩ := mv hal q1 q2
          obtain ⟨k4, q7, q8⟩ := mv hal q3 q4
          have hb2 : k0.toNatClampNeg * componentBytes ty ≤ 1000 * 4 := Nat.mul_le_mul hM2 hcb
          have hb3 : n.toNatClampNeg * componentBytes (.array ty) ≤ 1000 * 4 := Nat.mul_le_mul hN2 (Nat.le_refl 4)
          exact mWp_O hF (mWp_1 q7 q8 hk0 (by rw [Launch.admits_arrayLengthLimit had]; omega) (by rw [Launch.admits_maxHeapBytes had]; omega) hdf) q5 q6 rfl hn (by simp [hk0]) (by rw [Launch.admits_arrayLengthLimit had]; omega) (by rw [Launch.admits_maxHeapBytes had]; omega)
        · have hG : mGI D dT (fun u => u.pushCell (arrV (dT ti) k0.toNatClampNeg (fun _ => defaultValue ty))) (fun h q => gU h q (.inl (ti, k0.toNatClampNeg, .inl (fun _ => 0)))) := by
            have := mGI_1 (D := D) (dT := dT) ti k0.toNatClampNeg
            rw [hcell] at this
            exact this
          obtain ⟨L', hI1⟩ := mGI_O hF hG (fun h a q hq => gU_ne (Nat.ne_of_lt hq)) t n.toNatClampNeg A L h u (by rw [hu]; exact hI) (by rw [hu]; exact hAsz)
          simp only [gGO_2, hu] at hI1
          have e9 : n.toNatClampNeg * 1 = n.toNatClampNeg := Nat.mul_one _
          exact k H.size (fun j _ => fresh _ (by omega)) _ _ _ _ ls L' hI1 (hSx _ _ _ u L9 hF2 hu hL9) (by omega) (by omega) hL
      unfold gMN2 at hnm
      split at hnm
      · cases hnm
        exact go .int rfl hE.2.2.2.2.2.1 gArI (hK.2 2 (dT 2, .array .int) rfl).2 (hK.2 0 (dT 0, .int) rfl).2 rfl (by decide) rfl (fun c9 => rfl)
      · cases hnm
        exact go .boolean rfl hE.2.2.2.2.2.2.1 gArZ (hK.2 3 (dT 3, .array .boolean) rfl).2 (hK.2 1 (dT 1, .boolean) rfl).2 rfl (by decide) rfl (fun c9 => rfl)
      · cases hnm
    · subst hN; subst hM; subst hP0
      have hF := mB1_fx (dT 1) l0.toNatClampNeg (fun _ => defaultValue .boolean)
      have hF2 := mBO_fxN hF (dT 3) k0.toNatClampNeg
      have hF3 := mBO_fxN hF2 (dT 4) n.toNatClampNeg
      have hSt2 := mSt_O hF (mSt_1 (dT 1) l0.toNatClampNeg (fun _ => defaultValue .boolean)) (dT 3) k0.toNatClampNeg
      have hSt := mSt_O hF2 hSt2 (dT 4) n.toNatClampNeg
      have e1 : 1 + k0.toNatClampNeg * 1 = k0.toNatClampNeg + 1 := by omega
      have hft4 := (hK.2 4 (dT 4, .array (.array .boolean)) rfl).2
      have hft3 := (hK.2 3 (dT 3, .array .boolean) rfl).2
      have hft1 := (hK.2 1 (dT 1, .boolean) rfl).2
      refine gx_mna3 hx hb hown (gw _ hw rfl) (cA := dT 4) hft4 hd (fun had vm₁ hal => ?_) hF3 hSt (by rw [e1]; omega) (by omega) (fun u L9 hu hL9 => ?_)
      · obtain ⟨k1, q1, q2⟩ := spec .boolean hE.2.2.2.2.2.2.1 3 1 ⟨_, hft3, rfl⟩ ⟨_, hft1, rfl⟩
        obtain ⟨k5, q9, q10⟩ := spec (.array .boolean) hE.2.2.2.2.2.2.2.1 4 3 ⟨_, hft4, rfl⟩ ⟨_, hft3, rfl⟩
        obtain ⟨k2, comp, q3, q4⟩ := leaf .boolean gArZ 1 hft1
        obtain ⟨k3, q5, q6⟩ := mv hal q1 q2
        obtain ⟨k4, q7, q8⟩ := mv hal q3 q4
        obtain ⟨k6, q11, q12⟩ := mv hal q9 q10
        have c1 : l0.toNatClampNeg * componentBytes .boolean ≤ 100 * 1 := Nat.mul_le_mul hP2 (Nat.le_refl _)
        have c2 : k0.toNatClampNeg * componentBytes (.array .boolean) ≤ 100 * 4 := Nat.mul_le_mul hM2 (Nat.le_refl _)
        have c3 : n.toNatClampNeg * componentBytes (.array (.array .boolean)) ≤ 100 * 4 := Nat.mul_le_mul hN2 (Nat.le_refl _)
        have w1 := mWp_1 (e := e) q7 q8 hl0 (by rw [Launch.admits_arrayLengthLimit had]; omega) (by rw [Launch.admits_maxHeapBytes had]; omega) rfl
        have w2 := mWp_O hF w1 q5 q6 rfl hk0 (by simp [hl0]) (by rw [Launch.admits_arrayLengthLimit had]; omega) (by rw [Launch.admits_maxHeapBytes had]; omega)
        exact mWp_O hF2 w2 q11 q12 rfl hn (by simp [hl0, hk0]) (by rw [Launch.admits_arrayLengthLimit had]; omega) (by rw [Launch.admits_maxHeapBytes had]; omega)
      · have hG : mGI D dT (fun u => u.pushCell (arrV (dT 1) l0.toNatClampNeg (fun _ => defaultValue .boolean))) (fun h q => gU h q (.inl (1, l0.toNatClampNeg, .inl (fun _ => 0)))) := mGI_1 (D := D) (dT := dT) 1 l0.toNatClampNeg
        have hG2 := mGI_O hF hG (fun h a q hq => gU_ne (Nat.ne_of_lt hq)) 3 k0.toNatClampNeg
        simp only [gGO_2] at hG2
        obtain ⟨L', hI1⟩ := mGI_O hF2 hG2 (fun h a q hq => by
          unfold gG2
          rw [if_neg (by omega), if_neg (by omega)]) 4 n.toNatClampNeg A L h u (by rw [hu]; exact hI) (by rw [hu]; exact hAsz)
        simp only [e1, gGO_3, hu] at hI1
        have hS9 := hSx _ _ _ u L9 hF3 hu hL9
        simp only [e1] at hS9 ⊢
        exact k H.size (fun j _ => fresh _ (by omega)) _ _ _ _ ls L' hI1 hS9 (by omega) (by omega) hL
  | aastore =>
    obtain rfl : len = 1 := by simpa [gLen] using hlen
    obtain ⟨v, i, a, r, n, f, fs, rfl, ha, hv, hi, k⟩ := hs
    obtain ⟨q0, hq0⟩ := hI.get ha
    obtain ⟨q1, hq1⟩ := hI.get hv
    exact va_astq hx hb hK hI.2.1 hI.2.2 hS q0 5 q1 5 hq0 rfl hq1 rfl hi hd (fun H1 locs1 hP hD hS1 => k H1 locs1 cells slots ls L (hI.set (o' := .inl (5, n, .inr (.inr (.inr (.inr (va_up f i.toNatClampNeg (some v))))))) ha hq0 hP hD) hS1 hc hbs hL)
  | aaload =>
    obtain rfl : len = 1 := by simpa [gLen] using hlen
    obtain ⟨i, a, r, t, n, f, v, rfl, ha, ht2, ht6, hi, hv, k⟩ := hs
    obtain ⟨q0, hq0⟩ := hI.get ha
    have hlt : i.toNatClampNeg < n := Nat.not_le.mp fun q => hi (Or.inr q)
    have go : ∀ ty : FieldType, (gTys dT)[t]? = some (dT t, ty) → ty.isReference = true → W p l e R s m args below meth c H locs cells slots Q (F0 m pc ls (.int i :: .ref a :: r)) := fun ty hty hrf =>
      W.aald (v := .ref v) (ty := ty) hx hb (hI.2.1 q0 _ hq0) ((hK.2 t (dT t, ty) hty).1 n (fun j => va_rf (f j))) hrf (fun q => by cases q) (by show ¬ (i < 0 ∨ (arrV _ _ _).slots.size ≤ _); rw [arrV_size]; exact hi) (by show (arrV _ _ _).slots[_]? = _; rw [arrV_read _ _ hlt, hv]; rfl) rfl rfl hd (k H locs cells slots ls L hI hS hc hbs hL)
    match t, ht2, ht6 with
    | 2, _, _ => exact go _ rfl rfl
    | 3, _, _ => exact go _ rfl rfl
    | 4, _, _ => exact go _ rfl rfl
    | 5, _, _ => exact go _ rfl rfl
  | ishr =>
    obtain rfl : len = 1 := by simpa [gLen] using hlen
    obtain ⟨b, a, r, rfl, k⟩ := hs
    exact lv_ishr hx hb hd (k H locs cells slots ls L hI hS hc hbs hL)
  | ldc n =>
    obtain rfl : len = 2 := by simpa [gLen] using hlen
    obtain ⟨v, hw, k⟩ := hs
    exact lv_ldc hx hb hown (gw _ hw rfl) hd (k H locs cells slots ls L hI hS hc hbs hL)
  | ifnonnull off =>
    obtain rfl : len = 3 := by simpa [gLen] using hlen
    obtain ⟨a, r, t, rfl, ht, k⟩ := hs
    exact lv_ifnonnull hx hb hd ht (k H locs cells slots ls L hI hS hc hbs hL)
  | areturn =>
    obtain rfl : len = 1 := by simpa [gLen] using hlen
    obtain ⟨a, ty, rfl, h1, h2, h3⟩ := hs
    exact W.widen (by omega) (by omega) (hret .areturn (some (.ref a)) pc ls h L H locs (Or.inr (Or.inr (Or.inr (Or.inr ⟨rfl, a, ty, rfl, h1, h2⟩)))) hd h3 hI hS)
  | ireturn =>
    obtain rfl : len = 1 := by simpa [gLen] using hlen
    obtain ⟨x, ty, rfl, h1, h2, h3⟩ := hs
    exact W.widen (by omega) (by omega) (hret .ireturn (some (.int x)) pc ls h L H locs (Or.inl ⟨rfl, x, ty, rfl, h1, h2⟩) hd h3 hI hS)
  | lreturn =>
    obtain rfl : len = 1 := by simpa [gLen] using hlen
    obtain ⟨x, rfl, h1, h3⟩ := hs
    exact W.widen (by omega) (by omega) (hret .lreturn (some (.long x)) pc ls h L H locs (Or.inr (Or.inl ⟨rfl, x, rfl, h1⟩)) hd h3 hI hS)
  | dreturn =>
    obtain rfl : len = 1 := by simpa [gLen] using hlen
    obtain ⟨x, rfl, h1, h3⟩ := hs
    exact W.widen (by omega) (by omega) (hret .dreturn (some (.double x)) pc ls h L H locs (Or.inr (Or.inr (Or.inl ⟨rfl, x, rfl, h1⟩))) hd h3 hI hS)
  | return_ =>
    obtain rfl : len = 1 := by simpa [gLen] using hlen
    obtain ⟨rfl, h1, h3⟩ := hs
    exact W.widen (by omega) (by omega) (hret .return_ none pc ls h L H locs (Or.inr (Or.inr (Or.inr (Or.inl ⟨rfl, rfl, h1⟩)))) hd h3 hI hS)
  | _ => exact hs.elim
end GXS
end
section
/-! what is safe is met by the machine -/
theorem gSl_len (vs : List Value) : (gSl vs).length = (lg_sl vs).length := by
  induction vs with
  | nil => rfl
  | cons v vs ih => cases v <;> simp [gSl, lg_sl, Value.category] at ih ⊢ <;> exact ih
theorem gNames_fit : ∀ n ∈ gNames, Bundle.fit n = true := by decide +kernel
section GXM
variable {p : Program} {l : Launch} {e : Env} {R : Room} {s : State} {m : MethodId} {args : Array Value} {below : List Frame} {meth : Method} {c : Code} {A : Nat → Prop} {D : va_G} {dT : Nat → ClassId} {y : gM} {d : Nat} {Post : Option Value → gH → Prop} {X : String → gH → Prop}
theorem gx_hret {free : Addr → Prop} (hx : p.tables.exec = Jvm.exec) (hb : c.code = y.2.1) (hr : meth.sig.returnType = y.2.2.2.1) (hlocks : meth.locks = false) (hfree : ∀ q, A q → free q) {mc ms : Nat} :
    ∀ (i : Instr) (v : Option Value) (pc : Nat) (ls : Array Slot) (h : gH) (L : List Nat) (H : Heap) (locs : List Loc), gRet y i v → decode y.2.1 pc = .ok (i, 1) → Post v h → gI D dT A L h H → va_S A s.heap H locs → W p l e R s m args below meth c H locs mc ms (vx_MQ below (gQc D dT A Post) (gXC D dT A X) args s mc ms free) (F0 m pc ls v.toList) := by
  intro i v pc ls h L H locs hg hd hp hI hS
  refine vx_ret ?_
  have hq : ∀ t : State, t.heap = H → s.WarmedH t.vm → gQc D dT A Post args s (.returned v) t := fun t ht _ => ⟨v, h, L, rfl, hp, by rw [ht]; exact hI, hS.F ht⟩
  have hf : ∀ q ∈ locs, free q.base := fun q hm => hfree _ (hS.2.2 q hm)
  rcases hg with ⟨rfl, x, ty, rfl, h1, h2⟩ | ⟨rfl, x, rfl, h1⟩ | ⟨rfl, x, rfl, h1⟩ | ⟨rfl, rfl, h1⟩ | ⟨rfl, a, ty, rfl, h1, h2⟩
  · exact W.zret hx hb (hr.trans h1) h2 hq hf hd hlocks
  · exact W.lret hx hb (hr.trans h1) hq hf hd hlocks
  · exact W.dret hx hb (hr.trans h1) hq hf hd hlocks
  · exact W.vret hx hb (hr.trans h1) hq hf hd hlocks
  · exact W.aret hx hb (hr.trans h1) h2 (Or.inr ⟨_, rfl⟩) hq hf hd hlocks
theorem gx_hthrow {free : Addr → Prop} (C : gCtx p l R s m args meth c y d D dT A) (htab : c.exceptionTable.toList = []) (hlocks : meth.locks = false) (hfree : ∀ q, A q → free q) {mc ms : Nat} :
    ∀ (E : String) (ce : Cell) (q9 : Addr) (pc : Nat) (ls : Array Slot) (rest : List Value) (h : gH) (L : List Nat) (H : Heap) (locs : List Loc), E ∈ gExc → X E h → gI D dT A L h H → va_S A s.heap H locs → H[q9]? = some ce → ce.vm = .none → s.vm.findClass E = some ce.cls → vx_W p l e R s m args below meth c H locs mc ms (vx_MQ below (gQc D dT A Post) (gXC D dT A X) args s mc ms free) (F0 m pc ls rest) q9 := by
  intro E ce q9 pc ls rest h L H locs hEx hX hI hS hce hcv hcl
  obtain ⟨hx, hb, hml, hown, hts, hK, hA, hE, hR, hin⟩ := id C
  refine vx_outP (own := y.1.cls) hown hlocks ?_ hce hcv hcl (fun t ht _ => ⟨h, L, hEx, hX, by rw [ht]; exact hI, hS.F ht⟩) (fun q hm => hfree _ (hS.2.2 q hm)) (Nat.le_refl _) (Nat.le_refl _)
  intro z hz
  rw [htab] at hz
  cases hz
theorem gx_hnew {free : Addr → Prop} (hl : l.stackTraces = false) (C : gCtx p l R s m args meth c y d D dT A) (htab : c.exceptionTable.toList = []) (hlocks : meth.locks = false) (hfree : ∀ q, A q → free q) :
    ∀ (E : String) (pc ik : Nat) (ls : Array Slot) (st : List Value) (h : gH) (L : List Nat) (H : Heap) (locs : List Loc) (cells slots : Nat), gTN y pc ik E → decode y.2.1 pc = .ok (.new ik, 3) → 6 ≤ d → gCat st ≤ 100 → X E h → gI D dT A L h H → va_S A s.heap H locs → cells + 1 ≤ R.cells → slots + 6 ≤ R.slots → ls.size = y.2.2.1 → W p l e R s m args below meth c H locs cells slots (vx_MQ below (gQc D dT A Post) (gXC D dT A X) args s R.cells R.slots free) (F0 m pc ls st) := by
  intro E pc ik ls st h L H locs cells slots hT hd0 h6 hcat hX hI hS hc hs hls
  obtain ⟨hx, hb, hml, hown, hts, hK, hA, hE, hR, hin⟩ := id C
  obtain ⟨is, ic, text, t1, t2, t3, t4, t5, t6, t7, t8, t9, t10, t11⟩ := hT
  obtain ⟨sa, hsa⟩ := hE.2.2.2.1 y.1.cls is text t9
  have hcat' : (st.map fun v => v.category).sum ≤ 100 := hcat
  refine vx_throwS (own := y.1.cls) (cls := E) (text := text) (names := gNames) (ik := ik) (is := is) (ic := ic) (sa := sa) (A := A) hx hb hl hown t11 gNames_fit (hts _ (gGood_in t7 rfl)) (hts _ (gGood_in t8 rfl)) hsa ?_ ?_ hE.2.1 hE.2.2.1 hS (by rw [hls, hml]) hd0 t3 t4 t5 t6 ?_ ?_ ?_ hc hs hlocks ?_ (fun z hz => hfree _ (hS.2.2 z hz)) hc hs
  · intro w hw
    obtain ⟨w1, w2, w3⟩ := t10 w hw
    rcases w2 with w2 | w2
    · exact hts _ (gGood_in w1 w2)
    · exact va_Nw.use (gNw_on w2) (hE.1 w w1 w2)
  · intro w hw
    rcases List.mem_cons.mp hw with rfl | hw
    · rfl
    · rcases List.mem_cons.mp hw with rfl | hw
      · rfl
      · exact (t10 w hw).2.2
  · intro x hx9
    rw [htab] at hx9
    cases hx9
  · show 2 + 3 < R.frames
    omega
  · show (st.map fun v => v.category).sum + (13 * (2 + 1) + 43) ≤ R.locals
    omega
  · intro t hvm hz hq
    exact ⟨h, L, t1, hX, hI.kept hq, Nat.le_trans hS.1 hz, fun q h1 h2 => (hq q (Nat.lt_of_lt_of_le h1 hS.1)).trans (hS.2.1 q h1 h2)⟩
end GXM
theorem gx_met (l : Launch) (hl : l.stackTraces = false) : ∀ (d : Nat) (z : gM) (as : List Value) (h : gH) (mc ms : Nat) (Post : Option Value → gH → Prop) (X : String → gH → Prop), gOK z → gSafe d z as h mc ms Post X → gMet l d z as h mc ms Post X := by
  intro d
  induction d with
  | zero => intro z as h mc ms Post X _ hs; exact hs.elim
  | succ d ih =>
    intro z as h mc ms Post X hz hs D dT sz
    obtain ⟨hlen, hs⟩ := hs
    have hlen : (lg_sl as).length ≤ z.2.2.1 := by rw [← gSl_len]; exact hlen
    refine vx_ofW hz.1 (gWs_ok hz) (fun p e s m args below meth c s₁ B hml ht hv => ?_)
    have htab : c.exceptionTable.toList = [] := List.eq_nil_iff_forall_not_mem.mpr fun x hx => ht x hx
    obtain ⟨rfl, hsz, ⟨L, hI⟩, hK, hE⟩ := hv
    have hpre := atoms_spec (ws := gWs z) B.pre
    have hts : ∀ w ∈ gGood, w.before as.toArray s = true := fun w hw => hpre w (List.mem_cons_of_mem _ hw)
    have hown : s.vm.findClass z.1.cls = some m.cls := findClass_of_methodNamed B.named
    have hnm : meth.name = z.1.name := (name_of_methodNamed B.named B.method).1
    have hI2 : gI D dT (gAd h sz) L h s.heap := ⟨hI.1, hI.2.1, hI.2.2.1, fun k q hk => by
      left
      have : q.1 ∈ L := by
        unfold va_pl at hk
        rw [List.getElem?_map] at hk
        cases hx : L[k]? with
        | none => rw [hx] at hk; cases hk
        | some x => rw [hx] at hk; cases hk; exact List.mem_of_getElem? hx
      exact (hI.1 q.1).mp this⟩
    have C : gCtx p l (gRm (d + 1) mc ms) s m as.toArray meth c z (d + 1) D dT (gAd h sz) := ⟨B.exec, B.bytes, hml, hown, hts, hK, fun q hq => Or.inr (by rw [← hsz]; exact hq), hE, ⟨Nat.le_refl _, Nat.le_refl _⟩, fun h1 => hnm.trans h1⟩
    rw [lg_entry_eq]
    have key := gx_step (e := e) (below := below) (Q := vx_MQ below (gQc D dT (gAd h sz) Post) (gXC D dT (gAd h sz) X) as.toArray s mc ms (gAd h sz)) (Post := Post) (X := X) (ro := fun _ => none) C ih (fun a n f hh => by cases hh) (gx_hret B.exec B.bytes B.returns B.notSynchronized (fun q hq => hq)) (gx_hthrow C htab B.notSynchronized (fun q hq => hq)) (gx_hnew hl C htab B.notSynchronized (fun q hq => hq))
    exact hs _ key s.heap [] 0 0 _ L hI2 va_S.rf (by show 0 + mc ≤ mc; omega) (by show 0 + ms ≤ ms; omega) (gEntry_has hlen)
end
