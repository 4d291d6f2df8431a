/-! the machine's judgement, with the heap of known objects -/
def gAO1 (ty : FieldType) (U : State) : Prop := (Jvm.Cond.arrayOver (.array ty)).before #[] U = true
theorem gAO1.moved {ty : FieldType} {u U : State} (hvm : u.vm.Alike U.vm) (h : gAO1 ty u) : gAO1 ty U := by
  obtain ⟨comp, c, k, h1, h2, h3, h4, h5⟩ := arrayOverA_spec h
  obtain ⟨k', hk', he⟩ := hvm.2.2 _ _ h3
  have hi : (U.vm.classes.findIdx? fun (x : Class) => match x.kind with | .array component _ => component == comp | _ => false) = some c := by
    rw [hvm.findIdx?_eq _ (fun _ => rfl)]
    exact h2
  have hkind : k'.kind = .array comp (.array ty) := by rw [he]; exact h4
  have f1 : U.vm.findClass (FieldType.array ty).toString = some comp := by rw [hvm.findClass]; exact h1
  have f2 : U.vm.findClass ("[" ++ (FieldType.array ty).toString) = some c := by rw [hvm.findClass]; exact h5
  unfold gAO1 Cond.before Cond.holds
  simp only [Cond.value]
  rw [f1, Option.bind_some]
  refine (congrArg (fun o : Option Nat => (o.bind (fun c => (U.vm.classes[c]?).map fun (k : Class) => match k.kind with | .array _ t9 => decide (t9 = FieldType.array ty) && decide (U.vm.findClass ("[" ++ (FieldType.array ty).toString) = some c) | _ => false) == some true)) hi).trans ?_
  simp [hk', hkind, f2]
def gAO (U : State) : Prop := gAO1 .int U ∧ gAO1 .boolean U ∧ gAO1 (.array .boolean) U ∧ va_AO "GhostCandlesLaw$Ghost" U
theorem gAO.moved {u U : State} (hvm : u.vm.Alike U.vm) (h : gAO u) : gAO U := ⟨h.1.moved hvm, h.2.1.moved hvm, h.2.2.1.moved hvm, h.2.2.2.moved hvm⟩
def gEnv (A : Nat → Prop) (U : State) : Prop := (∀ w ∈ lw_tbl, gNwK w = true → va_Nw w U) ∧ vx_Zq Bundle.tN "UNASSIGNED_STACK" Bundle.steD A U U.heap ∧ vx_Zq Bundle.tN "SUPPRESSED_SENTINEL" Bundle.listD A U U.heap ∧ (∀ (own : String) (k : Nat) (tx : String), Jvm.Cond.stringRef own k tx ∈ lw_tbl → ∃ a : Nat, vk_R own k tx a U) ∧ (∀ E ∈ gExc, ∀ F ∈ gExc, E ≠ F → True) ∧ gAO U
def gAd (h : gH) (sz : Nat) : Nat → Prop := fun q => gKn h q = true ∨ sz ≤ q
def gRm (d mc ms : Nat) : Room := { frames := d, cells := mc, slots := ms, locals := 39 * d }
def gGood : List Jvm.Cond := lw_tbl.filter goodWord
def gWs (z : gM) : List Jvm.Cond := Jvm.Cond.code z.1 z.2.1 z.2.2.1 z.2.2.2.1 :: gGood
/-- what the read-only arrays are -/
def gROk (RO : Nat → vp_A → Prop) (A : Nat → Prop) (U : State) : Prop := ∀ (a : Nat) (x : vp_A), RO a x → (∃ (n : Nat) (f : Nat → Int32), x = (n, .inl f) ∧ va_X a n f U U.heap) ∧ a < U.heap.size ∧ ¬ A a
def gPc (D : va_G) (dT : Nat → ClassId) (as : List Value) (h : gH) (sz : Nat) : Array Value → State → Prop := va_Pc as (fun U => U.heap.size = sz ∧ (∃ L : List Nat, gI D dT (gAd h sz) (gRO h) L h U.heap) ∧ va_K D vwCl (gTys dT) U ∧ gEnv (gAd h sz) U ∧ gROk (gRO h) (gAd h sz) U)
def gQc (D : va_G) (dT : Nat → ClassId) (A : Nat → Prop) (RO : Nat → vp_A → Prop) (Post : Option Value → gH → Prop) : Array Value → State → Outcome → State → Prop := fun _ st oc t => ∃ (v : Option Value) (h' : gH) (L : List Nat), oc = .returned v ∧ Post v h' ∧ gI D dT A RO L h' t.heap ∧ va_F A st t
def gXC (D : va_G) (dT : Nat → ClassId) (A : Nat → Prop) (RO : Nat → vp_A → Prop) (X : String → gH → Prop) : String → State → State → Prop := fun E st t => ∃ (h' : gH) (L : List Nat), E ∈ gExc ∧ X E h' ∧ gI D dT A RO L h' t.heap ∧ va_F A st t
def gMet (l : Launch) (d : Nat) (z : gM) (as : List Value) (h : gH) (mc ms : Nat) (Post : Option Value → gH → Prop) (X : String → gH → Prop) : Prop := ∀ (D : va_G) (dT : Nat → ClassId) (sz : Nat), vx_Met l z.1 (gWs z) (gRm d mc ms) (gPc D dT as h sz) (gQc D dT (gAd h sz) (gRO h) Post) (gXC D dT (gAd h sz) (gRO h) X) mc ms (gAd h sz)
def gKX (p : Program) (l : Launch) (e : Env) (R : Room) (s : State) (m : MethodId) (args : Array Value) (below : List Frame) (meth : Method) (c : Code) (D : va_G) (dT : Nat → ClassId) (A : Nat → Prop) (RO : Nat → vp_A → Prop) (nL : Nat) (Q : State → Prop) : gK := fun pc lv st h bc bs =>
  ∀ (H : Heap) (locs : List Loc) (cells slots : Nat) (ls : Array Slot) (L : List Nat), gI D dT A RO L h H → va_S A s.heap H locs → cells + bc ≤ R.cells → slots + bs ≤ R.slots → gLH ls nL lv → W p l e R s m args below meth c H locs cells slots Q (F0 m pc ls st)
def gCtx (p : Program) (l : Launch) (R : Room) (s : State) (m : MethodId) (args : Array Value) (meth : Method) (c : Code) (y : gM) (d : Nat) (D : va_G) (dT : Nat → ClassId) (A : Nat → Prop) (RO : Nat → vp_A → Prop) : Prop :=
  p.tables.exec = Jvm.exec ∧ c.code = y.2.1 ∧ c.maxLocals = y.2.2.1 ∧ s.vm.findClass y.1.cls = some m.cls ∧ (∀ w ∈ gGood, w.before args s = true) ∧ va_K D vwCl (gTys dT) s ∧ (∀ q, s.heap.size ≤ q → A q) ∧ gEnv A s ∧ (d ≤ R.frames ∧ 39 * d ≤ R.locals) ∧ (y.1.name = "<init>" → meth.name = "<init>") ∧ gROk RO A s
theorem gGood_in {w : Jvm.Cond} (h : w ∈ lw_tbl) (hg : goodWord w = true) : w ∈ gGood := List.mem_filter.mpr ⟨h, hg⟩
theorem gGood_all : ∀ w ∈ gGood, goodWord w = true := fun w h => (List.mem_filter.mp h).2
theorem gGood_goodIn : GoodIn gGood gGood := fun w h => ⟨h, good_of_word (gGood_all w h)⟩
theorem gNw_warm {w : Jvm.Cond} {s U : State} (hw : gNwK w = true) (hW : s.WarmedH U.vm) (h : va_Nw w s) : va_Nw w U := by
  cases w with
  | fieldLinkNest a i b n d h2 => exact va_Nw.warmF hW h
  | methodLinkNest a i x h2 => exact va_Nw.warmM hW h
  | castable C T => exact va_Nw.warmC hW h
  | declares x => exact va_Nw.warmD hW h
  | _ => cases hw
theorem gNw_on {w : Jvm.Cond} (hw : gNwK w = true) : w.onTables = true := by
  cases w <;> first | rfl | cases hw
theorem va_Nc_moved {C T : String} {u U : State} (hvm : u.vm.Alike U.vm) (h : va_Nc C T u) : va_Nc C T U := by
  first
    | exact va_Nc.moved hvm h
    | (obtain ⟨c, t, h1, h2, h3⟩ := h
       exact ⟨c, t, by rw [hvm.findClass]; exact h1, by rw [hvm.findClass]; exact h2, by first | (rw [hvm.assignable]; exact h3) | (rw [← hvm.assignable]; exact h3)⟩)
/-- what is carried along, from a place in the caller to its callee's start -/
theorem gEnv.move {A B : Nat → Prop} {s U : State} {H : Heap} {locs : List Loc} (hE : gEnv A s) (hS : va_S A s.heap H locs) (hU : U.heap = H) (hW : s.WarmedH U.vm) (hBA : ∀ q, B q → A q) : gEnv B U := by
  obtain ⟨h1, h2, h3, h4, h5, h6⟩ := hE
  refine ⟨fun w hw hk => gNw_warm hk hW (h1 w hw hk), ?_, ?_, fun own k tx hw => ?_, h5, gAO.moved hW.alike h6⟩
  · rw [hU]; exact (vx_Zq.moved hW.alike (h2.kept hS.2.1)).narrow hBA
  · rw [hU]; exact (vx_Zq.moved hW.alike (h3.kept hS.2.1)).narrow hBA
  · obtain ⟨a, ha⟩ := h4 own k tx hw
    exact ⟨a, vk_R.warm hW ha⟩
theorem gPc_blind (D : va_G) (dT : Nat → ClassId) (as : List Value) (h : gH) (sz : Nat) : FrameBlind (gPc D dT as h sz) := by
  intro a U g mk ⟨q1, q2, q3, q4, q5, q6⟩
  refine ⟨q1, q2, q3, va_K.moved (u := U) (U := U.calling g mk a) (Vm.Alike.refl U.vm) q4, ?_, fun a9 x9 e9 => ?_⟩
  rotate_left
  · obtain ⟨⟨n9, f9, g1, g2⟩, g3, g4⟩ := q6 a9 x9 e9
    exact ⟨⟨n9, f9, g1, va_X.moved (u := U) (U := U.calling g mk a) (Vm.Alike.refl U.vm) g2⟩, g3, g4⟩
  obtain ⟨h1, h2, h3, h4, h5, h6⟩ := q5
  refine ⟨fun w hw hk => va_Nw.same (gNw_on hk) (u := U) (U := U.calling g mk a) rfl (h1 w hw hk), vx_Zq.moved (u := U) (U := U.calling g mk a) (Vm.Alike.refl U.vm) h2, vx_Zq.moved (u := U) (U := U.calling g mk a) (Vm.Alike.refl U.vm) h3, fun own k tx hw => ?_, h5, gAO.moved (u := U) (U := U.calling g mk a) (Vm.Alike.refl U.vm) h6⟩
  obtain ⟨x, hx⟩ := h4 own k tx hw
  exact ⟨x, vk_R.same (u := U) (U := U.calling g mk a) rfl hx⟩
section GXR
variable {p : Program} {l : Launch} {e : Env} {R : Room} {s : State} {m : MethodId} {args : Array Value} {below : List Frame} {meth : Method} {c : Code} {H : Heap} {locs : List Loc} {cells slots : Nat} {Q : State → Prop}
variable {mc ms : Nat} {A : Nat → Prop} {RO : Nat → vp_A → Prop} {a : Array Value} {pc : Nat} {ls : Array Slot} {st0 rest : List Value} {D : va_G} {dT : Nat → ClassId} {h : gH} {Post : Option Value → gH → Prop} {X : String → gH → Prop}
/-- what a call's two ways of ending give the caller -/
theorem gx_call (hr : vx_Run p l e R s m args below meth c H locs cells slots mc ms (F0 m pc ls st0) rest (gQc D dT (gAd h H.size) (gRO h) Post a) (gXC D dT (gAd h H.size) (gRO h) X) (gAd h H.size)) (hS : va_S A s.heap H locs) (hA : ∀ q, gAd h H.size q → A q) (hRR : ∀ a x, gRO h a x → RO a x)
    (kx : ∀ (E : String) (ce : Cell) (q9 : Addr) (h' : gH) (L : List Nat) (H1 : Heap) (locs1 : List Loc), E ∈ gExc → X E h' → gI D dT A RO L h' H1 → va_S A s.heap H1 locs1 → H1[q9]? = some ce → ce.vm = .none → s.vm.findClass E = some ce.cls → vx_W p l e R s m args below meth c H1 locs1 (cells + mc) (slots + ms) Q (F0 m pc ls rest) q9)
    (kk : ∀ (v : Option Value) (h' : gH) (L : List Nat) (H1 : Heap) (locs1 : List Loc), Post v h' → gI D dT A RO L h' H1 → va_S A s.heap H1 locs1 → W p l e R s m args below meth c H1 locs1 (cells + mc) (slots + ms) Q (F0 m (pc + 3) ls (v.toList ++ rest))) : W p l e R s m args below meth c H locs cells slots Q (F0 m pc ls st0) := by
  intro T hT X9
  rcases hr T hT X9 with ⟨v, st₀, t, T', L, h0, X', hL, e1, e2, ⟨v', h', L', hv, hp, hI, hF⟩, st⟩ | ⟨q, st₀, t, T', L, E, ce, h0, X', hL, e1, e2, ⟨h', L', hE, hp, hI, hF⟩, hce, hcv, hcl, st⟩
  · cases hv
    obtain ⟨k1, k2, k3⟩ := vx_keep h0 e1 hS (fun q _ => hA q) hA hL hF
    obtain ⟨t2, a1, b1⟩ := kk v h' L' T'.heap (locs ++ L) hp (by rw [e1]; exact hI.weaken hA hRR) k3 T' rfl X'
    exact ⟨t2, st t2 a1, b1⟩
  · obtain ⟨k1, k2, k3⟩ := vx_keep h0 e1 hS (fun q _ => hA q) hA hL hF
    obtain ⟨t2, a1, b1⟩ := kx E ce q h' L' T'.heap (locs ++ L) hE hp (by rw [e1]; exact hI.weaken hA hRR) k3 (by rw [e1]; exact hce) hcv hcl T' rfl X'
    exact ⟨t2, st.trans a1, b1⟩
end GXR
