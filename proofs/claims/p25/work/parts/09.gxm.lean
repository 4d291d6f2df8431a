/-! what is safe is met by the machine -/
theorem gSl_len (vs : List Value) : (gSl vs).length = (lg_sl vs).length := by
  induction vs with
  | nil => rfl
  | cons v vs ih => cases v <;> simp [gSl, lg_sl, Value.category] at ih ⊢ <;> exact ih
theorem gNames_fit : ∀ n ∈ gNames, Bundle.fit n = true := by decide +kernel
section GXM
variable {p : Program} {l : Launch} {e : Env} {R : Room} {s : State} {m : MethodId} {args : Array Value} {below : List Frame} {meth : Method} {c : Code} {A : Nat → Prop} {RO : Nat → vp_A → Prop} {D : va_G} {dT : Nat → ClassId} {y : gM} {d : Nat} {Post : Option Value → gH → Prop} {X : String → gH → Prop}
theorem gx_hret {free : Addr → Prop} (hx : p.tables.exec = Jvm.exec) (hb : c.code = y.2.1) (hr : meth.sig.returnType = y.2.2.2.1) (hlocks : meth.locks = false) (hfree : ∀ q, A q → free q) {mc ms : Nat} :
    ∀ (i : Instr) (v : Option Value) (pc : Nat) (ls : Array Slot) (h : gH) (L : List Nat) (H : Heap) (locs : List Loc), gRet y i v → decode y.2.1 pc = .ok (i, 1) → Post v h → gI D dT A RO L h H → va_S A s.heap H locs → W p l e R s m args below meth c H locs mc ms (vx_MQ below (gQc D dT A RO Post) (gXC D dT A RO X) args s mc ms free) (F0 m pc ls v.toList) := by
  intro i v pc ls h L H locs hg hd hp hI hS
  refine vx_ret ?_
  have hq : ∀ t : State, t.heap = H → s.WarmedH t.vm → gQc D dT A RO Post args s (.returned v) t := fun t ht _ => ⟨v, h, L, rfl, hp, by rw [ht]; exact hI, hS.F ht⟩
  have hf : ∀ q ∈ locs, free q.base := fun q hm => hfree _ (hS.2.2 q hm)
  rcases hg with ⟨rfl, x, ty, rfl, h1, h2⟩ | ⟨rfl, x, rfl, h1⟩ | ⟨rfl, x, rfl, h1⟩ | ⟨rfl, rfl, h1⟩ | ⟨rfl, a, ty, rfl, h1, h2⟩
  · exact W.zret hx hb (hr.trans h1) h2 hq hf hd hlocks
  · exact W.lret hx hb (hr.trans h1) hq hf hd hlocks
  · exact W.dret hx hb (hr.trans h1) hq hf hd hlocks
  · exact W.vret hx hb (hr.trans h1) hq hf hd hlocks
  · exact W.aret hx hb (hr.trans h1) h2 (Or.inr ⟨_, rfl⟩) hq hf hd hlocks
theorem gx_hthrow {free : Addr → Prop} (C : gCtx p l R s m args meth c y d D dT A RO) (htab : c.exceptionTable.toList = []) (hlocks : meth.locks = false) (hfree : ∀ q, A q → free q) {mc ms : Nat} :
    ∀ (E : String) (ce : Cell) (q9 : Addr) (pc : Nat) (ls : Array Slot) (rest : List Value) (h : gH) (L : List Nat) (H : Heap) (locs : List Loc), E ∈ gExc → X E h → gI D dT A RO L h H → va_S A s.heap H locs → H[q9]? = some ce → ce.vm = .none → s.vm.findClass E = some ce.cls → vx_W p l e R s m args below meth c H locs mc ms (vx_MQ below (gQc D dT A RO Post) (gXC D dT A RO X) args s mc ms free) (F0 m pc ls rest) q9 := by
  intro E ce q9 pc ls rest h L H locs hEx hX hI hS hce hcv hcl
  obtain ⟨hx, hb, hml, hown, hts, hK, hA, hE, hR, hin, hRk⟩ := id C
  refine vx_outP (own := y.1.cls) hown hlocks ?_ hce hcv hcl (fun t ht _ => ⟨h, L, hEx, hX, by rw [ht]; exact hI, hS.F ht⟩) (fun q hm => hfree _ (hS.2.2 q hm)) (Nat.le_refl _) (Nat.le_refl _)
  intro z hz
  rw [htab] at hz
  cases hz
theorem gx_hnew {free : Addr → Prop} (hl : l.stackTraces = false) (C : gCtx p l R s m args meth c y d D dT A RO) (htab : c.exceptionTable.toList = []) (hlocks : meth.locks = false) (hfree : ∀ q, A q → free q) :
    ∀ (E : String) (pc ik : Nat) (ls : Array Slot) (st : List Value) (h : gH) (L : List Nat) (H : Heap) (locs : List Loc) (cells slots : Nat), gTN y pc ik E → decode y.2.1 pc = .ok (.new ik, 3) → 6 ≤ d → gCat st ≤ 100 → X E h → gI D dT A RO L h H → va_S A s.heap H locs → cells + 1 ≤ R.cells → slots + 6 ≤ R.slots → ls.size = y.2.2.1 → W p l e R s m args below meth c H locs cells slots (vx_MQ below (gQc D dT A RO Post) (gXC D dT A RO X) args s R.cells R.slots free) (F0 m pc ls st) := by
  intro E pc ik ls st h L H locs cells slots hT hd0 h6 hcat hX hI hS hc hs hls
  obtain ⟨hx, hb, hml, hown, hts, hK, hA, hE, hR, hin, hRk⟩ := id C
  obtain ⟨is, ic, text, t1, t2, t3, t4, t5, t6, t7, t8, t9, t10, t11⟩ := hT
  obtain ⟨sa, hsa⟩ := hE.2.2.2.1 y.1.cls is text t9
  have hcat' : (st.map fun v => v.category).sum ≤ 100 := hcat
  refine vx_throwS (own := y.1.cls) (cls := E) (text := text) (names := gNames) (ik := ik) (is := is) (ic := ic) (sa := sa) (A := A) hx hb hl hown t11 gNames_fit (hts _ (gGood_in t7 rfl)) (hts _ (gGood_in t8 rfl)) hsa ?_ ?_ hE.2.1 hE.2.2.1 hS (by rw [hls, hml]) hd0 t3 t4 t5 t6 ?_ ?_ ?_ hc hs hlocks ?_ (fun z hz => hfree _ (hS.2.2 z hz)) hc hs
  · intro w hw
    obtain ⟨w1, w2, w3⟩ := t10 w hw
    rcases w2 with w2 | w2
    · exact hts _ (gGood_in w1 w2)
    · exact va_Nw.use (gNw_on w2) (hE.1 w w1 w2)
  · intro w hw
    rcases List.mem_cons.mp hw with rfl | hw
    · rfl
    · rcases List.mem_cons.mp hw with rfl | hw
      · rfl
      · exact (t10 w hw).2.2
  · intro x hx9
    rw [htab] at hx9
    cases hx9
  · show 2 + 3 < R.frames
    omega
  · show (st.map fun v => v.category).sum + (13 * (2 + 1) + 43) ≤ R.locals
    omega
  · intro t hvm hz hq
    exact ⟨h, L, t1, hX, hI.kept hq, Nat.le_trans hS.1 hz, fun q h1 h2 => (hq q (Nat.lt_of_lt_of_le h1 hS.1)).trans (hS.2.1 q h1 h2)⟩
end GXM
theorem gx_met (l : Launch) (hl : l.stackTraces = false) : ∀ (d : Nat) (z : gM) (as : List Value) (h : gH) (mc ms : Nat) (Post : Option Value → gH → Prop) (X : String → gH → Prop), gOK z → gSafe d z as h mc ms Post X → gMet l d z as h mc ms Post X := by
  intro d
  induction d with
  | zero => intro z as h mc ms Post X _ hs; exact hs.elim
  | succ d ih =>
    intro z as h mc ms Post X hz hs D dT sz
    obtain ⟨hlen, hs⟩ := hs
    have hlen : (lg_sl as).length ≤ z.2.2.1 := by rw [← gSl_len]; exact hlen
    refine vx_ofW hz.1 (gWs_ok hz) (fun p e s m args below meth c s₁ B hml ht hv => ?_)
    have htab : c.exceptionTable.toList = [] := List.eq_nil_iff_forall_not_mem.mpr fun x hx => ht x hx
    obtain ⟨rfl, hsz, ⟨L, hI⟩, hK, hE, hRk⟩ := hv
    have hpre := atoms_spec (ws := gWs z) B.pre
    have hts : ∀ w ∈ gGood, w.before as.toArray s = true := fun w hw => hpre w (List.mem_cons_of_mem _ hw)
    have hown : s.vm.findClass z.1.cls = some m.cls := findClass_of_methodNamed B.named
    have hnm : meth.name = z.1.name := (name_of_methodNamed B.named B.method).1
    have C : gCtx p l (gRm (d + 1) mc ms) s m as.toArray meth c z (d + 1) D dT (gAd h sz) (gRO h) := ⟨B.exec, B.bytes, hml, hown, hts, hK, fun q hq => Or.inr (by rw [← hsz]; exact hq), hE, ⟨Nat.le_refl _, Nat.le_refl _⟩, fun h1 => hnm.trans h1, hRk⟩
    rw [lg_entry_eq]
    have key := gx_step (e := e) (below := below) (Q := vx_MQ below (gQc D dT (gAd h sz) (gRO h) Post) (gXC D dT (gAd h sz) (gRO h) X) as.toArray s mc ms (gAd h sz)) (Post := Post) (X := X) (ro := fun _ => none) C ih (gx_hret B.exec B.bytes B.returns B.notSynchronized (fun q hq => hq)) (gx_hthrow C htab B.notSynchronized (fun q hq => hq)) (gx_hnew hl C htab B.notSynchronized (fun q hq => hq))
    exact hs _ key s.heap [] 0 0 _ L hI va_S.rf (by show 0 + mc ≤ mc; omega) (by show 0 + ms ≤ ms; omega) (gEntry_has hlen)
