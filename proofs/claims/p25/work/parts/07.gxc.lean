/-! calls, by kind -/
section GXD
variable {p : Program} {l : Launch} {e : Env} {R : Room} {s : State} {m : MethodId} {args : Array Value} {below : List Frame} {meth : Method} {c : Code} {H : Heap} {locs : List Loc} {cells slots : Nat} {Q : State → Prop}
variable {mc ms d n idx ci nL : Nat} {A : Nat → Prop} {RO : Nat → vp_A → Prop} {a : Nat} {pc : Nat} {ls : Array Slot} {r as fs : List Value} {D : va_G} {dT : Nat → ClassId} {h : gH} {Post : Option Value → gH → Prop} {X : String → gH → Prop} {y z : gM} {L : List Nat}
theorem gx_A (C : gCtx p l R s m args meth c y d D dT A RO) (I : gI D dT A RO L h H) (hS : va_S A s.heap H locs) : ∀ q, gAd h H.size q → A q := by
  intro q hq
  rcases hq with hq | hq
  · exact (I.dom hq).1
  · exact C.2.2.2.2.2.2.1 q (Nat.le_trans hS.1 hq)
theorem gx_pre (C : gCtx p l R s m args meth c y d D dT A RO) (I : gI D dT A RO L h H) (hS : va_S A s.heap H locs) (U : State) (hU : U.heap = H) (hW : s.WarmedH U.vm) : gPc D dT as h H.size as.toArray U := by
  have hR := C.2.2.2.2.2.2.2.2.2.2
  have hr : ∀ (a : Nat) (x : vp_A), gRO h a x → (∃ (n : Nat) (f : Nat → Int32), x = (n, .inl f) ∧ va_X a n f s s.heap) ∧ a < s.heap.size ∧ ¬ A a := fun a x e => hR a x (I.2.2.2 a x e)
  have hk : ∀ (a : Nat) (x : vp_A), gRO h a x → H[a]? = s.heap[a]? := fun a x e => hS.2.1 a (hr a x e).2.1 (hr a x e).2.2
  refine ⟨rfl, by rw [hU], ⟨L, ?_⟩, va_K.moved hW.alike C.2.2.2.2.2.1, gEnv.move C.2.2.2.2.2.2.2.1 hS hU hW (gx_A C I hS), fun a x e => ?_⟩
  · rw [hU]
    refine ⟨I.1, I.2.1, ⟨I.2.2.1.1, fun k q hk9 => ?_⟩, fun a x e => e⟩
    left
    have hm : q.1 ∈ L := by
      unfold va_pl at hk9
      rw [List.getElem?_map] at hk9
      cases hx : L[k]? with
      | none => rw [hx] at hk9; cases hk9
      | some x => rw [hx] at hk9; cases hk9; exact List.mem_of_getElem? hx
    exact (I.1 q.1).mp hm
  · obtain ⟨⟨n, f, g1, g2⟩, g3, g4⟩ := hr a x e
    refine ⟨⟨n, f, g1, ?_⟩, by rw [hU]; exact Nat.lt_of_lt_of_le g3 hS.1, ?_⟩
    · rw [hU]
      exact (va_X.moved hW.alike g2).kept (hk a x e)
    · rintro (h1 | h1)
      · obtain ⟨o, e1, e2⟩ := gKn_ex h1
        have e : h a = some (.inl (7, x)) := e
        rw [e] at e1
        cases e1
        cases e2
      · exact absurd (Nat.lt_of_lt_of_le g3 hS.1) (Nat.not_lt.mpr h1)
theorem gx_fix (C : gCtx p l R s m args meth c y d D dT A RO) : CallFix p m c y.2.1 y.2.2.1 s args gGood y.1.cls := ⟨C.1, C.2.1, C.2.2.1, C.2.2.2.1, C.2.2.2.2.1⟩
theorem gWs_ok {z : gM} (hz : gOK z) : gWs z = Jvm.Cond.code z.1 z.2.1 z.2.2.1 z.2.2.2.1 :: gGood := rfl
theorem gWs_good {z : gM} (hz : gOK z) : ∀ w ∈ gWs z, w ∈ gGood := by
  intro w hw
  rw [gWs_ok hz] at hw
  rcases List.mem_cons.mp hw with rfl | hw
  · exact gGood_in hz.2.1 rfl
  · exact hw
theorem gGI {ws : List Jvm.Cond} (h : ∀ w ∈ ws, w ∈ gGood) : GoodIn gGood ws := fun w hw => ⟨h w hw, good_of_word (gGood_all w (h w hw))⟩
theorem gx_room (C : gCtx p l R s m args meth c y (d + 1) D dT A RO) {maxL : Nat} (hm : maxL ≤ 20) : (gRm d mc ms).frames + 1 ≤ R.frames ∧ 8 + (maxL + 11) + (gRm d mc ms).locals ≤ R.locals := by
  obtain ⟨h1, h2⟩ := C.2.2.2.2.2.2.2.2.1
  refine ⟨h1, ?_⟩
  show 8 + (maxL + 11) + 39 * d ≤ R.locals
  omega
theorem gx_V (C : gCtx p l R s m args meth c y (d + 1) D dT A RO) (hM : gMet l d z (.ref a :: as) h mc ms Post X) (hl : gLV y.1.cls idx z n ci) (I : gI D dT A RO L h H) (hS : va_S A s.heap H locs) (hn : as.length = n) (ha : h a = some (.inr (ci, fs))) (hr : gCat r ≤ 8) (hls : ls.size = y.2.2.1) (hf : cells + mc ≤ R.cells ∧ slots + ms ≤ R.slots) (hd : decode y.2.1 pc = .ok (.invokevirtual idx, 3))
    (kx : ∀ (E : String) (ce : Cell) (q9 : Addr) (h' : gH) (L : List Nat) (H1 : Heap) (locs1 : List Loc), E ∈ gExc → X E h' → gI D dT A RO L h' H1 → va_S A s.heap H1 locs1 → H1[q9]? = some ce → ce.vm = .none → s.vm.findClass E = some ce.cls → vx_W p l e R s m args below meth c H1 locs1 (cells + mc) (slots + ms) Q (F0 m pc ls r) q9)
    (kk : ∀ (v : Option Value) (h' : gH) (L : List Nat) (H1 : Heap) (locs1 : List Loc), Post v h' → gI D dT A RO L h' H1 → va_S A s.heap H1 locs1 → W p l e R s m args below meth c H1 locs1 (cells + mc) (slots + ms) Q (F0 m (pc + 3) ls (v.toList ++ r))) : W p l e R s m args below meth c H locs cells slots Q (F0 m pc ls (as.reverse ++ .ref a :: r)) := by
  obtain ⟨hz, hna, h1, h2, h3, T, N, hc⟩ := hl
  obtain ⟨k, hk⟩ := I.get ha
  have hcw : CallW R s args y.1.cls z.1.cls idx z.1 z.2.1 z.2.2.1 z.2.2.2.1 (gWs z) (gRm d mc ms) mc ms n := by
    refine cwV n C.2.2.2.2.1 (gGI ?_) (gWs_ok hz) rfl rfl ⟨rfl, hz.2.2.2.1.1, hz.2.2.2.1.2, hna⟩ (gx_room C hz.2.2.2.2.1)
    intro w hw
    rcases List.mem_append.mp hw with hw | hw
    · simp only [List.mem_cons, List.not_mem_nil, or_false] at hw
      rcases hw with rfl | rfl | rfl | rfl
      · exact gGood_in h1 rfl
      · exact gGood_in h2 rfl
      · exact gGood_in h3 rfl
      · exact gGood_in hz.2.2.1 rfl
    · exact gWs_good hz w hw
  refine gx_call (vx_runV (gx_fix C) (hM D dT H.size) hcw ⟨gPc_blind D dT _ h H.size, va_recv C.2.2.2.2.2.1 I.2.1 hc hk, fun U hU hW => gx_pre C I hS U hU hW⟩ rfl hn hls rfl (lv_room hr) hd hf) hS (gx_A C I hS) I.2.2.2 kx kk
theorem gx_St (C : gCtx p l R s m args meth c y (d + 1) D dT A RO) (hM : gMet l d z as h mc ms Post X) (hl : gLS y.1.cls idx z n) (I : gI D dT A RO L h H) (hS : va_S A s.heap H locs) (hn : as.length = n) (hr : gCat r ≤ 8) (hls : ls.size = y.2.2.1) (hf : cells + mc ≤ R.cells ∧ slots + ms ≤ R.slots) (hd : decode y.2.1 pc = .ok (.invokestatic idx, 3))
    (kx : ∀ (E : String) (ce : Cell) (q9 : Addr) (h' : gH) (L : List Nat) (H1 : Heap) (locs1 : List Loc), E ∈ gExc → X E h' → gI D dT A RO L h' H1 → va_S A s.heap H1 locs1 → H1[q9]? = some ce → ce.vm = .none → s.vm.findClass E = some ce.cls → vx_W p l e R s m args below meth c H1 locs1 (cells + mc) (slots + ms) Q (F0 m pc ls r) q9)
    (kk : ∀ (v : Option Value) (h' : gH) (L : List Nat) (H1 : Heap) (locs1 : List Loc), Post v h' → gI D dT A RO L h' H1 → va_S A s.heap H1 locs1 → W p l e R s m args below meth c H1 locs1 (cells + mc) (slots + ms) Q (F0 m (pc + 3) ls (v.toList ++ r))) : W p l e R s m args below meth c H locs cells slots Q (F0 m pc ls (as.reverse ++ r)) := by
  obtain ⟨hz, hna, h1, h2⟩ := hl
  have hcw : CallB R s args y.1.cls idx z.1 z.2.1 z.2.2.1 z.2.2.2.1 (gWs z) (gRm d mc ms) mc ms n ∧ (Jvm.Cond.static z.1).before args s = true :=
    ⟨callB_of n C.2.2.2.2.1 (gGI (gWs_good hz)) (gWs_ok hz) rfl rfl (C.2.2.2.2.1 _ (gGood_in hz.2.2.1 rfl)) (C.2.2.2.2.1 _ (gGood_in h1 rfl)) ⟨hz.2.2.2.1.1, hz.2.2.2.1.2, hna⟩ (gx_room C hz.2.2.2.2.1), C.2.2.2.2.1 _ (gGood_in h2 rfl)⟩
  exact gx_call (vx_runS (gx_fix C) (hM D dT H.size) hcw ⟨gPc_blind D dT _ h H.size, fun U hU hW => gx_pre C I hS U hU hW⟩ rfl hn hls rfl (lv_room hr) hd hf) hS (gx_A C I hS) I.2.2.2 kx kk
theorem gx_In (C : gCtx p l R s m args meth c y (d + 1) D dT A RO) (hM : gMet l d z (.ref a :: as) h mc ms Post X) (hl : gLI y.1.cls idx z n) (I : gI D dT A RO L h H) (hS : va_S A s.heap H locs) (hn : as.length = n) (hr : gCat r ≤ 8) (hls : ls.size = y.2.2.1) (hf : cells + mc ≤ R.cells ∧ slots + ms ≤ R.slots) (hd : decode y.2.1 pc = .ok (.invokespecial idx, 3))
    (kx : ∀ (E : String) (ce : Cell) (q9 : Addr) (h' : gH) (L : List Nat) (H1 : Heap) (locs1 : List Loc), E ∈ gExc → X E h' → gI D dT A RO L h' H1 → va_S A s.heap H1 locs1 → H1[q9]? = some ce → ce.vm = .none → s.vm.findClass E = some ce.cls → vx_W p l e R s m args below meth c H1 locs1 (cells + mc) (slots + ms) Q (F0 m pc ls r) q9)
    (kk : ∀ (v : Option Value) (h' : gH) (L : List Nat) (H1 : Heap) (locs1 : List Loc), Post v h' → gI D dT A RO L h' H1 → va_S A s.heap H1 locs1 → W p l e R s m args below meth c H1 locs1 (cells + mc) (slots + ms) Q (F0 m (pc + 3) ls (v.toList ++ r))) : W p l e R s m args below meth c H locs cells slots Q (F0 m pc ls (as.reverse ++ .ref a :: r)) := by
  obtain ⟨hz, hna, hret, h1, h2, h3⟩ := hl
  have hw : gWs z = Jvm.Cond.code z.1 z.2.1 z.2.2.1 none :: gGood := by rw [gWs_ok hz, hret]
  have hini := C.2.2.2.2.1 _ (gGood_in hz.2.2.1 rfl)
  have hin := C.2.2.2.2.1 _ (gGood_in h2 rfl)
  rcases h3 with h3 | ⟨host, h3⟩
  · exact gx_call (vx_runI (gx_fix C) (hM D dT H.size) (cwI n C.2.2.2.2.1 (gGI (gWs_good hz)) hw rfl rfl hini (C.2.2.2.2.1 _ (gGood_in h3 rfl)) hin h1 ⟨hz.2.2.2.1.1, hz.2.2.2.1.2, hna⟩ (gx_room C hz.2.2.2.2.1)) ⟨gPc_blind D dT _ h H.size, fun U hU hW => gx_pre C I hS U hU hW⟩ rfl hn hls rfl (lv_room hr) hd hf) hS (gx_A C I hS) I.2.2.2 kx kk
  · exact gx_call (vx_runIN (gx_fix C) (hM D dT H.size) ⟨va_cnB n C.2.2.2.2.1 (gGI (gWs_good hz)) hw rfl rfl (C.2.2.2.2.2.2.2.1.1 _ h3 rfl) hini ⟨hz.2.2.2.1.1, hz.2.2.2.1.2, hna⟩ (gx_room C hz.2.2.2.2.1), h1, hin⟩ ⟨gPc_blind D dT _ h H.size, fun U hU hW => gx_pre C I hS U hU hW⟩ rfl hn hls rfl (lv_room hr) hd hf) hS (gx_A C I hS) I.2.2.2 kx kk
end GXD
