theorem gIn1 : ∀ w ∈ u_ws RX1 TX1 9, w ∈ lw_tbl := by decide +kernel
theorem gGd1 : ∀ w ∈ u_ws RX1 TX1 9, goodWord w = true := by decide +kernel
theorem gIn2 : ∀ w ∈ u_ws RX2 TX2 5, w ∈ lw_tbl := by decide +kernel
theorem gGd2 : ∀ w ∈ u_ws RX2 TX2 5, goodWord w = true := by decide +kernel
theorem gIn3 : ∀ w ∈ u_ws RX3 TX3 1, w ∈ lw_tbl := by decide +kernel
theorem gGd3 : ∀ w ∈ u_ws RX3 TX3 1, goodWord w = true := by decide +kernel
theorem gIn4 : ∀ w ∈ u_ws RX4 TX4 4, w ∈ lw_tbl := by decide +kernel
theorem gGd4 : ∀ w ∈ u_ws RX4 TX4 4, goodWord w = true := by decide +kernel
theorem gIn5 : ∀ w ∈ u_ws RX5 TX5 2, w ∈ lw_tbl := by decide +kernel
theorem gGd5 : ∀ w ∈ u_ws RX5 TX5 2, goodWord w = true := by decide +kernel
theorem gIn6 : ∀ w ∈ u_ws RX6 TX6 8, w ∈ lw_tbl := by decide +kernel
theorem gGd6 : ∀ w ∈ u_ws RX6 TX6 8, goodWord w = true := by decide +kernel
theorem gIn7 : ∀ w ∈ u_ws RX7 TX7 9, w ∈ lw_tbl := by decide +kernel
theorem gGd7 : ∀ w ∈ u_ws RX7 TX7 9, goodWord w = true := by decide +kernel
theorem gArI : Jvm.Cond.arrayClass (newarray.typeOf .int) ∈ lw_tbl := by decide +kernel
theorem gArZ : Jvm.Cond.arrayClass (newarray.typeOf .boolean) ∈ lw_tbl := by decide +kernel
theorem gObjI : Jvm.Cond.instanceMethod objectInit ∈ lw_tbl := by decide +kernel
theorem gObjC : Jvm.Cond.code objectInit ⟨#[0xb1]⟩ 1 none ∈ lw_tbl := by decide +kernel
theorem gMi1 : Jvm.Cond.static Lib.Math.abs.name ∈ lw_tbl := by decide +kernel
theorem gMi2 : Jvm.Cond.initialized "java/lang/Math" ∈ lw_tbl := by decide +kernel
theorem gMi3 : Jvm.Cond.code Lib.Math.abs.name Lib.Math.abs.code 1 (some .int) ∈ lw_tbl := by decide +kernel
theorem gFitI {cA : ClassId} {n i : Nat} {f : Nat → Int32} {v : Value} (h : (vp_cell cA (n, .inl f)).slots[i]? = some v) : fits .int v = true := by
  rw [vp_cell_i] at h
  by_cases hi : i < n
  · rw [arrV_read _ _ hi] at h
    cases h
    rfl
  · have h2 : i < (arrV cA n (fun j => Value.int (f j))).slots.size := (Array.getElem?_eq_some_iff.mp h).1
    rw [arrV_size] at h2
    exact absurd h2 hi
/-- a nest mate's field lies in another class -/
def gNestBad : Jvm.Cond → Bool
  | .fieldLinkNest a _ b _ _ _ => a == b
  | _ => false
theorem gNestF : ∀ w ∈ lw_tbl, gNestBad w = false := by decide +kernel
/-! one instruction of gS is one row of the kit -/
section GXS
variable {p : Program} {l : Launch} {e : Env} {R : Room} {s : State} {m : MethodId} {args : Array Value} {below : List Frame} {meth : Method} {c : Code} {Q : State → Prop} {A : Nat → Prop} {RO : Nat → vp_A → Prop} {D : va_G} {dT : Nat → ClassId} {y : gM} {d : Nat} {Post : Option Value → gH → Prop} {X : String → gH → Prop} {ro : Nat → Option (Nat × (Nat → Int32))}
/-- the answer that an instruction gives back -/
def gRet (y : gM) (i : Instr) (v : Option Value) : Prop := (i = .ireturn ∧ ∃ (x : Int32) (ty : FieldType), v = some (.int x) ∧ y.2.2.2.1 = some ty ∧ narrow ty (.int x) = .int x) ∨ (i = .lreturn ∧ ∃ x : Int64, v = some (.long x) ∧ y.2.2.2.1 = some .long) ∨ (i = .dreturn ∧ ∃ x : UInt64, v = some (.double x) ∧ y.2.2.2.1 = some .double) ∨ (i = .return_ ∧ v = none ∧ y.2.2.2.1 = none) ∨ (i = .areturn ∧ ∃ (a : Nat) (ty : FieldType), v = some (.ref a) ∧ y.2.2.2.1 = some ty ∧ ((∃ C, ty = .object C) ∨ ∃ t, ty = .array t))
theorem gCl_facts : ∀ (ci : Nat) (C : String) (T : u_T) (N : Nat), vwCl[ci]? = some (C, T, N) → (∀ w ∈ u_ws C T N, w ∈ lw_tbl ∧ goodWord w = true) ∧ (∃ ty : Nat → FieldType, ∀ k, k < N → parseFieldDescriptor (T k).2.2.1 = some (ty k)) ∧ ∀ a, a < N → ∀ b, b < N → a ≠ b → (T a).2.1 ≠ (T b).2.1 := by
  intro ci C T N h
  match ci, h with
  | 0, h => cases h; exact ⟨fun w hw => ⟨gIn1 w hw, gGd1 w hw⟩, ⟨tyX1, tyX1_ok⟩, nmX1⟩
  | 1, h => cases h; exact ⟨fun w hw => ⟨gIn2 w hw, gGd2 w hw⟩, ⟨tyX2, tyX2_ok⟩, nmX2⟩
  | 2, h => cases h; exact ⟨fun w hw => ⟨gIn3 w hw, gGd3 w hw⟩, ⟨tyX3, tyX3_ok⟩, nmX3⟩
  | 3, h => cases h; exact ⟨fun w hw => ⟨gIn4 w hw, gGd4 w hw⟩, ⟨tyX4, tyX4_ok⟩, nmX4⟩
  | 4, h => cases h; exact ⟨fun w hw => ⟨gIn5 w hw, gGd5 w hw⟩, ⟨tyX5, tyX5_ok⟩, nmX5⟩
  | 5, h => cases h; exact ⟨fun w hw => ⟨gIn6 w hw, gGd6 w hw⟩, ⟨tyX6, tyX6_ok⟩, nmX6⟩
  | 6, h => cases h; exact ⟨fun w hw => ⟨gIn7 w hw, gGd7 w hw⟩, ⟨tyX7, tyX7_ok⟩, nmX7⟩
  | k + 7, h => simp [vwCl] at h
theorem vw_rec {own : String} {idx ci k : Nat} {ty : FieldType} {fin : Bool} (h : gFL own idx ci k ty fin) : True := trivial
set_option maxHeartbeats 4000000 in
set_option maxRecDepth 100000 in
theorem gx_step (C : gCtx p l R s m args meth c y (d + 1) D dT A RO)
    (hcall : ∀ (z : gM) (as : List Value) (h : gH) (mc ms : Nat) (Post : Option Value → gH → Prop) (X : String → gH → Prop), gOK z → gSafe d z as h mc ms Post X → gMet l d z as h mc ms Post X)
    (hret : ∀ (i : Instr) (v : Option Value) (pc : Nat) (ls : Array Slot) (h : gH) (L : List Nat) (H : Heap) (locs : List Loc), gRet y i v → decode y.2.1 pc = .ok (i, 1) → Post v h → gI D dT A RO L h H → va_S A s.heap H locs → W p l e R s m args below meth c H locs R.cells R.slots Q (F0 m pc ls v.toList))
    (hthrow : ∀ (E : String) (ce : Cell) (q9 : Addr) (pc : Nat) (ls : Array Slot) (rest : List Value) (h : gH) (L : List Nat) (H : Heap) (locs : List Loc), E ∈ gExc → X E h → gI D dT A RO L h H → va_S A s.heap H locs → H[q9]? = some ce → ce.vm = .none → s.vm.findClass E = some ce.cls → vx_W p l e R s m args below meth c H locs R.cells R.slots Q (F0 m pc ls rest) q9)
    (hnew : ∀ (E : String) (pc ik : Nat) (ls : Array Slot) (st : List Value) (h : gH) (L : List Nat) (H : Heap) (locs : List Loc) (cells slots : Nat), gTN y pc ik E → decode y.2.1 pc = .ok (.new ik, 3) → 6 ≤ d + 1 → gCat st ≤ 100 → X E h → gI D dT A RO L h H → va_S A s.heap H locs → cells + 1 ≤ R.cells → slots + 6 ≤ R.slots → ls.size = y.2.2.1 → W p l e R s m args below meth c H locs cells slots Q (F0 m pc ls st)) :
    gClosed (gSafe d) y (d + 1) Post X ro (gKX p l e R s m args below meth c D dT A RO y.2.2.1 Q) := by
  intro pc lv st h bc bs i len hd hlen hs H locs cells slots ls L hI hS hc hbs hL
  obtain ⟨hx, hb, hml, hown, hts, hK, hA, hE, hR, hin, hRk⟩ := id C
  have hRO : ∀ (a : Nat) (x : vp_A), RO a x → ¬ A a := fun a x e => (hRk a x e).2.2
  have hro : ∀ (a n : Nat) (f : Nat → Int32), h a = some (.inl (7, n, .inl f)) → va_X a n f s s.heap ∧ a < s.heap.size ∧ ¬ A a := fun a n f e => by
    obtain ⟨⟨n9, f9, g1, g2⟩, g3, g4⟩ := hRk a _ (hI.2.2.2 a _ e)
    cases g1
    exact ⟨g2, g3, g4⟩
  have gw : ∀ w : Jvm.Cond, w ∈ lw_tbl → goodWord w = true → w.before args s = true := fun w h1 h2 => hts w (gGood_in h1 h2)
  -- a call's thrown end
  have kxx : ∀ (pc : Nat) (lv : gL) (r : List Value) (mc ms : Nat), mc ≤ bc → ms ≤ bs → gLH ls y.2.2.1 lv → ∀ (E : String) (ce : Cell) (q9 : Addr) (h' : gH) (L : List Nat) (H1 : Heap) (locs1 : List Loc), E ∈ gExc → gThr y X (gKX p l e R s m args below meth c D dT A RO y.2.2.1 Q) pc lv E h' (bc - mc) (bs - ms) → gI D dT A RO L h' H1 → va_S A s.heap H1 locs1 → H1[q9]? = some ce → ce.vm = .none → s.vm.findClass E = some ce.cls → vx_W p l e R s m args below meth c H1 locs1 (cells + mc) (slots + ms) Q (F0 m pc ls r) q9 := by
    intro pc lv r mc ms hmc hms hL E ce q9 h' L H1 locs1 hEx ht hI1 hS1 hce hcv hcl
    exact vx_widen (by omega) (by omega) (hthrow E ce q9 pc ls r h' L H1 locs1 hEx ht hI1 hS1 hce hcv hcl)
  cases i with
  | iload n =>
    obtain rfl : len = 2 := by simpa [gLen] using hlen
    obtain ⟨x, hg, k⟩ := hs
    exact lv_iload hx hb hd (hL.2.2.2 _ _ hg) (k H locs cells slots ls L hI hS hc hbs hL)
  | lload n =>
    obtain rfl : len = 2 := by simpa [gLen] using hlen
    obtain ⟨x, hg, k⟩ := hs
    exact lv_lload hx hb hd (hL.2.2.2 _ _ hg) (k H locs cells slots ls L hI hS hc hbs hL)
  | dload n =>
    obtain rfl : len = 2 := by simpa [gLen] using hlen
    obtain ⟨x, hg, k⟩ := hs
    exact lv_dload hx hb hd (hL.2.2.2 _ _ hg) (k H locs cells slots ls L hI hS hc hbs hL)
  | aload n =>
    obtain rfl : len = 2 := by simpa [gLen] using hlen
    obtain ⟨x, hg, k⟩ := hs
    exact lv_aload hx hb hd (hL.2.2.2 _ _ hg) (k H locs cells slots ls L hI hS hc hbs hL)
  | iload_n n =>
    obtain rfl : len = 1 := by simpa [gLen] using hlen
    obtain ⟨x, hg, k⟩ := hs
    exact lv_iload_n hx hb hd rfl (hL.2.2.2 _ _ hg) (k H locs cells slots ls L hI hS hc hbs hL)
  | lload_n n =>
    obtain rfl : len = 1 := by simpa [gLen] using hlen
    obtain ⟨x, hg, k⟩ := hs
    exact lv_lload_n hx hb hd rfl (hL.2.2.2 _ _ hg) (k H locs cells slots ls L hI hS hc hbs hL)
  | aload_n n =>
    obtain rfl : len = 1 := by simpa [gLen] using hlen
    obtain ⟨x, hg, k⟩ := hs
    exact lv_aload_n hx hb hd rfl (hL.2.2.2 _ _ hg) (k H locs cells slots ls L hI hS hc hbs hL)
  | istore n =>
    obtain rfl : len = 2 := by simpa [gLen] using hlen
    obtain ⟨x, r, rfl, hn, k⟩ := hs
    exact lv_istore hx hb hd hL.has (by rw [← hL.2.1]; exact hn) rfl (fun ls1 h1 => (k H locs cells slots ls1 L hI hS hc hbs (hL.set h1)))
  | istore_n n =>
    obtain rfl : len = 1 := by simpa [gLen] using hlen
    obtain ⟨x, r, rfl, hn, k⟩ := hs
    exact lv_istore_n hx hb hd rfl hL.has (by rw [← hL.2.1]; exact hn) rfl (fun ls1 h1 => (k H locs cells slots ls1 L hI hS hc hbs (hL.set h1)))
  | astore n =>
    obtain rfl : len = 2 := by simpa [gLen] using hlen
    obtain ⟨x, r, rfl, hn, k⟩ := hs
    exact lv_astore hx hb hd hL.has (by rw [← hL.2.1]; exact hn) rfl (fun ls1 h1 => (k H locs cells slots ls1 L hI hS hc hbs (hL.set h1)))
  | astore_n n =>
    obtain rfl : len = 1 := by simpa [gLen] using hlen
    obtain ⟨x, r, rfl, hn, k⟩ := hs
    exact lv_astore_n hx hb hd rfl hL.has (by rw [← hL.2.1]; exact hn) rfl (fun ls1 h1 => (k H locs cells slots ls1 L hI hS hc hbs (hL.set h1)))
  | lstore n =>
    obtain rfl : len = 2 := by simpa [gLen] using hlen
    obtain ⟨x, r, rfl, hn, k⟩ := hs
    exact lv_lstore hx hb hd hL.has (by rw [← hL.2.1]; exact hn) rfl (fun ls1 h1 => (k H locs cells slots ls1 L hI hS hc hbs (hL.set2 h1)))
  | dstore n =>
    obtain rfl : len = 2 := by simpa [gLen] using hlen
    obtain ⟨x, r, rfl, hn, k⟩ := hs
    exact lv_dstore hx hb hd hL.has (by rw [← hL.2.1]; exact hn) rfl (fun ls1 h1 => (k H locs cells slots ls1 L hI hS hc hbs (hL.set2 h1)))
  | lstore_n n =>
    obtain rfl : len = 1 := by simpa [gLen] using hlen
    obtain ⟨x, r, rfl, hn, k⟩ := hs
    exact lv_lstore_n hx hb hd rfl hL.has (by rw [← hL.2.1]; exact hn) rfl (fun ls1 h1 => (k H locs cells slots ls1 L hI hS hc hbs (hL.set2 h1)))
  | iinc n k0 =>
    obtain rfl : len = 3 := by simpa [gLen] using hlen
    obtain ⟨x, v, hg, hv, hn, k⟩ := hs
    obtain ⟨i, hi⟩ := List.getElem?_of_mem (gA_mem (q := (n, Value.int x)).mpr hg)
    exact lv_iinc hx hb hd hL.has hi hv (by rw [← hL.2.1]; exact hn) rfl (fun ls1 h1 => (k H locs cells slots ls1 L hI hS hc hbs (hL.set h1)))
  | iconst n =>
    obtain rfl : len = 1 := by simpa [gLen] using hlen
    obtain ⟨v, hv, k⟩ := hs
    exact lv_iconst hx hb hd hv (k H locs cells slots ls L hI hS hc hbs hL)
  | bipush n =>
    obtain rfl : len = 2 := by simpa [gLen] using hlen
    obtain ⟨v, hv, k⟩ := hs
    exact lv_bipush hx hb hd hv (k H locs cells slots ls L hI hS hc hbs hL)
  | sipush n =>
    obtain rfl : len = 3 := by simpa [gLen] using hlen
    obtain ⟨v, hv, k⟩ := hs
    exact lv_sipush hx hb hd hv (k H locs cells slots ls L hI hS hc hbs hL)
  | lconst n =>
    obtain rfl : len = 1 := by simpa [gLen] using hlen
    obtain ⟨v, hv, k⟩ := hs
    exact lv_lconst hx hb hd hv (k H locs cells slots ls L hI hS hc hbs hL)
  | dconst n =>
    obtain rfl : len = 1 := by simpa [gLen] using hlen
    obtain ⟨rfl, k⟩ := hs
    exact lv_dconst0 hx hb hd (k H locs cells slots ls L hI hS hc hbs hL)
  | ldc2_w n =>
    obtain rfl : len = 3 := by simpa [gLen] using hlen
    obtain ⟨v, hw, k⟩ := hs
    exact lv_ldc2 hx hb hown (gw _ hw rfl) hd (k H locs cells slots ls L hI hS hc hbs hL)
  | iadd =>
    obtain rfl : len = 1 := by simpa [gLen] using hlen
    obtain ⟨b, a, r, rfl, k⟩ := hs
    exact lv_iadd hx hb hd (k H locs cells slots ls L hI hS hc hbs hL)
  | isub =>
    obtain rfl : len = 1 := by simpa [gLen] using hlen
    obtain ⟨b, a, r, rfl, k⟩ := hs
    exact lv_isub hx hb hd (k H locs cells slots ls L hI hS hc hbs hL)
  | imul =>
    obtain rfl : len = 1 := by simpa [gLen] using hlen
    obtain ⟨b, a, r, rfl, k⟩ := hs
    exact lv_imul hx hb hd (k H locs cells slots ls L hI hS hc hbs hL)
  | iand =>
    obtain rfl : len = 1 := by simpa [gLen] using hlen
    obtain ⟨b, a, r, rfl, k⟩ := hs
    exact lv_iand hx hb hd (k H locs cells slots ls L hI hS hc hbs hL)
  | ixor =>
    obtain rfl : len = 1 := by simpa [gLen] using hlen
    obtain ⟨b, a, r, rfl, k⟩ := hs
    exact lv_ixor hx hb hd (k H locs cells slots ls L hI hS hc hbs hL)
  | ladd =>
    obtain rfl : len = 1 := by simpa [gLen] using hlen
    obtain ⟨b, a, r, rfl, k⟩ := hs
    exact lv_ladd hx hb hd (k H locs cells slots ls L hI hS hc hbs hL)
  | lsub =>
    obtain rfl : len = 1 := by simpa [gLen] using hlen
    obtain ⟨b, a, r, rfl, k⟩ := hs
    exact lv_lsub hx hb hd (k H locs cells slots ls L hI hS hc hbs hL)
  | lmul =>
    obtain rfl : len = 1 := by simpa [gLen] using hlen
    obtain ⟨b, a, r, rfl, k⟩ := hs
    exact lv_lmul hx hb hd (k H locs cells slots ls L hI hS hc hbs hL)
  | land =>
    obtain rfl : len = 1 := by simpa [gLen] using hlen
    obtain ⟨b, a, r, rfl, k⟩ := hs
    exact lv_land hx hb hd (k H locs cells slots ls L hI hS hc hbs hL)
  | lor =>
    obtain rfl : len = 1 := by simpa [gLen] using hlen
    obtain ⟨b, a, r, rfl, k⟩ := hs
    exact lv_lor hx hb hd (k H locs cells slots ls L hI hS hc hbs hL)
  | lxor =>
    obtain rfl : len = 1 := by simpa [gLen] using hlen
    obtain ⟨b, a, r, rfl, k⟩ := hs
    exact lv_lxor hx hb hd (k H locs cells slots ls L hI hS hc hbs hL)
  | idiv =>
    obtain rfl : len = 1 := by simpa [gLen] using hlen
    obtain ⟨b, a, r, rfl, hne, k⟩ := hs
    exact lv_idiv hx hb hd hne (k H locs cells slots ls L hI hS hc hbs hL)
  | irem =>
    obtain rfl : len = 1 := by simpa [gLen] using hlen
    obtain ⟨b, a, r, rfl, hne, k⟩ := hs
    exact lv_irem hx hb hd hne (k H locs cells slots ls L hI hS hc hbs hL)
  | lshl =>
    obtain rfl : len = 1 := by simpa [gLen] using hlen
    obtain ⟨b, a, r, rfl, k⟩ := hs
    exact lv_lshl hx hb hd rfl (k H locs cells slots ls L hI hS hc hbs hL)
  | lushr =>
    obtain rfl : len = 1 := by simpa [gLen] using hlen
    obtain ⟨b, a, r, rfl, k⟩ := hs
    exact lv_lushr hx hb hd rfl (k H locs cells slots ls L hI hS hc hbs hL)
  | lcmp =>
    obtain rfl : len = 1 := by simpa [gLen] using hlen
    obtain ⟨b, a, r, rfl, k⟩ := hs
    exact W.lcmp hx hb hd (k H locs cells slots ls L hI hS hc hbs hL)
  | i2l =>
    obtain rfl : len = 1 := by simpa [gLen] using hlen
    obtain ⟨a, r, rfl, k⟩ := hs
    exact lv_i2l hx hb hd rfl (k H locs cells slots ls L hI hS hc hbs hL)
  | l2i =>
    obtain rfl : len = 1 := by simpa [gLen] using hlen
    obtain ⟨a, r, rfl, k⟩ := hs
    exact lv_l2i hx hb hd rfl (k H locs cells slots ls L hI hS hc hbs hL)
  | i2d =>
    obtain rfl : len = 1 := by simpa [gLen] using hlen
    obtain ⟨a, r, rfl, k⟩ := hs
    exact lv_i2d hx hb hd (k H locs cells slots ls L hI hS hc hbs hL)
  | ddiv =>
    obtain rfl : len = 1 := by simpa [gLen] using hlen
    obtain ⟨b, a, r, rfl, hne, k⟩ := hs
    exact lv_ddiv hx hb hd hne (k H locs cells slots ls L hI hS hc hbs hL)
  | dcmp op =>
    obtain rfl : len = 1 := by simpa [gLen] using hlen
    obtain ⟨b, a, r, rfl, k⟩ := hs
    exact lv_dcmp hx hb hd (k H locs cells slots ls L hI hS hc hbs hL)
  | dup =>
    obtain rfl : len = 1 := by simpa [gLen] using hlen
    obtain ⟨v, r, rfl, hv, k⟩ := hs
    exact lv_dup hx hb hd hv (k H locs cells slots ls L hI hS hc hbs hL)
  | dup2 =>
    obtain rfl : len = 1 := by simpa [gLen] using hlen
    obtain ⟨v, w, r, rfl, hv, hw, k⟩ := hs
    exact lv_dup2_11 hx hb hd hv hw (k H locs cells slots ls L hI hS hc hbs hL)
  | pop =>
    obtain rfl : len = 1 := by simpa [gLen] using hlen
    obtain ⟨v, r, rfl, hv, k⟩ := hs
    exact lv_pop hx hb hd hv (k H locs cells slots ls L hI hS hc hbs hL)
  | goto off =>
    obtain rfl : len = 3 := by simpa [gLen] using hlen
    obtain ⟨t, ht, k⟩ := hs
    exact lv_goto hx hb hd ht (k H locs cells slots ls L hI hS hc hbs hL)
  | ifCond cn off =>
    obtain rfl : len = 3 := by simpa [gLen] using hlen
    obtain ⟨x, r, t, rfl, ht, kt, kf⟩ := hs
    cases cn with
    | eq => exact lv_if_eq hx hb hd ht (fun q => kt q H locs cells slots ls L hI hS hc hbs hL) (fun q => kf q H locs cells slots ls L hI hS hc hbs hL)
    | ne => exact lv_if_ne hx hb hd ht (fun q => kt q H locs cells slots ls L hI hS hc hbs hL) (fun q => kf (fun z => z q) H locs cells slots ls L hI hS hc hbs hL)
    | lt => exact lv_if_lt hx hb hd ht (fun q => kt q H locs cells slots ls L hI hS hc hbs hL) (fun q => kf q H locs cells slots ls L hI hS hc hbs hL)
    | ge => exact lv_if_ge hx hb hd ht (fun q => kt q H locs cells slots ls L hI hS hc hbs hL) (fun q => kf q H locs cells slots ls L hI hS hc hbs hL)
    | gt => exact lv_if_gt hx hb hd ht (fun q => kt q H locs cells slots ls L hI hS hc hbs hL) (fun q => kf q H locs cells slots ls L hI hS hc hbs hL)
    | le => exact lv_if_le hx hb hd ht (fun q => kt q H locs cells slots ls L hI hS hc hbs hL) (fun q => kf q H locs cells slots ls L hI hS hc hbs hL)
  | if_icmp cn off =>
    obtain rfl : len = 3 := by simpa [gLen] using hlen
    obtain ⟨b, a, r, t, rfl, ht, kt, kf⟩ := hs
    cases cn with
    | eq => exact lv_icmp_eq hx hb hd ht (fun q => kt q H locs cells slots ls L hI hS hc hbs hL) (fun q => kf q H locs cells slots ls L hI hS hc hbs hL)
    | ne => exact lv_icmp_ne hx hb hd ht (fun q => kt q H locs cells slots ls L hI hS hc hbs hL) (fun q => kf (fun z => z q) H locs cells slots ls L hI hS hc hbs hL)
    | lt => exact lv_icmp_lt hx hb hd ht (fun q => kt q H locs cells slots ls L hI hS hc hbs hL) (fun q => kf q H locs cells slots ls L hI hS hc hbs hL)
    | ge => exact lv_icmp_ge hx hb hd ht (fun q => kt q H locs cells slots ls L hI hS hc hbs hL) (fun q => kf q H locs cells slots ls L hI hS hc hbs hL)
    | gt => exact lv_icmp_gt hx hb hd ht (fun q => kt q H locs cells slots ls L hI hS hc hbs hL) (fun q => kf q H locs cells slots ls L hI hS hc hbs hL)
    | le => exact lv_icmp_le hx hb hd ht (fun q => kt q H locs cells slots ls L hI hS hc hbs hL) (fun q => kf q H locs cells slots ls L hI hS hc hbs hL)
  | tableswitch dflt lo hi offs =>
    obtain ⟨x, r, rfl, k1, k2⟩ := hs
    by_cases h1 : x.toInt < lo
    · obtain ⟨t, ht, k⟩ := k1 (Or.inl h1)
      exact lv_tableOut hx hb hd (Or.inl h1) ht (k H locs cells slots ls L hI hS hc hbs hL)
    · by_cases h2 : hi < x.toInt
      · obtain ⟨t, ht, k⟩ := k1 (Or.inr h2)
        exact lv_tableOut hx hb hd (Or.inr h2) ht (k H locs cells slots ls L hI hS hc hbs hL)
      · obtain ⟨off, t, ho, ht, k⟩ := k2 h1 h2
        exact lv_tableIn hx hb hd h1 h2 ho ht (k H locs cells slots ls L hI hS hc hbs hL)
  | getfield idx =>
    obtain rfl : len = 3 := by simpa [gLen] using hlen
    obtain ⟨a, r, ci, k0, ty, fin, fs, v, rfl, hf, ha, hv, k⟩ := hs
    obtain ⟨C0, T, N, h1, h2, h3, h4, h5, h6⟩ := hf
    obtain ⟨i, hi⟩ := hI.get ha
    obtain ⟨f1, ⟨ty0, f2⟩, f3⟩ := gCl_facts ci C0 T N h1
    rcases h6 with h6 | ⟨host, h6⟩
    · exact va_get (Ts := gGood) hx hb hts (fun w hw => gGood_in (f1 w hw).1 (f1 w hw).2) hown hK hI.2.1 i hi h1 k0 h2 (gw _ h6 rfl) (fun _ h9 => by rw [h5] at h9; exact h9) hv hd (k H locs cells slots ls L hI hS hc hbs hL)
    · exact va_getN (Ts := gGood) hx hb hts (fun w hw => gGood_in (f1 w hw).1 (f1 w hw).2) hown hK hI.2.1 i hi h1 k0 h2 (va_Nw.use rfl (hE.1 _ h6 rfl)) (fun _ h9 => by rw [h5] at h9; exact h9) hv hd (k H locs cells slots ls L hI hS hc hbs hL)
  | putfield idx =>
    obtain rfl : len = 3 := by simpa [gLen] using hlen
    obtain ⟨v, a, r, ci, k0, ty, fin, fs, rfl, hf, hfin, ha, hl, hnw, hft, k⟩ := hs
    obtain ⟨C0, T, N, h1, h2, h3, h4, h5, h6⟩ := hf
    obtain ⟨i, hi⟩ := hI.get ha
    obtain ⟨f1, ⟨ty0, f2⟩, f3⟩ := gCl_facts ci C0 T N h1
    have kk : ∀ (H1 : Heap) (locs1 : List Loc), va_P D vwCl ((va_pl L (gF dT h)).set i (a, .inr (ci, fs.set k0 v))) H1 → va_D A ((va_pl L (gF dT h)).set i (a, .inr (ci, fs.set k0 v))) → va_S A s.heap H1 locs1 → W p l e R s m args below meth c H1 locs1 cells slots Q (F0 m (pc + 3) ls r) :=
      fun H1 locs1 hP hD hS1 => k H1 locs1 cells slots ls L (hI.set (o' := .inr (ci, fs.set k0 v)) ha hi hP hD) hS1 hc hbs hL
    have hq : ∀ w ∈ u_ws C0 T N, w ∈ gGood := fun w hw => gGood_in (f1 w hw).1 (f1 w hw).2
    cases fin with
    | false =>
      rcases h6 with h6 | ⟨host, h6⟩
      · exact va_put (Ts := gGood) hx hb hts hq ty0 f2 f3 hown hK hI.2.1 hI.2.2.1 hS i hi h1 k0 h2 (gw _ h6 rfl) (fun _ h9 => by rw [h5] at h9; exact h9) h4 h3 hnw hft hl hd kk
      · exact va_putN (Ts := gGood) hx hb hts hq ty0 f2 f3 hown hK hI.2.1 hI.2.2.1 hS i hi h1 k0 h2 (va_Nw.use rfl (hE.1 _ h6 rfl)) (fun _ h9 => by rw [h5] at h9; exact h9) h4 h3 hnw hft hl hd kk
    | true =>
      rcases hfin with hfin | ⟨hi1, T2, N2, hi2⟩
      · cases hfin
      · have he : C0 = y.1.cls := by rw [h1] at hi2; exact congrArg (fun q : vw_C => q.1) (Option.some.inj hi2)
        rcases h6 with h6 | ⟨host, h6⟩
        · exact va_putF (Ts := gGood) hx hb hts hq ty0 f2 f3 hown hK hI.2.1 hI.2.2.1 hS i hi h1 k0 h2 (gw _ h6 rfl) (fun _ h9 => by rw [h5] at h9; exact h9) h4 (hin hi1) (h5.trans he) h3 hnw hft hl hd kk
        · exact absurd (gNestF _ h6) (by rw [← he]; simp [gNestBad])
  | iaload =>
    obtain rfl : len = 1 := by simpa [gLen] using hlen
    obtain ⟨i, a, r, n, f, rfl, ha, hi, k⟩ := hs
    rcases ha with ha | ha
    · obtain ⟨q, hq⟩ := hI.get ha
      exact va_iald hx hb hK hI.2.1 q 0 hq rfl hi hd (k H locs cells slots ls L hI hS hc hbs hL)
    · obtain ⟨g1, g2, g3⟩ := hro a n f ha
      exact va_sld hx hb g1 g2 g3 hS hi hd (k H locs cells slots ls L hI hS hc hbs hL)
  | baload =>
    obtain rfl : len = 1 := by simpa [gLen] using hlen
    obtain ⟨i, a, r, n, f, rfl, ha, hi, k⟩ := hs
    obtain ⟨q, hq⟩ := hI.get ha
    exact va_zald hx hb hK hI.2.1 q 1 hq rfl hi hd (k H locs cells slots ls L hI hS hc hbs hL)
  | iastore =>
    obtain rfl : len = 1 := by simpa [gLen] using hlen
    obtain ⟨x, i, a, r, n, f, rfl, ha, hi, k⟩ := hs
    obtain ⟨q, hq⟩ := hI.get ha
    exact va_iast hx hb hK hI.2.1 hI.2.2.1 hS q 0 hq rfl hi hd (fun H1 locs1 hP hD hS1 => k H1 locs1 cells slots ls L (hI.set (o' := .inl (0, n, .inl (upd f i.toNatClampNeg x))) ha hq hP hD) hS1 hc hbs hL)
  | bastore =>
    obtain rfl : len = 1 := by simpa [gLen] using hlen
    obtain ⟨x, i, a, r, n, f, rfl, ha, hi, k⟩ := hs
    obtain ⟨q, hq⟩ := hI.get ha
    exact va_zast hx hb hK hI.2.1 hI.2.2.1 hS q 1 hq rfl hi hd (fun H1 locs1 hP hD hS1 => k H1 locs1 cells slots ls L (hI.set (o' := .inl (1, n, .inl (upd f i.toNatClampNeg (vp_nar .boolean x)))) ha hq hP hD) hS1 hc hbs hL)
  | arraylength =>
    obtain rfl : len = 1 := by simpa [gLen] using hlen
    obtain ⟨a, r, v, rfl, ha, k⟩ := hs
    rcases ha with ⟨t, x, ha, ht, hv⟩ | ⟨n, f, ha, hv⟩
    · obtain ⟨q, hq⟩ := hI.get ha (gRo_lt (by omega))
      have ht9 : ∃ ty : FieldType, (gTys dT)[t]? = some (dT t, ty) := by
        match t, ht with
        | 0, _ => exact ⟨_, rfl⟩
        | 1, _ => exact ⟨_, rfl⟩
        | 2, _ => exact ⟨_, rfl⟩
        | 3, _ => exact ⟨_, rfl⟩
        | 4, _ => exact ⟨_, rfl⟩
        | 5, _ => exact ⟨_, rfl⟩
      obtain ⟨ty, ht9⟩ := ht9
      exact va_alen hx hb hK hI.2.1 q t hq ht9 hv hd (k H locs cells slots ls L hI hS hc hbs hL)
    · obtain ⟨g1, g2, g3⟩ := hro a n f ha
      refine va_slen hx hb g1 g2 g3 hS hd ?_
      rw [hv]
      exact k H locs cells slots ls L hI hS hc hbs hL
  | newarray at_ =>
    obtain rfl : len = 2 := by simpa [gLen] using hlen
    obtain ⟨n, r, N, t, c0, rfl, hg, hn, hN, hN2, hc1, hs1, k⟩ := hs
    have go : ∀ (ty : FieldType), newarray.typeOf at_ = ty → Jvm.Cond.arrayClass (newarray.typeOf at_) ∈ lw_tbl → (∀ cA : ClassId, vp_cell cA (N, c0) = arrV cA N (fun _ => defaultValue ty)) → N * componentBytes ty ≤ 536870912 → (gTys dT)[t]? = some (dT t, ty) → (match ty with | .object _ => False | _ => True) → W p l e R s m args below meth c H locs cells slots Q (F0 m pc ls (.int n :: r)) := by
      intro ty hty hw hcell hbytes ht hno
      refine va_newa hx hb (gw _ hw rfl) hty hK hI.2.1 hI.2.2.1 hS hA hcell hn hN hbytes (by omega) (by omega) hd (fun q cA H1 hK1 hP hD hS1 => ?_)
      have hcA : cA = dT t := by
        have q1 := (hK1.2 (gTys dT).length (cA, ty) (by rw [List.getElem?_append_right (Nat.le_refl _)]; simp)).2
        have q2 := (hK.2 t (dT t, ty) ht).2
        cases ty with
        | object C => exact hno.elim
        | _ => exact Option.some.inj (q1.symm.trans q2)
      subst hcA
      obtain ⟨hn0, hI1⟩ := hI.new (o := .inl (t, N, c0)) hRO hP hD (by match t, ht with
        | 0, _ => rfl
        | 1, _ => rfl
        | 2, _ => rfl
        | 3, _ => rfl
        | 4, _ => rfl
        | 5, _ => rfl
        | t + 6, ht => cases ht)
      exact k q hn0 H1 locs (cells + 1) (slots + N) ls (L ++ [q]) hI1 hS1 (by omega) (by omega) hL
    cases at_ with
    | int => cases hg; exact go .int rfl gArI (fun cA => by first | rfl | exact vp_cell_i .. | simp [vp_cell, defaultValue]) (by simp [componentBytes]; omega) rfl trivial
    | boolean => cases hg; exact go .boolean rfl gArZ (fun cA => by first | rfl | exact vp_cell_i .. | simp [vp_cell, defaultValue]) (by simp [componentBytes]; omega) rfl trivial
    | _ => cases hg
  | new idx =>
    obtain rfl : len = 3 := by simpa [gLen] using hlen
    rcases hs with ⟨ci, C0, T, N, fs, h1, h2, h3, h4, ⟨h5, h5b⟩, h6, h7, k⟩ | ⟨E, h1, h2, h3, h4, h5, h6⟩
    · obtain ⟨f1, ⟨ty0, f2⟩, f3⟩ := gCl_facts ci C0 T N h1
      refine va_new (Ts := gGood) (fs := fs) hx hb hts (fun w hw => gGood_in (f1 w hw).1 (f1 w hw).2) ty0 f2 hown (gw _ h2 rfl) (gw _ h3 rfl) (gw _ h4 rfl) hK hI.2.1 hI.2.2.1 hS hA h1 (fun j hj => ?_) (by omega) (by omega) hd (fun q H1 hP hD hS1 => ?_)
      · obtain ⟨ty, e1, e2⟩ := h5b j hj
        rw [f2 j hj] at e1
        rw [Option.some.inj e1]
        exact e2
      · obtain ⟨hn0, hI1⟩ := hI.new (o := .inr (ci, fs)) hRO hP hD
        exact k q hn0 H1 locs (cells + 1) (slots + N) ls (L ++ [q]) hI1 hS1 (by omega) (by omega) hL
    · exact hnew E pc idx ls st h L H locs cells slots h1 hd h2 h5 h6 hI hS (by omega) (by omega) hL.1
  | invokespecial idx =>
    obtain rfl : len = 3 := by simpa [gLen] using hlen
    rcases hs with ⟨a, r, rfl, h1, h2, h3, k⟩ | ⟨z, n, as, a, r, mc, ms, hl, rfl, hn, hr, hmc, hms, hq⟩
    · refine W.objInit hx hb hown (gw _ h1 rfl) (gw _ gObjI rfl) (gw _ gObjC rfl) rfl (by rw [hml]; exact hL.1) rfl hd (by omega) ?_ ?_
      · have := hR.2
        have h3' : (r.map fun v => v.category).sum ≤ 8 := h3
        have hm0 : 2 * (F0 m pc ls (.ref a :: r)).monitorRoom + (r.map fun v => v.category).sum ≤ 8 := lv_room h3'
        omega
      · exact k H locs cells slots ls L hI hS hc hbs hL
    · exact gx_In C (hcall z _ h mc ms _ _ hl.1 hq) hl hI hS hn hr hL.1 ⟨by omega, by omega⟩ hd (kxx pc lv r mc ms hmc hms hL) (fun v h' L1 H1 locs1 hp hI1 hS1 => hp H1 locs1 _ _ ls L1 hI1 hS1 (by omega) (by omega) hL)
  | invokevirtual idx =>
    obtain rfl : len = 3 := by simpa [gLen] using hlen
    obtain ⟨z, n, ci, as, a, r, fs, mc, ms, hl, rfl, hn, ha, hr, hmc, hms, hq⟩ := hs
    exact gx_V C (hcall z _ h mc ms _ _ hl.1 hq) hl hI hS hn ha hr hL.1 ⟨by omega, by omega⟩ hd (kxx pc lv r mc ms hmc hms hL) (fun v h' L1 H1 locs1 hp hI1 hS1 => hp H1 locs1 _ _ ls L1 hI1 hS1 (by omega) (by omega) hL)
  | invokestatic idx =>
    obtain rfl : len = 3 := by simpa [gLen] using hlen
    rcases hs with ⟨z, n, as, r, mc, ms, hl, rfl, hn, hr, hmc, hms, hq⟩ | ⟨a, r, rfl, hw, hd1, hr, k⟩
    · exact gx_St C (hcall z _ h mc ms _ _ hl.1 hq) hl hI hS hn hr hL.1 ⟨by omega, by omega⟩ hd (kxx pc lv r mc ms hmc hms hL) (fun v h' L1 H1 locs1 hp hI1 hS1 => hp H1 locs1 _ _ ls L1 hI1 hS1 (by omega) (by omega) hL)
    · have hr' : (r.map fun v => v.category).sum ≤ 8 := hr
      exact va_mabs hx hb (by rw [hml]; exact hL.1.symm) hown (gw _ hw rfl) (gw _ gMi1 rfl) (gw _ gMi2 rfl) (gw _ gMi3 rfl) (by omega) (by omega) (by omega) (by omega) hd (k H locs cells slots ls L hI hS hc hbs hL)
  | anewarray idx =>
    obtain rfl : len = 3 := by simpa [gLen] using hlen
    obtain ⟨n, r, N, rfl, hw, hn, hN, hN2, hc1, hs1, k⟩ := hs
    refine va_newq hx hb hown (gw _ hw rfl) hE.2.2.2.2.2.2.2.2 hK hI.2.1 hI.2.2.1 hS hA hn hN (by omega) (by omega) (by omega) hd (fun q cA H1 hK1 hP hD hS1 => ?_)
    have hcA : cA = dT 5 := by
      obtain ⟨kA, comp, q1, q2, q3, q4⟩ := (hK1.2 (gTys dT).length (cA, .object "GhostCandlesLaw$Ghost") (by rw [List.getElem?_append_right (Nat.le_refl _)]; simp)).2
      obtain ⟨kB, comp2, r1, r2, r3, r4⟩ := (hK.2 5 (dT 5, .object "GhostCandlesLaw$Ghost") rfl).2
      exact Option.some.inj (q4.symm.trans r4)
    subst hcA
    obtain ⟨hn0, hI1⟩ := hI.new (o := .inl (5, N, .inr (.inr (.inr (.inr (fun _ => none)))))) hRO hP hD
    exact k q hn0 H1 locs (cells + 1) (slots + N) ls (L ++ [q]) hI1 hS1 (by omega) (by omega) hL
  | multianewarray idx dims =>
    obtain rfl : len = 4 := by simpa [gLen] using hlen
    have fresh : ∀ q : Nat, H.size ≤ q → h q = none := fun q hq => hI.none hq (fun x e => by
      obtain ⟨-, g3, -⟩ := hRk q x e
      have := hS.1
      omega)
    have spec : ∀ (ty : FieldType), gAO1 ty s → ∀ (t ti : Nat), (∃ cA, s.vm.findClass ("[" ++ (FieldType.array ty).toString) = some cA ∧ dT t = cA) → (∃ cA, s.vm.findClass (FieldType.array ty).toString = some cA ∧ dT ti = cA) → ∃ k : Class, s.vm.classes[dT t]? = some k ∧ k.kind = .array (dT ti) (.array ty) := by
      intro ty hO t ti ⟨c1, e1, g1⟩ ⟨c2, e2, g2⟩
      obtain ⟨comp, c9, kA, j1, -, j2, j3, j4⟩ := arrayOverA_spec hO
      subst g1; subst g2
      cases j4.symm.trans e1
      cases j1.symm.trans e2
      exact ⟨kA, j2, j3⟩
    have leaf : ∀ (ty : FieldType), Jvm.Cond.arrayClass ty ∈ lw_tbl → ∀ ti : Nat, s.vm.findClass ("[" ++ ty.toString) = some (dT ti) → ∃ (k : Class) (comp : ClassId), s.vm.classes[dT ti]? = some k ∧ k.kind = .array comp ty := by
      intro ty hw ti e
      obtain ⟨cA, kA, comp, j1, j2, j3⟩ := Cond.arrayClass_spec (gw _ hw rfl)
      cases j1.symm.trans e
      exact ⟨kA, comp, j2, j3⟩
    have mv : ∀ {vm₁ : Vm} {c9 : ClassId} {k9 : Class} {kd : Jvm.Kind}, s.vm.Alike vm₁ → s.vm.classes[c9]? = some k9 → k9.kind = kd → ∃ k8 : Class, vm₁.classes[c9]? = some k8 ∧ k8.kind = kd := by
      intro vm₁ c9 k9 kd hal e1 e2
      obtain ⟨k8, e3, e4⟩ := hal.2.2 _ _ e1
      exact ⟨k8, e3, by rw [e4]; exact e2⟩
    have hAsz : ∀ q : Nat, H.size ≤ q → A q := fun q hq => hA q (Nat.le_trans hS.1 hq)
    have hSx : ∀ (B : State → State) (nc ns : Nat) (u : State) (L9 : List Loc), mFx B nc ns → u.heap = H → (∀ x ∈ L9, H.size ≤ x.base) → va_S A s.heap (B u).heap (locs ++ L9) := by
      intro B nc ns u L9 hF hu hL9
      obtain ⟨b1, b2, b3, b4, b5⟩ := hF u
      rw [hu] at b2 b4
      refine ⟨by rw [b2]; exact Nat.le_trans hS.1 (by omega), fun x h1 h2 => (b4 x (Nat.lt_of_lt_of_le h1 hS.1)).trans (hS.2.1 x h1 h2), fun x hx9 => ?_⟩
      rcases List.mem_append.mp hx9 with hx9 | hx9
      · exact hS.2.2 x hx9
      · exact hAsz _ (hL9 x hx9)
    rcases hs with ⟨rfl, nm, t, ti, n, k0, r, N, M, rfl, hnm, hw, hn, hN, hk0, hM, hN2, hM2, hc1, hs1, k⟩ | ⟨rfl, n, k0, l0, r, N, M, P, rfl, hw, hn, hN, hk0, hM, hl0, hP0, hN2, hM2, hP2, hc1, hs1, k⟩
    · subst hN; subst hM
      have ht7 : t < 7 ∧ ti < 7 := by
        unfold gMN2 at hnm
        split at hnm
        · cases hnm; exact ⟨by decide, by decide⟩
        · cases hnm; exact ⟨by decide, by decide⟩
        · cases hnm
      obtain ⟨ht7, hti⟩ := ht7
      have go : ∀ (ty : FieldType), "[" ++ (FieldType.array ty).toString = nm → gAO1 ty s → Jvm.Cond.arrayClass ty ∈ lw_tbl → s.vm.findClass ("[" ++ (FieldType.array ty).toString) = some (dT t) → s.vm.findClass ("[" ++ ty.toString) = some (dT ti) → (FieldType.array ty).toString = "[" ++ ty.toString → componentBytes ty ≤ 4 → fits ty (defaultValue ty) = true → (∀ c9 : ClassId, vp_cell c9 (k0.toNatClampNeg, .inl (fun _ => 0)) = arrV c9 k0.toNatClampNeg (fun _ => defaultValue ty)) → W p l e R s m args below meth c H locs cells slots Q (F0 m pc ls (.int k0 :: .int n :: r)) := by
        intro ty hty hO hw2 hft hfi hts9 hcb hdf hcell
        have hF := mB1_fx (dT ti) k0.toNatClampNeg (fun _ => defaultValue ty)
        have hF2 := mBO_fxN hF (dT t) n.toNatClampNeg
        have hSt := mSt_O hF (mSt_1 (dT ti) k0.toNatClampNeg (fun _ => defaultValue ty)) (dT t) n.toNatClampNeg
        refine gx_mna2 hx hb hown (gw _ hw rfl) (by rw [← hty]; exact hft) hd (fun had vm₁ hal => ?_) hF2 hSt (by omega) (by omega) (fun u L9 hu hL9 => ?_)
        · obtain ⟨k1, q1, q2⟩ := spec ty hO t ti ⟨_, hft, rfl⟩ ⟨_, by rw [hts9]; exact hfi, rfl⟩
          obtain ⟨k2, comp, q3, q4⟩ := leaf ty hw2 ti hfi
          obtain ⟨k3, q5, q6⟩ := mv hal q1 q2
          obtain ⟨k4, q7, q8⟩ := mv hal q3 q4
          have hb2 : k0.toNatClampNeg * componentBytes ty ≤ 1000 * 4 := Nat.mul_le_mul hM2 hcb
          have hb3 : n.toNatClampNeg * componentBytes (.array ty) ≤ 1000 * 4 := Nat.mul_le_mul hN2 (Nat.le_refl 4)
          exact mWp_O hF (mWp_1 q7 q8 hk0 (by rw [Launch.admits_arrayLengthLimit had]; omega) (by rw [Launch.admits_maxHeapBytes had]; omega) hdf) q5 q6 rfl hn (by simp [hk0]) (by rw [Launch.admits_arrayLengthLimit had]; omega) (by rw [Launch.admits_maxHeapBytes had]; omega)
        · have hG : mGI D dT (fun u => u.pushCell (arrV (dT ti) k0.toNatClampNeg (fun _ => defaultValue ty))) (fun h q => gU h q (.inl (ti, k0.toNatClampNeg, .inl (fun _ => 0)))) := by
            have := mGI_1 (D := D) (dT := dT) ti k0.toNatClampNeg hti
            rw [hcell] at this
            exact this
          obtain ⟨L', hI1⟩ := mGI_O hF hG (fun h a q hq => gU_ne (Nat.ne_of_lt hq)) t n.toNatClampNeg ht7 A RO L h u (by rw [hu]; exact hI) (by rw [hu]; exact hAsz) hRO
          simp only [gGO_2, hu] at hI1
          have e9 : n.toNatClampNeg * 1 = n.toNatClampNeg := Nat.mul_one _
          exact k H.size (fun j _ => fresh _ (by omega)) _ _ _ _ ls L' hI1 (hSx _ _ _ u L9 hF2 hu hL9) (by omega) (by omega) hL
      unfold gMN2 at hnm
      split at hnm
      · cases hnm
        exact go .int rfl hE.2.2.2.2.2.1 gArI (hK.2 2 (dT 2, .array .int) rfl).2 (hK.2 0 (dT 0, .int) rfl).2 rfl (by decide) rfl (fun c9 => rfl)
      · cases hnm
        exact go .boolean rfl hE.2.2.2.2.2.2.1 gArZ (hK.2 3 (dT 3, .array .boolean) rfl).2 (hK.2 1 (dT 1, .boolean) rfl).2 rfl (by decide) rfl (fun c9 => rfl)
      · cases hnm
    · subst hN; subst hM; subst hP0
      have hF := mB1_fx (dT 1) l0.toNatClampNeg (fun _ => defaultValue .boolean)
      have hF2 := mBO_fxN hF (dT 3) k0.toNatClampNeg
      have hF3 := mBO_fxN hF2 (dT 4) n.toNatClampNeg
      have hSt2 := mSt_O hF (mSt_1 (dT 1) l0.toNatClampNeg (fun _ => defaultValue .boolean)) (dT 3) k0.toNatClampNeg
      have hSt := mSt_O hF2 hSt2 (dT 4) n.toNatClampNeg
      have e1 : 1 + k0.toNatClampNeg * 1 = k0.toNatClampNeg + 1 := by omega
      have hft4 := (hK.2 4 (dT 4, .array (.array .boolean)) rfl).2
      have hft3 := (hK.2 3 (dT 3, .array .boolean) rfl).2
      have hft1 := (hK.2 1 (dT 1, .boolean) rfl).2
      refine gx_mna3 hx hb hown (gw _ hw rfl) (cA := dT 4) hft4 hd (fun had vm₁ hal => ?_) hF3 hSt (by rw [e1]; omega) (by omega) (fun u L9 hu hL9 => ?_)
      · obtain ⟨k1, q1, q2⟩ := spec .boolean hE.2.2.2.2.2.2.1 3 1 ⟨_, hft3, rfl⟩ ⟨_, hft1, rfl⟩
        obtain ⟨k5, q9, q10⟩ := spec (.array .boolean) hE.2.2.2.2.2.2.2.1 4 3 ⟨_, hft4, rfl⟩ ⟨_, hft3, rfl⟩
        obtain ⟨k2, comp, q3, q4⟩ := leaf .boolean gArZ 1 hft1
        obtain ⟨k3, q5, q6⟩ := mv hal q1 q2
        obtain ⟨k4, q7, q8⟩ := mv hal q3 q4
        obtain ⟨k6, q11, q12⟩ := mv hal q9 q10
        have c1 : l0.toNatClampNeg * componentBytes .boolean ≤ 100 * 1 := Nat.mul_le_mul hP2 (Nat.le_refl _)
        have c2 : k0.toNatClampNeg * componentBytes (.array .boolean) ≤ 100 * 4 := Nat.mul_le_mul hM2 (Nat.le_refl _)
        have c3 : n.toNatClampNeg * componentBytes (.array (.array .boolean)) ≤ 100 * 4 := Nat.mul_le_mul hN2 (Nat.le_refl _)
        have w1 := mWp_1 (e := e) q7 q8 hl0 (by rw [Launch.admits_arrayLengthLimit had]; omega) (by rw [Launch.admits_maxHeapBytes had]; omega) rfl
        have w2 := mWp_O hF w1 q5 q6 rfl hk0 (by simp [hl0]) (by rw [Launch.admits_arrayLengthLimit had]; omega) (by rw [Launch.admits_maxHeapBytes had]; omega)
        exact mWp_O hF2 w2 q11 q12 rfl hn (by simp [hl0, hk0]) (by rw [Launch.admits_arrayLengthLimit had]; omega) (by rw [Launch.admits_maxHeapBytes had]; omega)
      · have hG : mGI D dT (fun u => u.pushCell (arrV (dT 1) l0.toNatClampNeg (fun _ => defaultValue .boolean))) (fun h q => gU h q (.inl (1, l0.toNatClampNeg, .inl (fun _ => 0)))) := mGI_1 (D := D) (dT := dT) 1 l0.toNatClampNeg (by decide)
        have hG2 := mGI_O hF hG (fun h a q hq => gU_ne (Nat.ne_of_lt hq)) 3 k0.toNatClampNeg (by decide)
        simp only [gGO_2] at hG2
        obtain ⟨L', hI1⟩ := mGI_O hF2 hG2 (fun h a q hq => by
          unfold gG2
          rw [if_neg (by omega), if_neg (by omega)]) 4 n.toNatClampNeg (by decide) A RO L h u (by rw [hu]; exact hI) (by rw [hu]; exact hAsz) hRO
        simp only [e1, gGO_3, hu] at hI1
        have hS9 := hSx _ _ _ u L9 hF3 hu hL9
        simp only [e1] at hS9 ⊢
        exact k H.size (fun j _ => fresh _ (by omega)) _ _ _ _ ls L' hI1 hS9 (by omega) (by omega) hL
  | aastore =>
    obtain rfl : len = 1 := by simpa [gLen] using hlen
    obtain ⟨v, i, a, r, n, f, fs, rfl, ha, hv, hi, k⟩ := hs
    obtain ⟨q0, hq0⟩ := hI.get ha
    obtain ⟨q1, hq1⟩ := hI.get hv
    exact va_astq hx hb hK hI.2.1 hI.2.2.1 hS q0 5 q1 5 hq0 rfl hq1 rfl hi hd (fun H1 locs1 hP hD hS1 => k H1 locs1 cells slots ls L (hI.set (o' := .inl (5, n, .inr (.inr (.inr (.inr (va_up f i.toNatClampNeg (some v))))))) ha hq0 hP hD) hS1 hc hbs hL)
  | aaload =>
    obtain rfl : len = 1 := by simpa [gLen] using hlen
    obtain ⟨i, a, r, t, n, f, v, rfl, ha, ht2, ht6, hi, hv, k⟩ := hs
    obtain ⟨q0, hq0⟩ := hI.get ha (gRo_lt (by omega))
    have hlt : i.toNatClampNeg < n := Nat.not_le.mp fun q => hi (Or.inr q)
    have go : ∀ ty : FieldType, (gTys dT)[t]? = some (dT t, ty) → ty.isReference = true → W p l e R s m args below meth c H locs cells slots Q (F0 m pc ls (.int i :: .ref a :: r)) := fun ty hty hrf =>
      W.aald (v := .ref v) (ty := ty) hx hb (hI.2.1 q0 _ hq0) ((hK.2 t (dT t, ty) hty).1 n (fun j => va_rf (f j))) hrf (fun q => by cases q) (by show ¬ (i < 0 ∨ (arrV _ _ _).slots.size ≤ _); rw [arrV_size]; exact hi) (by show (arrV _ _ _).slots[_]? = _; rw [arrV_read _ _ hlt, hv]; rfl) rfl rfl hd (k H locs cells slots ls L hI hS hc hbs hL)
    match t, ht2, ht6 with
    | 2, _, _ => exact go _ rfl rfl
    | 3, _, _ => exact go _ rfl rfl
    | 4, _, _ => exact go _ rfl rfl
    | 5, _, _ => exact go _ rfl rfl
  | ishr =>
    obtain rfl : len = 1 := by simpa [gLen] using hlen
    obtain ⟨b, a, r, rfl, k⟩ := hs
    exact lv_ishr hx hb hd (k H locs cells slots ls L hI hS hc hbs hL)
  | ldc n =>
    obtain rfl : len = 2 := by simpa [gLen] using hlen
    obtain ⟨v, hw, k⟩ := hs
    exact lv_ldc hx hb hown (gw _ hw rfl) hd (k H locs cells slots ls L hI hS hc hbs hL)
  | ifnonnull off =>
    obtain rfl : len = 3 := by simpa [gLen] using hlen
    obtain ⟨a, r, t, rfl, ht, k⟩ := hs
    exact lv_ifnonnull hx hb hd ht (k H locs cells slots ls L hI hS hc hbs hL)
  | areturn =>
    obtain rfl : len = 1 := by simpa [gLen] using hlen
    obtain ⟨a, ty, rfl, h1, h2, h3⟩ := hs
    exact W.widen (by omega) (by omega) (hret .areturn (some (.ref a)) pc ls h L H locs (Or.inr (Or.inr (Or.inr (Or.inr ⟨rfl, a, ty, rfl, h1, h2⟩)))) hd h3 hI hS)
  | ireturn =>
    obtain rfl : len = 1 := by simpa [gLen] using hlen
    obtain ⟨x, ty, rfl, h1, h2, h3⟩ := hs
    exact W.widen (by omega) (by omega) (hret .ireturn (some (.int x)) pc ls h L H locs (Or.inl ⟨rfl, x, ty, rfl, h1, h2⟩) hd h3 hI hS)
  | lreturn =>
    obtain rfl : len = 1 := by simpa [gLen] using hlen
    obtain ⟨x, rfl, h1, h3⟩ := hs
    exact W.widen (by omega) (by omega) (hret .lreturn (some (.long x)) pc ls h L H locs (Or.inr (Or.inl ⟨rfl, x, rfl, h1⟩)) hd h3 hI hS)
  | dreturn =>
    obtain rfl : len = 1 := by simpa [gLen] using hlen
    obtain ⟨x, rfl, h1, h3⟩ := hs
    exact W.widen (by omega) (by omega) (hret .dreturn (some (.double x)) pc ls h L H locs (Or.inr (Or.inr (Or.inl ⟨rfl, x, rfl, h1⟩))) hd h3 hI hS)
  | return_ =>
    obtain rfl : len = 1 := by simpa [gLen] using hlen
    obtain ⟨rfl, h1, h3⟩ := hs
    exact W.widen (by omega) (by omega) (hret .return_ none pc ls h L H locs (Or.inr (Or.inr (Or.inr (Or.inl ⟨rfl, rfl, h1⟩)))) hd h3 hI hS)
  | _ => exact hs.elim
end GXS
