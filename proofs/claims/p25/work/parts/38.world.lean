/-! the class and the law's own house beside each other -/
theorem ClsAt.keep {h h' : gH} {a : Nat} {n n' : Nat → Nat} {S : CS} (C : ClsAt h a n n' S) (ea : h' a = h a) (en : ∀ i, i < 7 → h' (n i) = h (n i)) (en' : ∀ i, i < 7 → h' (n' i) = h (n' i)) : ClsAt h' a n n' S := by
  obtain ⟨c1, c2, ⟨S2, c3⟩, c4⟩ := C
  exact ⟨ea.trans c1, c2.keep en, ⟨S2, c3.keep en'⟩, c4⟩
theorem cS_mem {n n' : Nat → Nat} {q : Nat} (h : q ∈ cS n n') : ∃ i, i < 7 ∧ (q = n i ∨ q = n' i) := by
  rcases List.mem_append.mp h with h | h
  · obtain ⟨i, hi, e⟩ := nS_mem h
    exact ⟨i, hi, Or.inl e⟩
  · obtain ⟨i, hi, e⟩ := nS_mem h
    exact ⟨i, hi, Or.inr e⟩
/-- an address that is none of the class's -/
def oC (a : Nat) (n n' : Nat → Nat) (p : Nat) : Prop := p ≠ a ∧ ∀ i, i < 7 → p ≠ n i ∧ p ≠ n' i
theorem ClsAt.th {h : gH} {a : Nat} {n n' : Nat → Nat} {S : CS} (C : ClsAt h a n n' S) {p : Nat} (hp : h p = none) : oC a n n' p := by
  refine ⟨fun z => ?_, fun i hi => ⟨fun z => ?_, fun z => ?_⟩⟩
  · rw [z, C.1] at hp; cases hp
  · obtain ⟨x, e⟩ := NightAt.there C.2.1 i hi
    rw [z, e] at hp; cases hp
  · obtain ⟨S2, N2⟩ := C.2.2.1
    obtain ⟨x, e⟩ := NightAt.there N2 i hi
    rw [z, e] at hp; cases hp
theorem oC.out {a : Nat} {n n' : Nat → Nat} {p : Nat} (o : oC a n n' p) : p ∉ cS n n' := fun hm => by
  obtain ⟨i, hi, e | e⟩ := cS_mem hm
  · exact (o.2 i hi).1 e
  · exact (o.2 i hi).2 e
theorem ClsAt.off {h h' : gH} {a : Nat} {n n' : Nat → Nat} {S : CS} (C : ClsAt h a n n' S) (k : ∀ p, ¬ oC a n n' p → h p ≠ none → h' p = h p) : ClsAt h' a n n' S := by
  obtain ⟨S2, N2⟩ := C.2.2.1
  refine C.keep (k a (fun z => z.1 rfl) (by rw [C.1]; exact fun z => nomatch z)) (fun i hi => ?_) (fun i hi => ?_)
  · obtain ⟨x, e⟩ := NightAt.there C.2.1 i hi
    exact k _ (fun z => (z.2 i hi).1 rfl) (by rw [e]; exact fun z => nomatch z)
  · obtain ⟨x, e⟩ := NightAt.there N2 i hi
    exact k _ (fun z => (z.2 i hi).2 rfl) (by rw [e]; exact fun z => nomatch z)
def Dj (a : Nat) (n n' m : Nat → Nat) (k : Nat) : Prop := ∀ p, sD m k p → oC a n n' p
theorem ClsAt.sim {h h' : gH} {a : Nat} {n n' m : Nat → Nat} {S : CS} {k : Nat} (C : ClsAt h a n n' S) (D : Dj a n n' m k) (F : sFr m k h h') : ClsAt h' a n n' S := C.off (fun p hp hn => F p (fun z => hp (D p z)) hn)
theorem ClsAt.nw {h h' : gH} {a : Nat} {n n' : Nat → Nat} {S : CS} (C : ClsAt h a n n' S) (F : gNw [] h h') : ClsAt h' a n n' S := C.off (fun p _ hn => F p (fun z => nomatch z) hn)
theorem SimAt.cls {h h' : gH} {a : Nat} {n n' m : Nat → Nat} {S : CS} (M : SimAt h m S) (D : Dj a n n' m (8 + S.2.2.2.1)) (F : gFr (cS n n') h h') : SimAt h' m S := M.keep (fun p hp => F p (D p hp).out)
theorem Z2.th {h : gH} {q : Nat} {F : Nat → Bool} (Z : Z2 h q F) {p : Nat} (h1 : q ≤ p) (h2 : p < q + 10) : h p ≠ none := by
  by_cases e : p = q
  · rw [e, Z.1]; exact fun z => nomatch z
  · obtain ⟨f, e1, -⟩ := Z.2 (p - q - 1) (by omega)
    rw [show q + 1 + (p - q - 1) = p by omega] at e1
    rw [e1]; exact fun z => nomatch z
/-- both, and a block of light -/
def SW (h : gH) (a : Nat) (n n' m : Nat → Nat) (S : CS) (q : Nat) : Prop := ClsAt h a n n' S ∧ SimAt h m S ∧ Z2 h q (lb (relit S.1))
theorem SW.cls {h h' : gH} {a : Nat} {n n' m : Nat → Nat} {S : CS} {q : Nat} (W : SW h a n n' m S q) (D : Dj a n n' m (8 + S.2.2.2.1)) (O : ∀ p, q ≤ p → p < q + 10 → oC a n n' p) (C : ClsAt h' a n n' S) (F : gFr (cS n n') h h') : SW h' a n n' m S q := ⟨C, W.2.1.cls D F, W.2.2.keep (fun p p1 p2 => F p (O p p1 p2).out)⟩
theorem SW.nw {h h' : gH} {a : Nat} {n n' m : Nat → Nat} {S : CS} {q : Nat} (W : SW h a n n' m S q) (F : gNw [] h h') : SW h' a n n' m S q := ⟨W.1.nw F, W.2.1.nw F, W.2.2.keep (fun p p1 p2 => F p (fun z => nomatch z) (W.2.2.th p1 p2))⟩
theorem gDone_of {Post : Option Value → gH → Prop} {X : String → gH → Prop} {a : Nat} {n n' : Nat → Nat} {h : gH} {r : gAns} {v : Int32} {S' : CS} (e : r = (vI v, S')) (k : ∀ h', ClsAt h' a n n' S' → gFr (cS n n') h h' → Post (some (.int v)) h') : gDone Post X a n n' h r := by
  subst e
  exact k
/-- a row of numbers, new -/
theorem s_newI {call : gC} {y : gM} {d : Nat} {Post : Option Value → gH → Prop} {X : String → gH → Prop} {ro : Nat → Option (Nat × (Nat → Int32))} {K : gK} {pc : Nat} {lv : gL} {r : List Value} {h : gH} {bc bs : Nat} (hK : gClosed call y d Post X ro K) {N : Nat} (dd : decode y.2.1 pc = .ok (.newarray .int, 2)) (hN : N ≤ 1000) (hc : 1 ≤ bc) (hs : N ≤ bs) (k : ∀ (t : Nat) h', h t = none → gNw [] h h' → h' t = some (.inl (0, N, .inl (fun _ => 0))) → K (pc + 2) lv (.ref t :: r) h' (bc - 1) (bs - N)) : K pc lv (.int (nI N) :: r) h bc bs := by
  refine s_newarray hK (N := N) dd rfl (nI_pos (by omega)) (nI_clamp (by omega)) (by omega) hc hs (fun q hq => ?_)
  exact k q _ hq (gNw.new hq _) (gU_eq _ _ _)
theorem s_tst {call : gC} {y : gM} {d : Nat} {Post : Option Value → gH → Prop} {X : String → gH → Prop} {ro : Nat → Option (Nat × (Nat → Int32))} {K : gK} {pc : Nat} {lv : gL} {r : List Value} {h h1 : gH} {bc bs : Nat} (hK : gClosed call y d Post X ro K) {t n j : Nat} {x : Int32} {f : Nat → Int32} (dd : decode y.2.1 pc = .ok (.iastore, 1)) (tt : h1 t = none) (F : gNw [] h1 h) (A : h t = some (.inl (0, n, .inl f))) (hj : j < n) (hn : n < 2 ^ 31) (k : ∀ h', gNw [] h1 h' → h' t = some (.inl (0, n, .inl (upd f j x))) → K (pc + 1) lv r h' bc bs) : K pc lv (.int x :: .int (nI j) :: .ref t :: r) h bc bs := by
  refine s_iastoreN hK dd A hj hn ?_
  exact k _ (gNw.set2 F tt _) (gU_eq _ _ _)
