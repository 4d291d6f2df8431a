/-! the law: its world, its script -/
theorem mean_tb : ∀ b : Fin 6, ∀ a : Fin 600, vf_n64 (FP.ddiv (FP.i2d (nI a.val)) (FP.i2d (nI (b.val + 1)))) := by
  unfold vf_n64
  decide +kernel
theorem sumMk_N {L : Nat → Int64} {am : Nat → Int32} (T : InvT L am) : ∀ n, n ≤ 63 → ∃ s, s ≤ 99 * cntG (lb (L 4)) n ∧ sumMk L am n = nI s
  | 0, _ => ⟨0, Nat.zero_le _, rfl⟩
  | n + 1, h => by
    obtain ⟨s, h1, h2⟩ := sumMk_N T n (by omega)
    rw [cntG_succ]
    show ∃ s, _ ∧ (if lb (L 4) n then sumMk L am n + am n else sumMk L am n) = nI s
    cases e : lb (L 4) n with
    | false => exact ⟨s, by simpa using h1, by simpa using h2⟩
    | true =>
      obtain ⟨v, v1, v2, -⟩ := T.2.2.2.2.2 n (by omega)
      refine ⟨s + v, ?_, ?_⟩
      · simp
        omega
      · rw [if_pos rfl, h2, v2, nI_add]
theorem mean_n {S : CS} {i : Nat} (C : InvC S i) : iPop (S.1 4) ≠ 0 → vf_n64 (FP.ddiv (FP.i2d (sumMk S.1 S.2.1 63)) (FP.i2d (iPop (S.1 4)))) := by
  obtain ⟨V, -, -, -, c6, -⟩ := C
  have T := V.2.2.1
  have ep := pop63 (SB_of T (k := 4) (by omega))
  have ec : cntG (inT S.1 4 4) 63 = cntG (lb (S.1 4)) 63 := cntG_cong (fun j _ => in44 T j)
  obtain ⟨s, h1, h2⟩ := sumMk_N T 63 (Nat.le_refl _)
  rw [ep, h2]
  intro hne
  have c0 : cntG (lb (S.1 4)) 63 ≠ 0 := fun z => hne (by rw [z]; rfl)
  have r := mean_tb ⟨cntG (lb (S.1 4)) 63 - 1, by omega⟩ ⟨s, by omega⟩
  have r : vf_n64 (FP.ddiv (FP.i2d (nI s)) (FP.i2d (nI (cntG (lb (S.1 4)) 63 - 1 + 1)))) := r
  rw [show cntG (lb (S.1 4)) 63 - 1 + 1 = cntG (lb (S.1 4)) 63 by omega] at r
  exact r
def LawAt (h : gH) (a o : Nat) (n n' m : Nat → Nat) (S : CS) : Prop := ClsAt h a n n' S ∧ (∃ thr lt st rw, MdlAt h m thr S lt st rw) ∧ (∃ f, OutAt h o f) ∧ ∀ k, k < 11 → ∀ j, j < 7 → m k ≠ n j ∧ m k ≠ n' j
theorem mT_01 (k : Nat) : mT k = 0 ∨ mT k = 1 := by
  unfold mT
  split
  · exact Or.inr rfl
  · exact Or.inr rfl
  · exact Or.inr rfl
  · exact Or.inl rfl
/-- the model lies apart from the class's own object and the long row -/
theorem M_ap {h : gH} {m : Nat → Nat} {thr : Int32} {S : CS} {lt : Nat → Bool} {st rw : Nat → Int32} (M : MdlAt h m thr S lt st rw) {a o : Nat} {fs : List Value} {f : Nat → Int64} (ha : h a = some (.inr (4, fs))) (O : OutAt h o f) : ∀ k, k < 11 → m k ≠ a ∧ m k ≠ o := by
  have O : h o = _ := O
  intro k hk
  by_cases e : k = 0
  · subst e
    have r := M.1
    refine ⟨fun z => ?_, fun z => ?_⟩
    · rw [z, ha] at r; cases r
    · rw [z, O] at r; cases r
  · obtain ⟨g, r, -⟩ := M.2.1 k (by omega) hk
    refine ⟨fun z => ?_, fun z => ?_⟩
    · rw [z, ha] at r; cases r
    · rw [z, O] at r
      rcases mT_01 k with q | q
      · rw [q] at r; cases r
      · rw [q] at r; cases r
theorem mS_mem {m : Nat → Nat} {q : Nat} (h : q ∈ mS m) : ∃ k, k < 11 ∧ q = m k := by
  simp only [mS, List.mem_cons, List.not_mem_nil, or_false] at h
  rcases h with z | z | z | z | z | z | z | z | z | z | z
  · exact ⟨0, by omega, z⟩
  · exact ⟨1, by omega, z⟩
  · exact ⟨2, by omega, z⟩
  · exact ⟨3, by omega, z⟩
  · exact ⟨4, by omega, z⟩
  · exact ⟨5, by omega, z⟩
  · exact ⟨6, by omega, z⟩
  · exact ⟨7, by omega, z⟩
  · exact ⟨8, by omega, z⟩
  · exact ⟨9, by omega, z⟩
  · exact ⟨10, by omega, z⟩
/-- the model is where it was, behind the class's call -/
theorem law_M {h h1 : gH} {a o : Nat} {n n' m : Nat → Nat} {thr : Int32} {S S1 : CS} {lt : Nat → Bool} {st rw : Nat → Int32} (M : MdlAt h m thr S lt st rw) {f : Nat → Int64} (O : OutAt h o f) (C : ClsAt h a n n' S1) (D : ∀ k, k < 11 → ∀ j, j < 7 → m k ≠ n j ∧ m k ≠ n' j) (F : gFr (o :: cS n n') h h1) : MdlAt h1 m thr S lt st rw := by
  refine RawM.keep M (fun k hk => F _ (fun hm => ?_))
  rcases List.mem_cons.mp hm with e | e
  · exact (M_ap M C.1 O k hk).2 e
  · obtain ⟨i, hi, e | e⟩ := cS_mem e
    · exact (D k hk i hi).1 e
    · exact (D k hk i hi).2 e
/-- the class and the row are where they were, behind the model's call -/
theorem law_C {h1 h2 : gH} {a o : Nat} {n n' m : Nat → Nat} {thr : Int32} {S S1 : CS} {lt : Nat → Bool} {st rw : Nat → Int32} (M : MdlAt h1 m thr S lt st rw) {f : Nat → Int64} (O : OutAt h1 o f) (C : ClsAt h1 a n n' S1) (D : ∀ k, k < 11 → ∀ j, j < 7 → m k ≠ n j ∧ m k ≠ n' j) (F : gNw (mS m) h1 h2) : ClsAt h2 a n n' S1 ∧ OutAt h2 o f := by
  have ap := M_ap M C.1 O
  have out : ∀ q, (∀ k, k < 11 → m k ≠ q) → q ∉ mS m := fun q hq hm => by
    obtain ⟨k, hk, e⟩ := mS_mem hm
    exact hq k hk e.symm
  have kp : ∀ q x, (∀ k, k < 11 → m k ≠ q) → h1 q = some x → h2 q = h1 q := fun q x hq e => (F.kp e (out q hq)).trans e.symm
  refine ⟨C.keep (kp a _ (fun k hk => (ap k hk).1) C.1) (fun i hi => ?_) (fun i hi => ?_), (kp o _ (fun k hk => (ap k hk).2) O).trans O⟩
  · obtain ⟨x, e⟩ := C.2.1.there i hi
    exact kp _ x (fun k hk => (D k hk i hi).1) e
  · obtain ⟨S2, N2⟩ := C.2.2.1
    obtain ⟨x, e⟩ := NightAt.there N2 i hi
    exact kp _ x (fun k hk => (D k hk i hi).2) e
def lwPost (v : Option Value) (_ : gH) : Prop := v = some (.int 1)
def lwX (_ : String) (_ : gH) : Prop := False
theorem s_ro {call : gC} {y : gM} {d : Nat} {Post : Option Value → gH → Prop} {X : String → gH → Prop} {ro : Nat → Option (Nat × (Nat → Int32))} {K : gK} {pc : Nat} {lv : gL} {r : List Value} {h : gH} {bc bs : Nat} (hK : gClosed call y d Post X ro K) {b n q cc : Nat} {f : Nat → Int32}
    (d1 : decode y.2.1 pc = .ok (.aload_n 0, 1)) (d2 : decode y.2.1 (pc + 1) = .ok (.iload 4, 2)) (d3 : decode y.2.1 (pc + 3) = .ok (.iconst cc, 1)) (d4 : decode y.2.1 (pc + 4) = .ok (.iadd, 1)) (d5 : decode y.2.1 (pc + 5) = .ok (.iaload, 1))
    (g0 : gget lv 0 = some (.ref b)) (g4 : gget lv 4 = some (.int (nI q))) (hc : Int32.ofInt cc = nI cc) (hro : ro b = some (n, f)) (hj : q + cc < n) (hn : n < 2 ^ 31) (k : K (pc + 6) lv (.int (f (q + cc)) :: r) h bc bs) : K pc lv r h bc bs := by
  refine s_aload_n hK d1 g0 ?_
  refine s_iload hK d2 g4 ?_
  refine s_iconst hK (v := nI cc) d3 hc ?_
  refine s_iadd hK d4 ?_
  rw [nI_add]
  refine s_roload hK d5 hro (vp_in_nI hj hn) ?_
  rw [nI_clamp (by omega)]
  exact k
