/-! the law's start -/
set_option maxRecDepth 10000 in
theorem l_start {ro : Nat → Option (Nat × (Nat → Int32))} {K : gK} (hK : gClosed (gSafe 13) mL_law 14 lwPost lwX ro K) {b L : Nat} {xs : Nat → Int32} (hro : ro b = some (L, xs)) (hL : L ≤ 2048) {bc bs : Nat} (hbc : 50000 ≤ bc) (hbs : 300000 ≤ bs) : K 0 [some (.ref b), none, none, none, none, none, none, none, none] [] (fun _ => none) bc bs := by
  refine s_new hK (ci := 4) dL_law_0 rfl kN_L_8 kMk_X5 gB_X5 (by omega) (by omega) (fun a A => ?_)
  refine s_dup hK dL_law_3 rfl ?_
  refine s_I0 hK (mc := 14) (ms := 264) dL_law_4 kI_L_81 (by rfl) (by omega) (by omega) ?_
  refine c_clsInit _ (gU_eq _ _ _) (by omega) (by omega) (fun h1 n n' C1 N1 F1 => ?_)
  have C1t : ∀ j, j < 7 → (∃ x, h1 (n j) = some x) ∧ ∃ x, h1 (n' j) = some x := fun j hj => by
    obtain ⟨S2, N2⟩ := C1.2.2.1
    exact ⟨C1.2.1.there j hj, NightAt.there N2 j hj⟩
  refine s_astore_n hK dL_law_7 rfl ?_
  refine s_new hK (ci := 5) dL_law_8 rfl kN_L_82 kMk_X6 gB_X6 (by omega) (by omega) (fun b2 B2 => ?_)
  have nb : ∀ {q x}, h1 q = some x → q ≠ b2 := fun {q x} e z => by rw [z, B2] at e; cases e
  have C2 : ∀ o, ClsAt (gU h1 b2 o) a n n' S0 := fun o => by
    refine C1.keep (gU_ne (nb C1.1)) (fun i hi => ?_) (fun i hi => ?_)
    · obtain ⟨x, e⟩ := (C1t i hi).1
      exact gU_ne (nb e)
    · obtain ⟨x, e⟩ := (C1t i hi).2
      exact gU_ne (nb e)
  refine s_dup hK dL_law_11 rfl ?_
  refine s_I0 hK (mc := 10) (ms := 668) dL_law_12 kI_L_84 (by rfl) (by omega) (by omega) ?_
  refine c_mdlInit _ (gU_eq _ _ _) (by omega) (by omega) (fun h2 m e0 M2 N2 F2 => ?_)
  have C2 := C2 (.inr (5, [.int 0, .null, .null, .null, .null, .null, .int 0, .null, .null, .null, .null, .null]))
  have D : ∀ k, k < 11 → ∀ j, j < 7 → m k ≠ n j ∧ m k ≠ n' j := by
    have key : ∀ q, (∃ x, h1 q = some x) → ∀ k, k < 11 → m k ≠ q := by
      intro q ⟨x, e⟩ k hk z
      by_cases k0 : k = 0
      · rw [k0, e0] at z
        exact nb e z.symm
      · have r := N2 k (by omega) hk
        rw [z, gU_ne (nb e), e] at r
        cases r
    exact fun k hk j hj => ⟨key _ (C1t j hj).1 k hk, key _ (C1t j hj).2 k hk⟩
  have C3 : ClsAt h2 a n n' S0 := by
    have kp : ∀ {q x}, h1 q = some x → h2 q = gU h1 b2 (.inr (5, [.int 0, .null, .null, .null, .null, .null, .int 0, .null, .null, .null, .null, .null])) q := fun {q x} e => F2 q (by simpa using nb e) (by rw [gU_ne (nb e), e]; exact fun z => nomatch z)
    refine C2.keep (kp C1.1) (fun i hi => ?_) (fun i hi => ?_)
    · obtain ⟨x, e⟩ := (C1t i hi).1
      exact kp e
    · obtain ⟨x, e⟩ := (C1t i hi).2
      exact kp e
  have C3t : ∀ j, j < 7 → (∃ x, h2 (n j) = some x) ∧ ∃ x, h2 (n' j) = some x := fun j hj => by
    obtain ⟨S2, N2⟩ := C3.2.2.1
    exact ⟨C3.2.1.there j hj, NightAt.there N2 j hj⟩
  rw [← e0]
  refine s_astore_n hK dL_law_15 rfl ?_
  refine s_iconst hK (v := 1) dL_law_16 (by decide) ?_
  refine s_newarray hK (N := 1) dL_law_17 rfl (by first | decide | exact nI_pos (by omega)) (by first | rfl | exact nI_clamp (by omega)) (by omega) (by omega) (by omega) (fun o O => ?_)
  have no : ∀ {q x}, h2 q = some x → q ≠ o := fun {q x} e z => by rw [z, O] at e; cases e
  have C4 : ClsAt (gU h2 o (.inl (2, 1, .inr (.inl (fun _ => 0))))) a n n' S0 := by
    refine C3.keep (gU_ne (no C3.1)) (fun i hi => ?_) (fun i hi => ?_)
    · obtain ⟨x, e⟩ := (C3t i hi).1
      exact gU_ne (no e)
    · obtain ⟨x, e⟩ := (C3t i hi).2
      exact gU_ne (no e)
  have M4 : MdlAt (gU h2 o (.inl (2, 1, .inr (.inl (fun _ => 0))))) m 0 S0 (fun _ => false) (fun _ => 0) (fun _ => 0) := M_al M2 O _
  refine s_astore_n hK dL_law_19 rfl ?_
  refine s_iconst hK (v := 0) dL_law_20 (by decide) ?_
  refine s_istore hK dL_law_21 rfl ?_
  exact l_loop hK hro hL 512 0 (by omega) 0 (by omega) S0 _ none none none none _ _ (by omega) (by omega) InvC_0 ⟨C4, ⟨_, _, _, _, M4⟩, ⟨_, gU_eq _ _ _⟩, D⟩
