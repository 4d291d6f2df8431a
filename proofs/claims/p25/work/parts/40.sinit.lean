/-! the law's own objects, new -/
theorem gB_X6 : gBegin TX6 8 [.int 0, .int 0, .int 0, .int 0, .int 0, .int 0, .int 0, .int 0] := ⟨rfl, fun j hj => by
  match j, hj with
  | 0, _ => exact ⟨.int, by decide +kernel, rfl⟩
  | 1, _ => exact ⟨.int, by decide +kernel, rfl⟩
  | 2, _ => exact ⟨.int, by decide +kernel, rfl⟩
  | 3, _ => exact ⟨.int, by decide +kernel, rfl⟩
  | 4, _ => exact ⟨.int, by decide +kernel, rfl⟩
  | 5, _ => exact ⟨.boolean, by decide +kernel, rfl⟩
  | 6, _ => exact ⟨.int, by decide +kernel, rfl⟩
  | 7, _ => exact ⟨.int, by decide +kernel, rfl⟩
  | j + 8, q => exact absurd q (by omega)⟩
theorem gB_X7 : gBegin TX7 9 [.null, .null, .null, .null, .null, .int 0, .int 0, .null, .null] := ⟨rfl, fun j hj => by
  match j, hj with
  | 0, _ => exact ⟨.array (.array (.array .boolean)), by decide +kernel, rfl⟩
  | 1, _ => exact ⟨.array (.array .int), by decide +kernel, rfl⟩
  | 2, _ => exact ⟨.array (.array .int), by decide +kernel, rfl⟩
  | 3, _ => exact ⟨.array (.array .boolean), by decide +kernel, rfl⟩
  | 4, _ => exact ⟨.array (.object "GhostCandlesLaw$Ghost"), by decide +kernel, rfl⟩
  | 5, _ => exact ⟨.int, by decide +kernel, rfl⟩
  | 6, _ => exact ⟨.int, by decide +kernel, rfl⟩
  | 7, _ => exact ⟨.array .int, by decide +kernel, rfl⟩
  | 8, _ => exact ⟨.array .int, by decide +kernel, rfl⟩
  | j + 9, q => exact absurd q (by omega)⟩
theorem c_ghostInit (d : Nat) {a : Nat} {h : gH} (h0 : h a = some (.inr (5, [.int 0, .int 0, .int 0, .int 0, .int 0, .int 0, .int 0, .int 0]))) {mc ms : Nat} {Post : Option Value → gH → Prop} {X : String → gH → Prop} (hp : Post none (gU h a (.inr (5, [.int 0, .int 0, .int 0, .int 0, .int 0, .int 1, .int 0, .int 0])))) : gSafe (d + 1) mX6_init [.ref a] h mc ms Post X := by
  refine ⟨Nat.le_of_ble_eq_true rfl, fun K hK => ?_⟩
  show K 0 [some (.ref a)] [] _ _ _
  refine s_aload_n hK dX6_init_0 rfl ?_
  refine s_objinit hK dX6_init_1 kO_X6_1 (by omega) (by rfl) ?_
  refine s_aload_n hK dX6_init_4 rfl ?_
  refine s_iconst hK (v := 1) dX6_init_5 (by decide) ?_
  refine s_putfield hK dX6_init_6 kF_X6_7 (by assumption) (by rfl) (by rfl) (by rfl) ?_
  refine s_return hK dX6_init_9 rfl ?_
  exact hp
theorem G3_nw {h : gH} {q : Nat} (hq : ∀ j, j ≤ 72 → h (q + j) = none) : gNw [] h (gG3 h q 4 3 1 9 7 4) := by
  intro p _ hp
  unfold gG3
  rw [if_neg, if_neg]
  · rintro ⟨h1, h2⟩
    have := hq (p - q) (by omega)
    rw [show q + (p - q) = p by omega] at this
    exact hp this
  · rintro rfl
    exact hp (hq 0 (by omega))
theorem G3_W3 (h : gH) (q : Nat) : W3 (gG3 h q 4 3 1 9 7 4) q (fun _ _ => false) := by
  refine ⟨if_pos rfl, fun x hx => ⟨?_, fun y hy => ⟨fun _ => 0, ?_, fun _ _ => rfl⟩⟩⟩
  · unfold gG3
    rw [if_neg (by omega), if_pos (by omega), if_pos (by omega)]
  · unfold gG3
    rw [if_neg (by omega), if_pos (by omega), if_neg (by omega)]
theorem I2.th {h : gH} {q : Nat} {F : Nat → Int32} (Z : I2 h q F) {p : Nat} (h1 : q ≤ p) (h2 : p < q + 10) : h p ≠ none := by
  by_cases e : p = q
  · rw [e, Z.1]; exact fun z => nomatch z
  · obtain ⟨f, e1, -⟩ := Z.2 (p - q - 1) (by omega)
    rw [show q + 1 + (p - q - 1) = p by omega] at e1
    rw [e1]; exact fun z => nomatch z
theorem W3.th {h : gH} {q : Nat} {F : Nat → Nat → Bool} (C : W3 h q F) {p : Nat} (h1 : q ≤ p) (h2 : p < q + 73) : h p ≠ none := by
  by_cases e : p = q
  · rw [e, C.1]; exact fun z => nomatch z
  · obtain ⟨e1, e2⟩ := C.2 ((p - q - 1) / 8) (by omega)
    by_cases e9 : (p - q - 1) % 8 = 0
    · rw [show q + 1 + (p - q - 1) / 8 * 8 = p by omega] at e1
      rw [e1]; exact fun z => nomatch z
    · obtain ⟨f, e3, -⟩ := e2 ((p - q - 1) % 8 - 1) (by omega)
      rw [show q + 1 + (p - q - 1) / 8 * 8 + 1 + ((p - q - 1) % 8 - 1) = p by omega] at e3
      rw [e3]; exact fun z => nomatch z
/-- the first k blocks of it are made -/
def Mk (h0 h : gH) (a : Nat) (m : Nat → Nat) (k : Nat) : Prop := m 0 = a ∧ gNw [a] h0 h ∧ (∀ i, 0 < i → i < k → Cmp h m S0 i) ∧ sep m k ∧ ∀ p, sD m k p → h p ≠ none ∧ (p = a ∨ h0 p = none)
theorem Cmp_m {h : gH} {m m' : Nat → Nat} {i : Nat} (hi : i < 8) (e : m' i = m i) (h0 : 0 < i) (C : Cmp h m S0 i) : Cmp h m' S0 i := by
  match i, hi, h0, e, C with
  | 1, _, _, e, C => exact (show W3 h (m' 1) _ by rw [e]; exact C)
  | 2, _, _, e, C => exact (show I2 h (m' 2) (fun c => nI (thg S0.1 c)) by rw [e]; exact C)
  | 3, _, _, e, C => exact (show I2 h (m' 3) S0.2.1 by rw [e]; exact C)
  | 4, _, _, e, C => exact (show Z2 h (m' 4) (lb (S0.1 1)) by rw [e]; exact C)
  | 5, _, _, e, ⟨f, C, _⟩ => exact ⟨f, by rw [e]; exact C, fun k hk => absurd hk (Nat.not_lt_zero k)⟩
  | 6, _, _, e, ⟨f, C⟩ => exact ⟨f, by rw [e]; exact C⟩
  | 7, _, _, e, ⟨f, C⟩ => exact ⟨f, by rw [e]; exact C⟩
theorem Mk.begin {h : gH} {a : Nat} (ha : h a ≠ none) : Mk h h a (fun _ => a) 1 := by
  refine ⟨rfl, gNw.rf _ _, fun i h1 h2 => by omega, fun i j h1 h2 h3 => by omega, ?_⟩
  rintro p ⟨i, hi, q1, q2⟩
  obtain rfl : i = 0 := by omega
  have q1 : a ≤ p := q1
  have q1 : a ≤ p := q1
  have q2 : p < a + 1 := q2
  obtain rfl : p = a := by omega
  exact ⟨ha, Or.inl rfl⟩
theorem bk_pos (i : Nat) : 0 < bk i := by
  unfold bk
  split <;> omega
theorem Mk.own {h0 h : gH} {a : Nat} {m : Nat → Nat} {k : Nat} (M : Mk h0 h a m k) (hk : 0 < k) (o : gO) : Mk h0 (gU h a o) a m k := by
  obtain ⟨m0, F, C, s, t⟩ := M
  refine ⟨m0, F.set (by simp) _, fun i h1 h2 => (C i h1 h2).keep (fun p hp => gU_ne ?_), s, fun p hp => ⟨?_, (t p hp).2⟩⟩
  · rintro rfl
    exact s.out h2 hk (by omega) hp ⟨by omega, by have := bk_pos 0; omega⟩
  · by_cases e : p = a
    · rw [e, gU_eq]; exact fun z => nomatch z
    · rw [gU_ne e]; exact (t p hp).1
theorem Mk.step {h0 h h' : gH} {a : Nat} {m : Nat → Nat} {k q : Nat} (M : Mk h0 h a m k) (hk : 0 < k) (hk8 : k < 8) (fr : ∀ p, q ≤ p → p < q + bk k → h p = none) (F : gNw [] h h') (C' : Cmp h' (fun i => if i = k then q else m i) S0 k) (kn : ∀ p, q ≤ p → p < q + bk k → h' p ≠ none) : Mk h0 h' a (fun i => if i = k then q else m i) (k + 1) := by
  obtain ⟨m0, F0, C, s, t⟩ := M
  have ek : (fun i => if i = k then q else m i) k = q := if_pos rfl
  have en : ∀ i, i < k → (fun i => if i = k then q else m i) i = m i := fun i hi => if_neg (by omega)
  have ha : h a ≠ none := (t a ⟨0, hk, by omega, by have := bk_pos 0; omega⟩).1
  generalize (fun i => if i = k then q else m i) = m' at C' ek en ⊢
  have inK : ∀ i, i < k → ∀ p, inB m' i p → inB m i p := fun i hi p z => by
    unfold inB at z ⊢
    rwa [en i hi] at z
  have dis : ∀ i, i < k → m i + bk i ≤ q ∨ q + bk k ≤ m i := fun i hi => by
    have b1 := bk_pos i
    have b2 := bk_pos k
    refine Classical.byContradiction (fun z => ?_)
    by_cases e : m i ≤ q
    · exact (t q ⟨i, hi, e, by omega⟩).1 (fr q (by omega) (by omega))
    · exact (t (m i) ⟨i, hi, by omega, by omega⟩).1 (fr (m i) (by omega) (by omega))
  refine ⟨(en 0 hk).trans m0, F0.tr (fun p hp hn => F p (fun z => nomatch z) hn), fun i h1 h2 => ?_, fun i j hi hj hne => ?_, ?_⟩
  · by_cases e : i = k
    · rw [e]; exact C'
    · refine Cmp_m (by omega) (en i (by omega)) h1 ((C i h1 (by omega)).keep (fun p hp => F p (fun z => nomatch z) (t p ⟨i, by omega, hp⟩).1))
  · by_cases e : i = k
    · subst e
      rw [ek, en j (by omega)]
      exact (dis j (by omega)).symm
    · by_cases e2 : j = k
      · subst e2
        rw [ek, en i (by omega)]
        exact dis i (by omega)
      · rw [en i (by omega), en j (by omega)]
        exact s i j (by omega) (by omega) hne
  · rintro p ⟨i, hi, hp⟩
    by_cases e : i = k
    · subst e
      unfold inB at hp
      rw [ek] at hp
      refine ⟨kn p hp.1 hp.2, Or.inr (F0.none (fr p hp.1 hp.2) ?_)⟩
      intro z
      rw [List.mem_singleton.mp z] at hp
      exact ha (fr a hp.1 hp.2)
    · have hp := inK i (by omega) p hp
      obtain ⟨t1, t2⟩ := t p ⟨i, by omega, hp⟩
      exact ⟨by rw [F p (fun z => nomatch z) t1]; exact t1, t2⟩
theorem th_new {h : gH} {q N : Nat} (hq : ∀ j, j ≤ N → h (q + j) = none) : ∀ p, q ≤ p → p < q + (N + 1) → h p = none := fun p h1 h2 => by
  have := hq (p - q) (by omega)
  rwa [show q + (p - q) = p by omega] at this
theorem thg_S0 (c : Nat) : thg S0.1 c = 0 := by
  show thg (fun _ => 0) c = 0
  unfold thg
  simp [lb_0]
set_option maxRecDepth 10000 in
theorem c_simInit (d : Nat) {a : Nat} {h : gH} (h0 : h a = some (.inr (6, [.null, .null, .null, .null, .null, .int 0, .int 0, .null, .null]))) {mc ms : Nat} {Post : Option Value → gH → Prop} {X : String → gH → Prop} (hmc : 106 ≤ mc) (hms : 792 ≤ ms) (hp : ∀ h' m, m 0 = a → SimAt h' m S0 → gNw [a] h h' → (∀ p, sD m 8 p → p = a ∨ h p = none) → Post none h') : gSafe (d + 1) mX7_init [.ref a] h mc ms Post X := by
  have M := Mk.begin (h := h) (a := a) (by rw [h0]; exact fun z => nomatch z)
  have ne : ∀ {h1 h2 : gH} {o : gO}, h1 a = some o → gNw [] h1 h2 → h2 a = some o := fun e F => (F a (fun z => nomatch z) (by rw [e]; exact fun z => nomatch z)).trans e
  refine ⟨Nat.le_of_ble_eq_true rfl, fun K hK => ?_⟩
  show K 0 [some (.ref a)] [] _ _ _
  refine s_aload_n hK dX7_init_0 rfl ?_
  refine s_objinit hK dX7_init_1 kO_X7_1 (by omega) (by rfl) ?_
  refine s_aload_n hK dX7_init_4 rfl ?_
  refine s_bipush hK (v := 9) dX7_init_5 (by decide) ?_
  refine s_bipush hK (v := 7) dX7_init_7 (by decide) ?_
  refine s_iconst hK (v := 4) dX7_init_9 (by decide) ?_
  refine s_mna3 hK (N := 9) (M := 7) (P := 4) dX7_init_10 kA_X7_7 (by decide) (by decide) (by decide) (by decide) (by decide) (by decide) (by omega) (by omega) (by omega) (by omega) (by omega) (fun q1 Q => ?_)
  have F := G3_nw Q
  have B := G3_W3 h q1
  have M := M.step (k := 1) (by omega) (by omega) (th_new (N := 72) Q) F (B.cong (fun c d _ hd => by
    show false = lb (wCells (fun _ => 0) d) c
    unfold wCells
    split <;> simp [lb_0])) (fun p p1 p2 => B.th p1 p2)
  have A := ne h0 F
  generalize gG3 h q1 4 3 1 9 7 4 = h1a at M A ⊢
  clear F B Q
  refine s_putfield hK dX7_init_14 kF_X7_9 (by assumption) (by rfl) (by rfl) (by rfl) ?_
  show K 17 _ _ (gU h1a a (.inr (6, [.ref q1, .null, .null, .null, .null, .int 0, .int 0, .null, .null]))) _ _
  have A := gU_eq h1a a (.inr (6, [.ref q1, .null, .null, .null, .null, .int 0, .int 0, .null, .null]))
  have M := M.own (by omega) (.inr (6, [.ref q1, .null, .null, .null, .null, .int 0, .int 0, .null, .null]))
  generalize gU h1a a (.inr (6, [.ref q1, .null, .null, .null, .null, .int 0, .int 0, .null, .null])) = h1b at M A ⊢
  refine s_aload_n hK dX7_init_17 rfl ?_
  refine s_bipush hK (v := 9) dX7_init_18 (by decide) ?_
  refine s_bipush hK (v := 7) dX7_init_20 (by decide) ?_
  refine s_mna2 hK dX7_init_22 (nm := "[[I") (N := 9) (M := 7) rfl kA_X7_14 (by decide) (by decide) (by decide) (by decide) (by omega) (by omega) (by omega) (by omega) (fun q2 Q => ?_)
  have F := G2_nw (n := 9) 2 0 7 Q
  have B := G2_I2 h1b q2
  have M := M.step (k := 2) (by omega) (by omega) (th_new (N := 9) Q) F (show I2 _ _ (fun c => nI (thg S0.1 c)) from B.cong (fun c _ => by rw [thg_S0]; rfl)) (fun p p1 p2 => B.th p1 p2)
  have A := ne A F
  generalize gG2 h1b q2 2 0 9 7 = h2a at M A ⊢
  clear F B Q
  refine s_putfield hK dX7_init_26 kF_X7_16 (by assumption) (by rfl) (by rfl) (by rfl) ?_
  show K 29 _ _ (gU h2a a (.inr (6, [.ref q1, .ref q2, .null, .null, .null, .int 0, .int 0, .null, .null]))) _ _
  have A := gU_eq h2a a (.inr (6, [.ref q1, .ref q2, .null, .null, .null, .int 0, .int 0, .null, .null]))
  have M := M.own (by omega) (.inr (6, [.ref q1, .ref q2, .null, .null, .null, .int 0, .int 0, .null, .null]))
  generalize gU h2a a (.inr (6, [.ref q1, .ref q2, .null, .null, .null, .int 0, .int 0, .null, .null])) = h2b at M A ⊢
  refine s_aload_n hK dX7_init_29 rfl ?_
  refine s_bipush hK (v := 9) dX7_init_30 (by decide) ?_
  refine s_bipush hK (v := 7) dX7_init_32 (by decide) ?_
  refine s_mna2 hK dX7_init_34 (nm := "[[I") (N := 9) (M := 7) rfl kA_X7_14 (by decide) (by decide) (by decide) (by decide) (by omega) (by omega) (by omega) (by omega) (fun q3 Q => ?_)
  have F := G2_nw (n := 9) 2 0 7 Q
  have B := G2_I2 h2b q3
  have M := M.step (k := 3) (by omega) (by omega) (th_new (N := 9) Q) F (B.cong (fun c _ => rfl)) (fun p p1 p2 => B.th p1 p2)
  have A := ne A F
  generalize gG2 h2b q3 2 0 9 7 = h3a at M A ⊢
  clear F B Q
  refine s_putfield hK dX7_init_38 kF_X7_19 (by assumption) (by rfl) (by rfl) (by rfl) ?_
  show K 41 _ _ (gU h3a a (.inr (6, [.ref q1, .ref q2, .ref q3, .null, .null, .int 0, .int 0, .null, .null]))) _ _
  have A := gU_eq h3a a (.inr (6, [.ref q1, .ref q2, .ref q3, .null, .null, .int 0, .int 0, .null, .null]))
  have M := M.own (by omega) (.inr (6, [.ref q1, .ref q2, .ref q3, .null, .null, .int 0, .int 0, .null, .null]))
  generalize gU h3a a (.inr (6, [.ref q1, .ref q2, .ref q3, .null, .null, .int 0, .int 0, .null, .null])) = h3b at M A ⊢
  refine s_aload_n hK dX7_init_41 rfl ?_
  refine s_bipush hK (v := 9) dX7_init_42 (by decide) ?_
  refine s_bipush hK (v := 7) dX7_init_44 (by decide) ?_
  refine s_mna2 hK dX7_init_46 (nm := "[[Z") (N := 9) (M := 7) rfl kA_X7_22 (by decide) (by decide) (by decide) (by decide) (by omega) (by omega) (by omega) (by omega) (fun q4 Q => ?_)
  have F := G2_nw (n := 9) 3 1 7 Q
  have B := G2_Z2 h3b q4
  have M := M.step (k := 4) (by omega) (by omega) (th_new (N := 9) Q) F (B.cong (fun c _ => (lb_0 c).symm)) (fun p p1 p2 => B.th p1 p2)
  have A := ne A F
  generalize gG2 h3b q4 3 1 9 7 = h4a at M A ⊢
  clear F B Q
  refine s_putfield hK dX7_init_50 kF_X7_24 (by assumption) (by rfl) (by rfl) (by rfl) ?_
  show K 53 _ _ (gU h4a a (.inr (6, [.ref q1, .ref q2, .ref q3, .ref q4, .null, .int 0, .int 0, .null, .null]))) _ _
  have A := gU_eq h4a a (.inr (6, [.ref q1, .ref q2, .ref q3, .ref q4, .null, .int 0, .int 0, .null, .null]))
  have M := M.own (by omega) (.inr (6, [.ref q1, .ref q2, .ref q3, .ref q4, .null, .int 0, .int 0, .null, .null]))
  generalize gU h4a a (.inr (6, [.ref q1, .ref q2, .ref q3, .ref q4, .null, .int 0, .int 0, .null, .null])) = h4b at M A ⊢
  refine s_aload_n hK dX7_init_53 rfl ?_
  refine s_iconst hK (v := 0) dX7_init_54 (by decide) ?_
  refine s_anewarray hK (N := 0) dX7_init_55 kN_X7_27 (by decide) (by decide) (by omega) (by omega) (by omega) (fun q5 Q => ?_)
  have F := gNw.new Q (.inl (5, 0, .inr (.inr (.inr (.inr (fun _ => none))))))
  have B := gU_eq h4b q5 (.inl (5, 0, .inr (.inr (.inr (.inr (fun _ => none))))))
  have M := M.step (k := 5) (by omega) (by omega) (fun p p1 p2 => by
    obtain rfl : p = q5 := by have p2 : p < q5 + 1 := p2; omega
    exact Q) F ⟨_, B, fun k hk => absurd hk (Nat.not_lt_zero k)⟩ (fun p p1 p2 => by
    have p2 : p < q5 + 1 := p2
    obtain rfl : p = q5 := by omega
    rw [B]; exact fun z => nomatch z)
  have A := ne A F
  generalize gU h4b q5 (.inl (5, 0, .inr (.inr (.inr (.inr (fun _ => none)))))) = h5a at M A ⊢
  clear F B Q
  refine s_putfield hK dX7_init_58 kF_X7_29 (by assumption) (by rfl) (by rfl) (by rfl) ?_
  show K 61 _ _ (gU h5a a (.inr (6, [.ref q1, .ref q2, .ref q3, .ref q4, .ref q5, .int 0, .int 0, .null, .null]))) _ _
  have A := gU_eq h5a a (.inr (6, [.ref q1, .ref q2, .ref q3, .ref q4, .ref q5, .int 0, .int 0, .null, .null]))
  have M := M.own (by omega) (.inr (6, [.ref q1, .ref q2, .ref q3, .ref q4, .ref q5, .int 0, .int 0, .null, .null]))
  generalize gU h5a a (.inr (6, [.ref q1, .ref q2, .ref q3, .ref q4, .ref q5, .int 0, .int 0, .null, .null])) = h5b at M A ⊢
  refine s_aload_n hK dX7_init_61 rfl ?_
  refine s_bipush hK (v := nI 126) dX7_init_62 (by decide) ?_
  refine s_newarray hK (N := 126) dX7_init_64 rfl (nI_pos (by omega)) (nI_clamp (by omega)) (by omega) (by omega) (by omega) (fun q6 Q => ?_)
  have F := gNw.new Q (.inl (0, 126, .inl (fun _ => 0)))
  have B := gU_eq h5b q6 (.inl (0, 126, .inl (fun _ => 0)))
  have M := M.step (k := 6) (by omega) (by omega) (fun p p1 p2 => by
    obtain rfl : p = q6 := by have p2 : p < q6 + 1 := p2; omega
    exact Q) F ⟨_, B⟩ (fun p p1 p2 => by
    have p2 : p < q6 + 1 := p2
    obtain rfl : p = q6 := by omega
    rw [B]; exact fun z => nomatch z)
  have A := ne A F
  generalize gU h5b q6 (.inl (0, 126, .inl (fun _ => 0))) = h6a at M A ⊢
  clear F B Q
  refine s_putfield hK dX7_init_66 kF_X7_33 (by assumption) (by rfl) (by rfl) (by rfl) ?_
  show K 69 _ _ (gU h6a a (.inr (6, [.ref q1, .ref q2, .ref q3, .ref q4, .ref q5, .int 0, .int 0, .ref q6, .null]))) _ _
  have A := gU_eq h6a a (.inr (6, [.ref q1, .ref q2, .ref q3, .ref q4, .ref q5, .int 0, .int 0, .ref q6, .null]))
  have M := M.own (by omega) (.inr (6, [.ref q1, .ref q2, .ref q3, .ref q4, .ref q5, .int 0, .int 0, .ref q6, .null]))
  generalize gU h6a a (.inr (6, [.ref q1, .ref q2, .ref q3, .ref q4, .ref q5, .int 0, .int 0, .ref q6, .null])) = h6b at M A ⊢
  refine s_aload_n hK dX7_init_69 rfl ?_
  refine s_bipush hK (v := nI 126) dX7_init_70 (by decide) ?_
  refine s_newarray hK (N := 126) dX7_init_72 rfl (nI_pos (by omega)) (nI_clamp (by omega)) (by omega) (by omega) (by omega) (fun q7 Q => ?_)
  have F := gNw.new Q (.inl (0, 126, .inl (fun _ => 0)))
  have B := gU_eq h6b q7 (.inl (0, 126, .inl (fun _ => 0)))
  have M := M.step (k := 7) (by omega) (by omega) (fun p p1 p2 => by
    obtain rfl : p = q7 := by have p2 : p < q7 + 1 := p2; omega
    exact Q) F ⟨_, B⟩ (fun p p1 p2 => by
    have p2 : p < q7 + 1 := p2
    obtain rfl : p = q7 := by omega
    rw [B]; exact fun z => nomatch z)
  have A := ne A F
  generalize gU h6b q7 (.inl (0, 126, .inl (fun _ => 0))) = h7a at M A ⊢
  clear F B Q
  refine s_putfield hK dX7_init_74 kF_X7_37 (by assumption) (by rfl) (by rfl) (by rfl) ?_
  show K 77 _ _ (gU h7a a (.inr (6, [.ref q1, .ref q2, .ref q3, .ref q4, .ref q5, .int 0, .int 0, .ref q6, .ref q7]))) _ _
  have A := gU_eq h7a a (.inr (6, [.ref q1, .ref q2, .ref q3, .ref q4, .ref q5, .int 0, .int 0, .ref q6, .ref q7]))
  have M := M.own (by omega) (.inr (6, [.ref q1, .ref q2, .ref q3, .ref q4, .ref q5, .int 0, .int 0, .ref q6, .ref q7]))
  generalize gU h7a a (.inr (6, [.ref q1, .ref q2, .ref q3, .ref q4, .ref q5, .int 0, .int 0, .ref q6, .ref q7])) = h7b at M A ⊢
  refine s_return hK dX7_init_77 rfl ?_
  obtain ⟨m0, F, C, s, t⟩ := M
  refine hp _ _ m0 ⟨fun i hi => ?_, s⟩ F (fun p hp => (t p hp).2)
  match i, hi with
  | 0, _ =>
    show h7b ((fun i => if i = 7 then q7 else _) 0) = _
    rw [m0]
    exact A
  | i + 1, hi => exact C (i + 1) (by omega) hi
