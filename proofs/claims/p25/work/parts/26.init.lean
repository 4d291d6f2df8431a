/-! new objects -/
theorem gB_X1 : gBegin TX1 9 [.long 0, .long 0, .long 0, .long 0, .long 0, .long 0, .long 0, .long 0, .null] := ⟨rfl, fun j hj => by
  match j, hj with
  | 0, _ => exact ⟨.long, by decide +kernel, rfl⟩
  | 1, _ => exact ⟨.long, by decide +kernel, rfl⟩
  | 2, _ => exact ⟨.long, by decide +kernel, rfl⟩
  | 3, _ => exact ⟨.long, by decide +kernel, rfl⟩
  | 4, _ => exact ⟨.long, by decide +kernel, rfl⟩
  | 5, _ => exact ⟨.long, by decide +kernel, rfl⟩
  | 6, _ => exact ⟨.long, by decide +kernel, rfl⟩
  | 7, _ => exact ⟨.long, by decide +kernel, rfl⟩
  | 8, _ => exact ⟨.object "GhostCandles$Row", by decide +kernel, rfl⟩
  | j + 9, q => exact absurd q (by omega)⟩
theorem gB_X2 : gBegin TX2 5 [.null, .null, .null, .int 0, .int 0] := ⟨rfl, fun j hj => by
  match j, hj with
  | 0, _ => exact ⟨.object "GhostCandles$House", by decide +kernel, rfl⟩
  | 1, _ => exact ⟨.object "GhostCandles$Ways", by decide +kernel, rfl⟩
  | 2, _ => exact ⟨.object "GhostCandles$Row", by decide +kernel, rfl⟩
  | 3, _ => exact ⟨.int, by decide +kernel, rfl⟩
  | 4, _ => exact ⟨.int, by decide +kernel, rfl⟩
  | j + 5, q => exact absurd q (by omega)⟩
theorem gB_X3 : gBegin TX3 1 [.null] := ⟨rfl, fun j hj => by
  match j, hj with
  | 0, _ => exact ⟨.array .int, by decide +kernel, rfl⟩
  | j + 1, q => exact absurd q (by omega)⟩
theorem gB_X4 : gBegin TX4 4 [.long 0, .int 0, .long 0, .long 0] := ⟨rfl, fun j hj => by
  match j, hj with
  | 0, _ => exact ⟨.long, by decide +kernel, rfl⟩
  | 1, _ => exact ⟨.boolean, by decide +kernel, rfl⟩
  | 2, _ => exact ⟨.long, by decide +kernel, rfl⟩
  | 3, _ => exact ⟨.long, by decide +kernel, rfl⟩
  | j + 4, q => exact absurd q (by omega)⟩
theorem gB_X5 : gBegin TX5 2 [.null, .null] := ⟨rfl, fun j hj => by
  match j, hj with
  | 0, _ => exact ⟨.object "GhostCandles$Night", by decide +kernel, rfl⟩
  | 1, _ => exact ⟨.object "GhostCandles$Night", by decide +kernel, rfl⟩
  | j + 2, q => exact absurd q (by omega)⟩
/-- what was there before stays, but for the addresses of S -/
def gNw (S : List Nat) (h h' : gH) : Prop := ∀ q, q ∉ S → h q ≠ none → h' q = h q
theorem gNw.rf (S : List Nat) (h : gH) : gNw S h h := fun _ _ _ => rfl
theorem gNw.tr {S : List Nat} {h h1 h2 : gH} (a : gNw S h h1) (b : gNw S h1 h2) : gNw S h h2 := fun q hq hn => (b q hq (by rw [a q hq hn]; exact hn)).trans (a q hq hn)
theorem gNw.al {S : List Nat} {h h1 : gH} {q : Nat} (a : gNw S h h1) (hq : h1 q = none) (o : gO) : gNw S h (gU h1 q o) := fun p hp hn => by
  have e := a p hp hn
  rw [gU_ne (fun z => hn (by rw [← e, z, hq])), e]
theorem gNw.new {h : gH} {q : Nat} (hq : h q = none) (o : gO) : gNw [] h (gU h q o) := gNw.al (gNw.rf _ _) hq o
theorem gNw.set {S : List Nat} {h h1 : gH} {q : Nat} (a : gNw S h h1) (hq : q ∈ S) (o : gO) : gNw S h (gU h1 q o) := fun p hp hn => by
  rw [gU_ne (fun z => hp (by rw [z]; exact hq)), a p hp hn]
theorem gNw.set2 {S : List Nat} {h h1 : gH} {q : Nat} (a : gNw S h h1) (hq : h q = none) (o : gO) : gNw S h (gU h1 q o) := fun p hp hn => by
  rw [gU_ne (fun z => hn (by rw [z]; exact hq)), a p hp hn]
/-- a callee's change of what was not there before -/
theorem gNw.call {S T : List Nat} {h h1 h2 : gH} (a : gNw S h h1) (b : gNw T h1 h2) (hT : ∀ q, q ∈ T → h q = none ∨ q ∈ S) : gNw S h h2 := fun p hp hn => by
  have e := a p hp hn
  rw [b p (fun z => (hT p z).elim hn hp) (by rw [e]; exact hn), e]
theorem gNw.none {S : List Nat} {h h1 : gH} {q : Nat} (a : gNw S h h1) (hq : h1 q = none) (hS : q ∉ S) : h q = none := by
  cases e : h q with
  | none => rfl
  | some o =>
    have := a q hS (by rw [e]; exact fun z => nomatch z)
    rw [hq, e] at this
    cases this
set_option maxRecDepth 10000 in
theorem c_rowInit (d : Nat) {a k : Nat} (hk : k ≤ 1000) {h : gH} (h0 : h a = some (.inr (2, [.null]))) {mc ms : Nat} (hmc : 1 ≤ mc) (hms : k ≤ ms) {Post : Option Value → gH → Prop} {X : String → gH → Prop} (hp : ∀ h' ar, RowAt h' a ar k (fun _ => 0) → h ar = none → gNw [a] h h' → Post none h') : gSafe (d + 1) mX3_init [.ref a, .int (nI k)] h mc ms Post X := by
  refine ⟨Nat.le_of_ble_eq_true rfl, fun K hK => ?_⟩
  show K 0 [some (.ref a), some (.int (nI k))] [] _ _ _
  refine s_aload_n hK dX3_init_0 rfl ?_
  refine s_objinit hK dX3_init_1 kO_X3_1 (by omega) (by rfl) ?_
  refine s_aload_n hK dX3_init_4 rfl ?_
  refine s_iload_n hK dX3_init_5 rfl ?_
  refine s_ifge hK dX3_init_6 13 (by decide) (fun c_6 => ?_) (fun c_6 => ?_)
  · refine s_iload_n hK dX3_init_13 rfl ?_
    refine s_newarray hK (N := k) dX3_init_14 rfl (by first | decide | exact nI_pos (by omega)) (by first | rfl | exact nI_clamp (by omega)) (by omega) (by omega) (by omega) (fun q Q => ?_)
    have ne : a ≠ q := fun z => by rw [z, Q] at h0; cases h0
    have h1 : gU h q (.inl (0, k, .inl (fun _ => 0))) a = some (.inr (2, [.null])) := by rw [gU_ne ne, h0]
    refine s_putfinal hK dX3_init_16 kF_X3_7 rfl rfl (by assumption) (by rfl) (by rfl) (by rfl) ?_
    refine s_return hK dX3_init_19 rfl ?_
    refine hp _ q ⟨gU_eq _ _ _, ?_⟩ Q (((gNw.rf [a] h).al Q _).set (by simp) _)
    exact ⟨_, by rw [gU_ne (fun z => ne z.symm), gU_eq], fun _ _ => rfl⟩
  · exact absurd (nI_pos' (by omega)) c_6
set_option maxRecDepth 10000 in
theorem c_houseInit (d : Nat) {a : Nat} {h : gH} (h0 : h a = some (.inr (0, [.long 0, .long 0, .long 0, .long 0, .long 0, .long 0, .long 0, .long 0, .null]))) {mc ms : Nat} (hmc : 2 ≤ mc) (hms : 64 ≤ ms) {Post : Option Value → gH → Prop} {X : String → gH → Prop} (hp : ∀ h' r ar, HouseAt h' a r ar (fun _ => 0) (fun _ => 0) → h r = none → h ar = none → gNw [a] h h' → Post none h') : gSafe (d + 2) mX1_init [.ref a] h mc ms Post X := by
  refine ⟨Nat.le_of_ble_eq_true rfl, fun K hK => ?_⟩
  show K 0 [some (.ref a)] [] _ _ _
  refine s_aload_n hK dX1_init_0 rfl ?_
  refine s_objinit hK dX1_init_1 kO_X1_3 (by omega) (by rfl) ?_
  refine s_aload_n hK dX1_init_4 rfl ?_
  refine s_new hK (ci := 2) dX1_init_5 rfl kN_X1_9 kMk_X3 gB_X3 (by omega) (by omega) (fun r R => ?_)
  have ne : a ≠ r := fun z => by rw [z, R] at h0; cases h0
  refine s_dup hK dX1_init_8 rfl ?_
  refine s_bipush hK (v := 63) dX1_init_9 (by decide) ?_
  refine s_I1 hK (mc := 1) (ms := 63) dX1_init_11 kI_X1_11 (by rfl) (by omega) (by omega) ?_
  refine c_rowInit (k := 63) _ (by omega) (gU_eq _ _ _) (by omega) (by omega) (fun h1 ar R1 A F1 => ?_)
  have F : gNw [a] h h1 := gNw.call ((gNw.rf [a] h).al R _) F1 (fun q hq => by simp at hq; subst hq; exact Or.inl R)
  have ha : h1 a = h a := by
    refine (F1 a (by simpa using ne) ?_).trans (gU_ne ne)
    rw [gU_ne ne, h0]; exact fun z => nomatch z
  rw [h0] at ha
  have A2 : h ar = none := by
    by_cases e : ar = r
    · rw [e]; exact R
    · rw [gU_ne e] at A; exact A
  have ner : a ≠ ar := fun z => by rw [z, A2] at h0; cases h0
  refine s_putfinal hK dX1_init_14 kF_X1_14 rfl rfl (by assumption) (by rfl) (by rfl) (by rfl) ?_
  refine s_return hK dX1_init_17 rfl ?_
  exact hp _ r ar ⟨gU_eq _ _ _, ⟨(gU_ne (fun z => ne z.symm)).trans R1.1, R1.2.keep (gU_ne (fun z => ner z.symm))⟩⟩ R A2 (F.set (by simp) _)
set_option maxRecDepth 10000 in
theorem c_waysInit (d : Nat) {w : Nat} {h : gH} {mc ms : Nat} {Post : Option Value → gH → Prop} {X : String → gH → Prop} (hp : Post none h) : gSafe (d + 1) mX4_init [.ref w] h mc ms Post X := by
  refine ⟨Nat.le_of_ble_eq_true rfl, fun K hK => ?_⟩
  show K 0 [some (.ref w)] [] _ _ _
  refine s_aload_n hK dX4_init_0 rfl ?_
  refine s_objinit hK dX4_init_1 kO_X4_3 (by omega) (by rfl) ?_
  refine s_return hK dX4_init_4 rfl ?_
  exact hp
theorem trF_0 (j : Nat) : trF (fun _ _ => 0) j = 0 := by
  unfold trF
  have h8 : j % 8 < 8 := Nat.mod_lt _ (by omega)
  generalize j % 8 = k at h8
  match k, h8 with
  | 0, _ => rfl
  | 1, _ => exact (by decide : nI (0 / 9) = 0)
  | 2, _ => rfl
  | 3, _ => rfl
  | 4, _ => exact (by decide : nI (0 / 9) = 0)
  | 5, _ => rfl
  | 6, _ => rfl
  | 7, _ => rfl
  | k + 8, q => exact absurd q (by omega)
def n7 (a b c e f g i : Nat) : Nat → Nat
  | 0 => a
  | 1 => b
  | 2 => c
  | 3 => e
  | 4 => f
  | 5 => g
  | _ => i
theorem gNw.kp {S : List Nat} {h h' : gH} {q : Nat} {o : gO} (F : gNw S h h') (hq : h q = some o) (hS : q ∉ S) : h' q = some o := (F q hS (by rw [hq]; exact fun z => nomatch z)).trans hq
theorem ne_of {h : gH} {p q : Nat} {o : gO} (hp : h p = some o) (hq : h q = none) : p ≠ q := fun z => by rw [z, hq] at hp; cases hp
set_option maxRecDepth 10000 in
theorem c_nightInit (d : Nat) {a : Nat} {h : gH} (h0 : h a = some (.inr (1, [.null, .null, .null, .int 0, .int 0]))) {mc ms : Nat} (hmc : 6 ≤ mc) (hms : 127 ≤ ms) {Post : Option Value → gH → Prop} {X : String → gH → Prop} (hp : ∀ h' n, n 0 = a → NightAt h' n (fun _ => 0) (fun _ => 0) (fun _ _ => 0) 0 0 → (∀ i, 0 < i → i < 7 → h (n i) = none) → gNw [a] h h' → Post none h') : gSafe (d + 3) mX2_init [.ref a] h mc ms Post X := by
  refine ⟨Nat.le_of_ble_eq_true rfl, fun K hK => ?_⟩
  show K 0 [some (.ref a)] [] _ _ _
  refine s_aload_n hK dX2_init_0 rfl ?_
  refine s_objinit hK dX2_init_1 kO_X2_3 (by omega) (by rfl) ?_
  refine s_aload_n hK dX2_init_4 rfl ?_
  refine s_new hK (ci := 0) dX2_init_5 rfl kN_X2_9 kMk_X1 gB_X1 (by omega) (by omega) (fun b B => ?_)
  have ab : a ≠ b := ne_of h0 B
  refine s_dup hK dX2_init_8 rfl ?_
  refine s_I0 hK (mc := 2) (ms := 64) dX2_init_9 kI_X2_11 (by rfl) (by omega) (by omega) ?_
  refine c_houseInit _ (gU_eq _ _ _) (by omega) (by omega) (fun h1 r ar H1 R A F1 => ?_)
  have F : gNw [a] h h1 := gNw.call ((gNw.rf [a] h).al B _) F1 (fun q hq => by simp at hq; subst hq; exact Or.inl B)
  have a1 : h1 a = _ := F1.kp (q := a) (o := .inr (1, [.null, .null, .null, .int 0, .int 0])) ((gU_ne ab).trans h0) (by simpa using ab)
  have R : h r = none := by
    by_cases e : r = b
    · rw [e]; exact B
    · rw [gU_ne e] at R; exact R
  have A : h ar = none := by
    by_cases e : ar = b
    · rw [e]; exact B
    · rw [gU_ne e] at A; exact A
  refine s_putfinal hK dX2_init_12 kF_X2_12 rfl rfl (by assumption) (by rfl) (by rfl) (by rfl) ?_
  have F := F.set (q := a) (by simp) (.inr (1, [.ref b, .null, .null, .int 0, .int 0]))
  have a2 : gU h1 a (.inr (1, [.ref b, .null, .null, .int 0, .int 0])) a = some (.inr (1, [.ref b, .null, .null, .int 0, .int 0])) := gU_eq _ _ _
  have H2 : HouseAt (gU h1 a (.inr (1, [.ref b, .null, .null, .int 0, .int 0]))) b r ar (fun _ => 0) (fun _ => 0) := H1.keep (gU_ne ab.symm) (gU_ne (ne_of h0 R).symm) (gU_ne (ne_of h0 A).symm)
  clear H1 a1 F1
  generalize hh2 : gU h1 a (.inr (1, [.ref b, .null, .null, .int 0, .int 0])) = h2 at F a2 H2
  have hh3 : gU h1 a (.inr (1, ([.null, .null, .null, .int 0, .int 0] : List Value).set 0 (.ref b))) = h2 := hh2
  rw [hh3]
  refine s_aload_n hK dX2_init_15 rfl ?_
  refine s_new hK (ci := 3) dX2_init_16 rfl kN_X2_18 kMk_X4 gB_X4 (by omega) (by omega) (fun w W => ?_)
  have aw : a ≠ w := ne_of a2 W
  have W0 : h w = none := F.none W (by simpa using aw.symm)
  have a3 : gU h2 w (.inr (3, [.long 0, .int 0, .long 0, .long 0])) a = some (.inr (1, [.ref b, .null, .null, .int 0, .int 0])) := (gU_ne aw).trans a2
  have F3 := F.al W (.inr (3, [.long 0, .int 0, .long 0, .long 0]))
  refine s_dup hK dX2_init_19 rfl ?_
  refine s_I00 hK dX2_init_20 kI_X2_20 (by rfl) ?_
  refine c_waysInit _ ?_
  have F3 := F.al W (.inr (3, [.long 0, .int 0, .long 0, .long 0]))
  have a3 : gU h2 w (.inr (3, [.long 0, .int 0, .long 0, .long 0])) a = some (.inr (1, [.ref b, .null, .null, .int 0, .int 0])) := (gU_ne aw).trans a2
  have w3 : gU h2 w (.inr (3, [.long 0, .int 0, .long 0, .long 0])) w = some (.inr (3, [.long 0, .int 0, .long 0, .long 0])) := gU_eq _ _ _
  have H3 := H2.keep (h' := gU h2 w (.inr (3, [.long 0, .int 0, .long 0, .long 0]))) (gU_ne (ne_of H2.1 W)) (gU_ne (ne_of H2.2.1 W)) (gU_ne (by obtain ⟨f', e, -⟩ := H2.2.2; exact ne_of e W))
  generalize gU h2 w (.inr (3, [.long 0, .int 0, .long 0, .long 0])) = h3 at F3 a3 w3 H3
  refine s_putfinal hK dX2_init_23 kF_X2_21 rfl rfl (by assumption) (by rfl) (by rfl) (by rfl) ?_
  have F4 := F3.set (q := a) (by simp) (.inr (1, [.ref b, .ref w, .null, .int 0, .int 0]))
  have a4 : gU h3 a (.inr (1, [.ref b, .ref w, .null, .int 0, .int 0])) a = some (.inr (1, [.ref b, .ref w, .null, .int 0, .int 0])) := gU_eq _ _ _
  have w4 := (gU_ne (h := h3) (o := .inr (1, [.ref b, .ref w, .null, .int 0, .int 0])) aw.symm).trans w3
  have H4 := H3.keep (h' := gU h3 a (.inr (1, [.ref b, .ref w, .null, .int 0, .int 0]))) (gU_ne ab.symm) (gU_ne (ne_of h0 R).symm) (gU_ne (ne_of h0 A).symm)
  generalize hh4 : gU h3 a (.inr (1, [.ref b, .ref w, .null, .int 0, .int 0])) = h4 at F4 a4 w4 H4
  have hh5 : gU h3 a (.inr (1, ([.ref b, .null, .null, .int 0, .int 0] : List Value).set 1 (.ref w))) = h4 := hh4
  rw [hh5]
  refine s_aload_n hK dX2_init_26 rfl ?_
  refine s_new hK (ci := 2) dX2_init_27 rfl kN_X2_25 kMk_X3 gB_X3 (by omega) (by omega) (fun t T => ?_)
  have at_ : a ≠ t := ne_of a4 T
  have T0 : h t = none := F4.none T (by simpa using at_.symm)
  refine s_dup hK dX2_init_30 rfl ?_
  refine s_bipush hK (v := 48) dX2_init_31 (by decide) ?_
  refine s_I1 hK (mc := 1) (ms := 48) dX2_init_33 kI_X2_27 (by rfl) (by omega) (by omega) ?_
  refine c_rowInit (k := 48) _ (by omega) (gU_eq _ _ _) (by omega) (by omega) (fun h5 tr R5 TR F5 => ?_)
  have wt : w ≠ t := ne_of w4 T
  have bt : b ≠ t := ne_of H4.1 T
  have rt : r ≠ t := ne_of H4.2.1 T
  have art : ar ≠ t := by obtain ⟨f', e, -⟩ := H4.2.2; exact ne_of e T
  have a5 : h5 a = some (.inr (1, [.ref b, .ref w, .null, .int 0, .int 0])) := F5.kp ((gU_ne at_).trans a4) (by simpa using at_)
  have w5 : h5 w = some (.inr (3, [.long 0, .int 0, .long 0, .long 0])) := F5.kp ((gU_ne wt).trans w4) (by simpa using wt)
  have H5 : HouseAt h5 b r ar (fun _ => 0) (fun _ => 0) := by
    refine H4.keep ?_ ?_ ?_
    · rw [H4.1]; exact F5.kp ((gU_ne bt).trans H4.1) (by simpa using bt)
    · rw [H4.2.1]; exact F5.kp ((gU_ne rt).trans H4.2.1) (by simpa using rt)
    · obtain ⟨f', e, -⟩ := H4.2.2
      rw [e]; exact F5.kp ((gU_ne art).trans e) (by simpa using art)
  have TR : h4 tr = none := by
    by_cases e : tr = t
    · rw [e]; exact T
    · rw [gU_ne e] at TR; exact TR
  have atr : a ≠ tr := ne_of a4 TR
  have wtr : w ≠ tr := ne_of w4 TR
  have artr : ar ≠ tr := by obtain ⟨f', e, -⟩ := H4.2.2; exact ne_of e TR
  have TR0 : h tr = none := F4.none TR (by simpa using atr.symm)
  have F6 : gNw [a] h h5 := gNw.call (F4.al T _) F5 (fun q hq => by simp at hq; subst hq; exact Or.inl T0)
  refine s_putfinal hK dX2_init_36 kF_X2_30 rfl rfl (by assumption) (by rfl) (by rfl) (by rfl) ?_
  refine s_return hK dX2_init_39 rfl ?_
  refine hp _ (n7 a b r ar w t tr) rfl ⟨gU_eq _ _ _, H5.keep (gU_ne ab.symm) (gU_ne (ne_of h0 R).symm) (gU_ne (ne_of h0 A).symm), ⟨0, false, 0, 0, (gU_ne aw.symm).trans w5⟩, ⟨(gU_ne at_.symm).trans R5.1, ?_⟩, artr⟩ (fun i h0 h7 => ?_) (F6.set (by simp) _)
  · obtain ⟨f', e, k⟩ := R5.2
    exact ⟨f', (gU_ne atr.symm).trans e, fun j hj => (k j hj).trans (trF_0 j).symm⟩
  · match i, h0, h7 with
    | 1, _, _ => exact B
    | 2, _, _ => exact R
    | 3, _, _ => exact A
    | 4, _, _ => exact W0
    | 5, _, _ => exact T0
    | 6, _, _ => exact TR0
    | i + 7, _, q => exact absurd q (by omega)
abbrev S0 : CS := (fun _ => 0, fun _ => 0, fun _ _ => 0, 0, 0)
theorem NightAt.there {h : gH} {n : Nat → Nat} {L : Nat → Int64} {am : Nat → Int32} {G : Nat → Nat → Nat} {gc hr : Nat} (N : NightAt h n L am G gc hr) : ∀ i, i < 7 → ∃ o, h (n i) = some o := by
  obtain ⟨h0, ⟨h1, h2, f3, h3, -⟩, ⟨own, mp, pl, ps, h4⟩, ⟨h5, f6, h6, -⟩, -⟩ := N
  have h4 : h (n 4) = _ := h4
  intro i hi
  match i, hi with
  | 0, _ => exact ⟨_, h0⟩
  | 1, _ => exact ⟨_, h1⟩
  | 2, _ => exact ⟨_, h2⟩
  | 3, _ => exact ⟨_, h3⟩
  | 4, _ => exact ⟨_, h4⟩
  | 5, _ => exact ⟨_, h5⟩
  | 6, _ => exact ⟨_, h6⟩
  | i + 7, q => exact absurd q (by omega)
set_option maxRecDepth 10000 in
theorem c_clsInit (d : Nat) {a : Nat} {h : gH} (h0 : h a = some (.inr (4, [.null, .null]))) {mc ms : Nat} (hmc : 14 ≤ mc) (hms : 264 ≤ ms) {Post : Option Value → gH → Prop} {X : String → gH → Prop} (hp : ∀ h' n n', ClsAt h' a n n' S0 → (∀ i, i < 7 → h (n i) = none ∧ h (n' i) = none) → gNw [a] h h' → Post none h') : gSafe (d + 4) mX5_init [.ref a] h mc ms Post X := by
  refine ⟨Nat.le_of_ble_eq_true rfl, fun K hK => ?_⟩
  show K 0 [some (.ref a)] [] _ _ _
  refine s_aload_n hK dX5_init_0 rfl ?_
  refine s_objinit hK dX5_init_1 kO_X5_1 (by omega) (by rfl) ?_
  refine s_aload_n hK dX5_init_4 rfl ?_
  refine s_new hK (ci := 1) dX5_init_5 rfl kN_X5_7 kMk_X2 gB_X2 (by omega) (by omega) (fun b B => ?_)
  have ab : a ≠ b := ne_of h0 B
  refine s_dup hK dX5_init_8 rfl ?_
  refine s_I0 hK (mc := 6) (ms := 127) dX5_init_9 kI_X5_9 (by rfl) (by omega) (by omega) ?_
  refine c_nightInit _ (gU_eq _ _ _) (by omega) (by omega) (fun h1 n e1 N1 F1 G1 => ?_)
  subst e1
  have F : gNw [a] h h1 := gNw.call ((gNw.rf [a] h).al B _) G1 (fun q hq => by simp at hq; subst hq; exact Or.inl B)
  have a1 : h1 a = some (.inr (4, [.null, .null])) := G1.kp ((gU_ne ab).trans h0) (by simpa using ab)
  have Fn : ∀ i, i < 7 → h (n i) = none := fun i hi => by
    by_cases e : i = 0
    · rw [e]; exact B
    · have := F1 i (by omega) hi
      by_cases e2 : n i = n 0
      · rw [e2]; exact B
      · rw [gU_ne e2] at this; exact this
  have N2 : NightAt (gU h1 a (.inr (4, [.ref (n 0), .null]))) n (fun _ => 0) (fun _ => 0) (fun _ _ => 0) 0 0 := N1.keep (fun i hi => gU_ne (ne_of h0 (Fn i hi)).symm)
  have a2 : gU h1 a (.inr (4, [.ref (n 0), .null])) a = some (.inr (4, [.ref (n 0), .null])) := gU_eq _ _ _
  have F2 := F.set (q := a) (by simp) (.inr (4, [.ref (n 0), .null]))
  refine s_putfinal hK dX5_init_12 kF_X5_10 rfl rfl (by assumption) (by rfl) (by rfl) (by rfl) ?_
  generalize hh2 : gU h1 a (.inr (4, [.ref (n 0), .null])) = h2 at N2 a2 F2
  have hh3 : gU h1 a (.inr (4, ([.null, .null] : List Value).set 0 (.ref (n 0)))) = h2 := hh2
  rw [hh3]
  refine s_aload_n hK dX5_init_15 rfl ?_
  refine s_new hK (ci := 1) dX5_init_16 rfl kN_X5_7 kMk_X2 gB_X2 (by omega) (by omega) (fun c C => ?_)
  have ac : a ≠ c := ne_of a2 C
  have C0 : h c = none := F2.none C (by simpa using ac.symm)
  refine s_dup hK dX5_init_19 rfl ?_
  refine s_I0 hK (mc := 6) (ms := 127) dX5_init_20 kI_X5_9 (by rfl) (by omega) (by omega) ?_
  refine c_nightInit _ (gU_eq _ _ _) (by omega) (by omega) (fun h3 n' e3 N3 F3 G3 => ?_)
  subst e3
  have nc : ∀ i, i < 7 → n i ≠ n' 0 := fun i hi => by
    obtain ⟨o, e⟩ := N2.there i hi
    exact ne_of e C
  have Fn2 : ∀ i, i < 7 → h2 (n' i) = none := fun i hi => by
    by_cases e : i = 0
    · rw [e]; exact C
    · have := F3 i (by omega) hi
      by_cases e2 : n' i = n' 0
      · rw [e2]; exact C
      · rw [gU_ne e2] at this; exact this
  have an : ∀ i, i < 7 → a ≠ n' i := fun i hi => ne_of a2 (Fn2 i hi)
  have Fn' : ∀ i, i < 7 → h (n' i) = none := fun i hi => F2.none (Fn2 i hi) (by simpa using (an i hi).symm)
  have F4 : gNw [a] h h3 := gNw.call (F2.al C _) G3 (fun q hq => by simp at hq; subst hq; exact Or.inl C0)
  have a4 : h3 a = some (.inr (4, [.ref (n 0), .null])) := G3.kp ((gU_ne ac).trans a2) (by simpa using ac)
  have N4 : NightAt h3 n (fun _ => 0) (fun _ => 0) (fun _ _ => 0) 0 0 := N2.keep (fun i hi => by
    obtain ⟨o, e⟩ := N2.there i hi
    rw [e]
    exact G3.kp ((gU_ne (nc i hi)).trans e) (by simpa using nc i hi))
  refine s_putfinal hK dX5_init_23 kF_X5_16 rfl rfl (by assumption) (by rfl) (by rfl) (by rfl) ?_
  refine s_return hK dX5_init_26 rfl ?_
  refine hp _ n n' ⟨gU_eq _ _ _, N4.keep (fun i hi => gU_ne (ne_of h0 (Fn i hi)).symm), ⟨S0, N3.keep (fun i hi => gU_ne (an i hi).symm)⟩, fun i j hi hj => ?_⟩ (fun i hi => ⟨Fn i hi, Fn' i hi⟩) (F4.set (by simp) _)
  obtain ⟨o, e⟩ := N2.there i hi
  exact ne_of e (Fn2 j hj)
