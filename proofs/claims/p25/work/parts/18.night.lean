/-! Night: its ghosts' traits -/
def trG (G : Nat → Nat → Nat) (g k : Nat) : Nat := match k with
  | 0 => G g 0 % 9
  | 1 => G g 0 / 9
  | 2 => G g 1
  | 3 => G g 2 % 9
  | 4 => G g 2 / 9
  | 5 => G g 3
  | 6 => G g 4
  | _ => G g 5
def trF (G : Nat → Nat → Nat) (j : Nat) : Int32 := nI (trG G (j / 8) (j % 8))
theorem trF_at (G : Nat → Nat → Nat) {g k : Nat} (hk : k < 8) : trF G (g * 8 + k) = nI (trG G g k) := by
  unfold trF
  rw [show (g * 8 + k) / 8 = g by omega, show (g * 8 + k) % 8 = k by omega]
def setG (G : Nat → Nat → Nat) (g k v : Nat) : Nat → Nat → Nat := fun g' k' => if g' = g ∧ k' = k then v else G g' k'
theorem setG_same (G : Nat → Nat → Nat) (g k v : Nat) : setG G g k v g k = v := if_pos ⟨rfl, rfl⟩
theorem setG_ne (G : Nat → Nat → Nat) {g k g' k' : Nat} (v : Nat) (h : ¬ (g' = g ∧ k' = k)) : setG G g k v g' k' = G g' k' := if_neg h
def tIx (k : Nat) : Nat := match k with
  | 2 => 1
  | 5 => 3
  | 6 => 4
  | _ => 5
theorem trF_set (G : Nat → Nat → Nat) {g k v : Nat} (hk : k = 2 ∨ k = 5 ∨ k = 6 ∨ k = 7) (j : Nat) : upd (trF G) (g * 8 + k) (nI v) j = trF (setG G g (tIx k) v) j := by
  unfold upd
  by_cases e : j = g * 8 + k
  · rw [if_pos e, e, trF_at _ (by omega)]
    rcases hk with rfl | rfl | rfl | rfl <;> simp [trG, tIx, setG]
  · rw [if_neg e]
    unfold trF
    congr 1
    by_cases e2 : j / 8 = g
    · have e3 : j % 8 ≠ k := by omega
      rw [e2]
      have h8 : j % 8 < 8 := Nat.mod_lt _ (by omega)
      generalize j % 8 = q at e3 h8
      rcases hk with rfl | rfl | rfl | rfl <;> (match q, h8 with
        | 0, _ => simp [trG, tIx, setG]
        | 1, _ => simp [trG, tIx, setG]
        | 2, _ => simp_all [trG, tIx, setG]
        | 3, _ => simp [trG, tIx, setG]
        | 4, _ => simp [trG, tIx, setG]
        | 5, _ => simp_all [trG, tIx, setG]
        | 6, _ => simp_all [trG, tIx, setG]
        | 7, _ => simp_all [trG, tIx, setG])
    · generalize j % 8 = q
      unfold trG
      split <;> simp [setG, e2]
theorem trF_cell (G : Nat → Nat → Nat) {g c : Nat} (j : Nat) : upd (upd (trF G) (g * 8 + 0) (nI (c % 9))) (g * 8 + 1) (nI (c / 9)) j = trF (setG G g 0 c) j := by
  unfold upd
  by_cases e : j = g * 8 + 1
  · rw [if_pos e, e, trF_at _ (by omega)]
    simp [trG, setG]
  · rw [if_neg e]
    by_cases e0 : j = g * 8 + 0
    · rw [if_pos e0, e0, trF_at _ (by omega)]
      simp [trG, setG]
    · rw [if_neg e0]
      unfold trF
      congr 1
      by_cases e2 : j / 8 = g
      · have e3 : j % 8 ≠ 0 ∧ j % 8 ≠ 1 := by omega
        have h8 : j % 8 < 8 := Nat.mod_lt _ (by omega)
        rw [e2]
        generalize j % 8 = q at e3 h8
        match q, h8 with
        | 0, _ => exact absurd rfl e3.1
        | 1, _ => exact absurd rfl e3.2
        | 2, _ => simp [trG, setG]
        | 3, _ => simp [trG, setG]
        | 4, _ => simp [trG, setG]
        | 5, _ => simp [trG, setG]
        | 6, _ => simp [trG, setG]
        | 7, _ => simp [trG, setG]
      · generalize j % 8 = q
        unfold trG
        split <;> simp [setG, e2]
theorem trF_goal (G : Nat → Nat → Nat) {g c : Nat} (j : Nat) : upd (upd (trF G) (g * 8 + 3) (nI (c % 9))) (g * 8 + 4) (nI (c / 9)) j = trF (setG G g 2 c) j := by
  unfold upd
  by_cases e : j = g * 8 + 4
  · rw [if_pos e, e, trF_at _ (by omega)]
    simp [trG, setG]
  · rw [if_neg e]
    by_cases e0 : j = g * 8 + 3
    · rw [if_pos e0, e0, trF_at _ (by omega)]
      simp [trG, setG]
    · rw [if_neg e0]
      unfold trF
      congr 1
      by_cases e2 : j / 8 = g
      · have e3 : j % 8 ≠ 3 ∧ j % 8 ≠ 4 := by omega
        have h8 : j % 8 < 8 := Nat.mod_lt _ (by omega)
        rw [e2]
        generalize j % 8 = q at e3 h8
        match q, h8 with
        | 0, _ => simp [trG, setG]
        | 1, _ => simp [trG, setG]
        | 2, _ => simp [trG, setG]
        | 3, _ => exact absurd rfl e3.1
        | 4, _ => exact absurd rfl e3.2
        | 5, _ => simp [trG, setG]
        | 6, _ => simp [trG, setG]
        | 7, _ => simp [trG, setG]
      · generalize j % 8 = q
        unfold trG
        split <;> simp [setG, e2]
/-- a Night at n 0, its House n 1 (amounts n 2, n 3), its Ways n 4, its traits n 5, n 6 -/
def NightAt (h : gH) (n : Nat → Nat) (L : Nat → Int64) (am : Nat → Int32) (G : Nat → Nat → Nat) (gc hr : Nat) : Prop :=
  h (n 0) = some (.inr (1, [.ref (n 1), .ref (n 4), .ref (n 5), .int (nI gc), .int (nI hr)])) ∧ HouseAt h (n 1) (n 2) (n 3) L am ∧ (∃ own mp pl ps, WaysAt h (n 4) own mp pl ps) ∧ RowAt h (n 5) (n 6) 48 (trF G) ∧ n 3 ≠ n 6
def nS (n : Nat → Nat) : List Nat := [n 0, n 1, n 3, n 4, n 6]
/-- objects of two sorts lie apart -/
theorem ap {h : gH} {x z : Nat} {o o' : gO} (hx : h x = some o) (hz : h z = some o') (hne : o ≠ o') : x ≠ z := by
  intro e
  rw [e, hz] at hx
  exact hne (Option.some.inj hx).symm
theorem NightAt.apart {h : gH} {n : Nat → Nat} {L : Nat → Int64} {am : Nat → Int32} {G : Nat → Nat → Nat} {gc hr : Nat} (N : NightAt h n L am G gc hr) :
    n 0 ≠ n 1 ∧ n 0 ≠ n 2 ∧ n 0 ≠ n 3 ∧ n 0 ≠ n 4 ∧ n 0 ≠ n 5 ∧ n 0 ≠ n 6 ∧ n 1 ≠ n 4 ∧ n 1 ≠ n 5 ∧ n 1 ≠ n 6 ∧ n 2 ≠ n 4 ∧ n 2 ≠ n 6 ∧ n 3 ≠ n 4 ∧ n 3 ≠ n 5 ∧ n 3 ≠ n 6 ∧ n 4 ≠ n 5 ∧ n 4 ≠ n 6 := by
  obtain ⟨h0, ⟨h1, h2, f3, h3, -⟩, ⟨own, mp, pl, ps, h4⟩, ⟨h5, f6, h6, -⟩, h36⟩ := N
  have h4 : h (n 4) = _ := h4
  have a1 : ∀ {i j : Nat} {x z : List Value}, i ≠ j → (Sum.inr (i, x) : gO) ≠ Sum.inr (j, z) := fun hij e => by cases e; exact hij rfl
  have a2 : ∀ {x : Nat × List Value} {z : Nat × vp_A}, (Sum.inr x : gO) ≠ Sum.inl z := fun e => by cases e
  have a3 : ∀ {x : Nat × List Value} {z : Nat × vp_A}, (Sum.inl z : gO) ≠ Sum.inr x := fun e => by cases e
  exact ⟨ap h0 h1 (a1 (by decide)), ap h0 h2 (a1 (by decide)), ap h0 h3 a2, ap h0 h4 (a1 (by decide)), ap h0 h5 (a1 (by decide)), ap h0 h6 a2, ap h1 h4 (a1 (by decide)), ap h1 h5 (a1 (by decide)), ap h1 h6 a2, ap h2 h4 (a1 (by decide)), ap h2 h6 a2, ap h3 h4 a3, ap h3 h5 a3, h36, ap h4 h5 (a1 (by decide)), ap h4 h6 a2⟩
theorem NightAt.house {h h' : gH} {n : Nat → Nat} {L L' : Nat → Int64} {am am' : Nat → Int32} {G : Nat → Nat → Nat} {gc hr : Nat} (N : NightAt h n L am G gc hr) (H : HouseAt h' (n 1) (n 2) (n 3) L' am') (F : gFr [n 1, n 3] h h') : NightAt h' n L' am' G gc hr := by
  obtain ⟨-, -, -, -, -, -, a14, a15, a16, -, -, a34, a35, a36, -, -⟩ := N.apart
  obtain ⟨a01, -, a03, -⟩ := N.apart
  obtain ⟨h0, h1, ⟨own, mp, pl, ps, h4⟩, ⟨h5, h6⟩, h36⟩ := N
  exact ⟨(F _ (by simp [a01, a03])).trans h0, H, ⟨own, mp, pl, ps, (F _ (by simp [a14.symm, a34.symm])).trans h4⟩, ⟨(F _ (by simp [a15.symm, a35.symm])).trans h5, h6.keep (F _ (by simp [a16.symm, a36.symm]))⟩, h36⟩
theorem NightAt.ways {h h' : gH} {n : Nat → Nat} {L : Nat → Int64} {am : Nat → Int32} {G : Nat → Nat → Nat} {gc hr : Nat} {own pl ps : Int64} {mp : Bool} (N : NightAt h n L am G gc hr) (W : WaysAt h' (n 4) own mp pl ps) (F : gFr [n 4] h h') : NightAt h' n L am G gc hr := by
  obtain ⟨-, -, -, -, -, -, a14, a15, a16, a24, -, a34, a35, a36, a45, a46⟩ := N.apart
  obtain ⟨a01, -, a03, a04, -⟩ := N.apart
  obtain ⟨h0, h1, -, ⟨h5, h6⟩, h36⟩ := N
  exact ⟨(F _ (by simp [a04])).trans h0, h1.keep (F _ (by simp [a14])) (F _ (by simp [a24])) (F _ (by simp [a34])), ⟨own, mp, pl, ps, W⟩, ⟨(F _ (by simp [a45.symm])).trans h5, h6.keep (F _ (by simp [a46.symm]))⟩, h36⟩
theorem NightAt.traits {h h' : gH} {n : Nat → Nat} {L : Nat → Int64} {am : Nat → Int32} {G G' : Nat → Nat → Nat} {gc hr : Nat} (N : NightAt h n L am G gc hr) (R : RowAt h' (n 5) (n 6) 48 (trF G')) (F : gFr [n 6] h h') : NightAt h' n L am G' gc hr := by
  obtain ⟨-, -, -, -, -, a06, a14, a15, a16, a24, a26, a34, a35, a36, a45, a46⟩ := N.apart
  obtain ⟨h0, h1, ⟨own, mp, pl, ps, h4⟩, -, h36⟩ := N
  exact ⟨(F _ (by simp [a06])).trans h0, h1.keep (F _ (by simp [a16])) (F _ (by simp [a26])) (F _ (by simp [a36])), ⟨own, mp, pl, ps, (F _ (by simp [a46])).trans h4⟩, R, h36⟩
theorem NightAt.own {h h' : gH} {n : Nat → Nat} {L : Nat → Int64} {am : Nat → Int32} {G : Nat → Nat → Nat} {gc hr gc' hr' : Nat} (N : NightAt h n L am G gc hr) (e : h' (n 0) = some (.inr (1, [.ref (n 1), .ref (n 4), .ref (n 5), .int (nI gc'), .int (nI hr')]))) (F : gFr [n 0] h h') : NightAt h' n L am G gc' hr' := by
  obtain ⟨a01, a02, a03, a04, a05, a06, -⟩ := N.apart
  obtain ⟨h0, h1, ⟨own, mp, pl, ps, h4⟩, ⟨h5, h6⟩, h36⟩ := N
  exact ⟨e, h1.keep (F _ (by simp [a01.symm])) (F _ (by simp [a02.symm])) (F _ (by simp [a03.symm])), ⟨own, mp, pl, ps, (F _ (by simp [a04.symm])).trans h4⟩, ⟨(F _ (by simp [a05.symm])).trans h5, h6.keep (F _ (by simp [a06.symm]))⟩, h36⟩
set_option maxRecDepth 10000 in
theorem c_trait (d : Nat) {n : Nat → Nat} {L : Nat → Int64} {am : Nat → Int32} {G : Nat → Nat → Nat} {gc hr g k : Nat} (hg : g < 6) (hk : k < 8) {h : gH} (N : NightAt h n L am G gc hr) {mc ms : Nat} {Post : Option Value → gH → Prop} {X : String → gH → Prop} (hp : Post (some (.int (nI (trG G g k)))) h) : gSafe (d + 2) mX2_trait [.ref (n 0), .int (nI g), .int (nI k)] h mc ms Post X := by
  have N0 := N.1
  have N5 := N.2.2.2.1.1
  refine ⟨Nat.le_of_ble_eq_true rfl, fun K hK => ?_⟩
  show K 0 [some (.ref (n 0)), some (.int (nI g)), some (.int (nI k))] [] _ _ _
  refine s_aload_n hK dX2_trait_0 rfl ?_
  refine s_getfield hK dX2_trait_1 kF_X2_30 (by first | assumption | exact H.1 | exact H.2.1) (by rfl) ?_
  refine s_iload_n hK dX2_trait_4 rfl ?_
  refine s_bipush hK (v := 8) dX2_trait_5 (by decide) ?_
  refine s_imul hK dX2_trait_7 ?_
  refine s_iload_n hK dX2_trait_8 rfl ?_
  refine s_iadd hK dX2_trait_9 ?_
  rw [show (8 : Int32) = nI 8 from rfl, pk_mul, nI_add]
  refine s_V10 hK dX2_trait_10 kV_X2_48 (by first | assumption | exact H.1 | exact H.2.1) (by rfl) ?_
  refine c_get _ (by omega) (by omega) N.2.2.2.1 ?_
  rw [trF_at _ hk]
  refine s_ireturn hK dX2_trait_13 rfl (by first | rfl | exact b01_nar _) ?_
  exact hp
set_option maxRecDepth 10000 in
theorem c_setRaw (d : Nat) {a w r ar gcv hrv hs : Nat} {T : Nat → Int32} {x : Int32} {g k : Nat} {v3 v4 : Value} (hg : g < 6) (hk : k < 8) {h : gH} (h0 : h a = some (.inr (1, [.ref hs, .ref w, .ref r, v3, v4]))) (R : RowAt h r ar 48 T) {mc ms : Nat} {Post : Option Value → gH → Prop} {X : String → gH → Prop} (hp : ∀ h', RowAt h' r ar 48 (upd T (g * 8 + k) x) → gFr [ar] h h' → Post none h') : gSafe (d + 2) mX2_setTrait [.ref a, .int (nI g), .int (nI k), .int x] h mc ms Post X := by
  have N5 := R.1
  refine ⟨Nat.le_of_ble_eq_true rfl, fun K hK => ?_⟩
  show K 0 [some (.ref a), some (.int (nI g)), some (.int (nI k)), some (.int x)] [] _ _ _
  refine s_aload_n hK dX2_setTrait_0 rfl ?_
  refine s_getfield hK dX2_setTrait_1 kF_X2_30 (by first | assumption | exact H.1 | exact H.2.1) (by rfl) ?_
  refine s_iload_n hK dX2_setTrait_4 rfl ?_
  refine s_bipush hK (v := 8) dX2_setTrait_5 (by decide) ?_
  refine s_imul hK dX2_setTrait_7 ?_
  refine s_iload_n hK dX2_setTrait_8 rfl ?_
  refine s_iadd hK dX2_setTrait_9 ?_
  rw [show (8 : Int32) = nI 8 from rfl, pk_mul, nI_add]
  refine s_iload_n hK dX2_setTrait_10 rfl ?_
  refine s_V20 hK dX2_setTrait_11 kV_X2_52 (by first | assumption | exact H.1 | exact H.2.1) (by rfl) ?_
  refine c_put _ (by omega) (by omega) R (fun h9 R9 F9 => ?_)
  refine s_return hK dX2_setTrait_14 rfl ?_
  exact hp _ R9 F9
/-- one trait but the cell and the goal -/
theorem c_setTrait (d : Nat) {n : Nat → Nat} {L : Nat → Int64} {am : Nat → Int32} {G : Nat → Nat → Nat} {gc hr g k v : Nat} (hg : g < 6) (hk : k = 2 ∨ k = 5 ∨ k = 6 ∨ k = 7) {h : gH} (N : NightAt h n L am G gc hr) {mc ms : Nat} {Post : Option Value → gH → Prop} {X : String → gH → Prop} (hp : ∀ h', NightAt h' n L am (setG G g (tIx k) v) gc hr → gFr (nS n) h h' → Post none h') : gSafe (d + 2) mX2_setTrait [.ref (n 0), .int (nI g), .int (nI k), .int (nI v)] h mc ms Post X := by
  refine c_setRaw (gcv := 0) (hrv := 0) d hg (by omega) N.1 N.2.2.2.1 (fun h' R F => ?_)
  exact hp h' (N.traits ⟨R.1, R.2.cong (fun j _ => trF_set G hk j)⟩ F) (F.mono (by simp [nS]))
set_option maxRecDepth 10000 in
theorem c_setCell (d : Nat) {n : Nat → Nat} {L : Nat → Int64} {am : Nat → Int32} {G : Nat → Nat → Nat} {gc hr g c : Nat} (hg : g < 6) (hc : c < 63) {h : gH} (N : NightAt h n L am G gc hr) {mc ms : Nat} {Post : Option Value → gH → Prop} {X : String → gH → Prop} (hp : ∀ h', NightAt h' n L am (setG G g 0 c) gc hr → gFr (nS n) h h' → Post none h') : gSafe (d + 3) mX2_setCell [.ref (n 0), .int (nI g), .int (nI c)] h mc ms Post X := by
  have N0 := N.1
  have a06 := N.apart.2.2.2.2.2.1
  refine ⟨Nat.le_of_ble_eq_true rfl, fun K hK => ?_⟩
  show K 0 [some (.ref (n 0)), some (.int (nI g)), some (.int (nI c))] [] _ _ _
  refine s_aload_n hK dX2_setCell_0 rfl ?_
  refine s_iload_n hK dX2_setCell_1 rfl ?_
  refine s_iconst hK (v := 0) dX2_setCell_2 (by decide) ?_
  refine s_iload_n hK dX2_setCell_3 rfl ?_
  refine s_bipush hK (v := 9) dX2_setCell_4 (by decide) ?_
  refine s_irem hK dX2_setCell_6 (by decide) ?_
  rw [show (9 : Int32) = nI 9 from rfl, pk_rem (by omega) (by omega) (by omega)]
  refine s_V30 hK dX2_setCell_7 kV_X2_60 (by first | assumption | exact H.1 | exact H.2.1) (by rfl) ?_
  refine c_setRaw (gcv := 0) (hrv := 0) (k := 0) _ hg (by omega) N.1 N.2.2.2.1 (fun h1 R1 F1 => ?_)
  have N1 : h1 (n 0) = _ := (F1 _ (by simp [a06])).trans N0
  refine s_aload_n hK dX2_setCell_10 rfl ?_
  refine s_iload_n hK dX2_setCell_11 rfl ?_
  refine s_iconst hK (v := 1) dX2_setCell_12 (by decide) ?_
  refine s_iload_n hK dX2_setCell_13 rfl ?_
  refine s_bipush hK (v := 9) dX2_setCell_14 (by decide) ?_
  refine s_idiv hK dX2_setCell_16 (by decide) ?_
  rw [show (9 : Int32) = nI 9 from rfl, pk_div (by omega) (by omega) (by omega)]
  refine s_V30 hK dX2_setCell_17 kV_X2_60 (by first | assumption | exact H.1 | exact H.2.1) (by rfl) ?_
  refine c_setRaw (gcv := 0) (hrv := 0) (k := 1) _ hg (by omega) N1 R1 (fun h2 R2 F2 => ?_)
  refine s_return hK dX2_setCell_20 rfl ?_
  exact hp h2 (N.traits ⟨R2.1, R2.2.cong (fun j _ => trF_cell G j)⟩ (F1.tr F2)) ((F1.tr F2).mono (by simp [nS]))
set_option maxRecDepth 10000 in
theorem c_setGoal (d : Nat) {n : Nat → Nat} {L : Nat → Int64} {am : Nat → Int32} {G : Nat → Nat → Nat} {gc hr g c : Nat} (hg : g < 6) (hc : c < 63) {h : gH} (N : NightAt h n L am G gc hr) {mc ms : Nat} {Post : Option Value → gH → Prop} {X : String → gH → Prop} (hp : ∀ h', NightAt h' n L am (setG G g 2 c) gc hr → gFr (nS n) h h' → Post none h') : gSafe (d + 3) mX2_setGoal [.ref (n 0), .int (nI g), .int (nI c)] h mc ms Post X := by
  have N0 := N.1
  have a06 := N.apart.2.2.2.2.2.1
  refine ⟨Nat.le_of_ble_eq_true rfl, fun K hK => ?_⟩
  show K 0 [some (.ref (n 0)), some (.int (nI g)), some (.int (nI c))] [] _ _ _
  refine s_aload_n hK dX2_setGoal_0 rfl ?_
  refine s_iload_n hK dX2_setGoal_1 rfl ?_
  refine s_iconst hK (v := 3) dX2_setGoal_2 (by decide) ?_
  refine s_iload_n hK dX2_setGoal_3 rfl ?_
  refine s_bipush hK (v := 9) dX2_setGoal_4 (by decide) ?_
  refine s_irem hK dX2_setGoal_6 (by decide) ?_
  rw [show (9 : Int32) = nI 9 from rfl, pk_rem (by omega) (by omega) (by omega)]
  refine s_V30 hK dX2_setGoal_7 kV_X2_60 (by first | assumption | exact H.1 | exact H.2.1) (by rfl) ?_
  refine c_setRaw (gcv := 0) (hrv := 0) (k := 3) _ hg (by omega) N.1 N.2.2.2.1 (fun h1 R1 F1 => ?_)
  have N1 : h1 (n 0) = _ := (F1 _ (by simp [a06])).trans N0
  refine s_aload_n hK dX2_setGoal_10 rfl ?_
  refine s_iload_n hK dX2_setGoal_11 rfl ?_
  refine s_iconst hK (v := 4) dX2_setGoal_12 (by decide) ?_
  refine s_iload_n hK dX2_setGoal_13 rfl ?_
  refine s_bipush hK (v := 9) dX2_setGoal_14 (by decide) ?_
  refine s_idiv hK dX2_setGoal_16 (by decide) ?_
  rw [show (9 : Int32) = nI 9 from rfl, pk_div (by omega) (by omega) (by omega)]
  refine s_V30 hK dX2_setGoal_17 kV_X2_60 (by first | assumption | exact H.1 | exact H.2.1) (by rfl) ?_
  refine c_setRaw (gcv := 0) (hrv := 0) (k := 4) _ hg (by omega) N1 R1 (fun h2 R2 F2 => ?_)
  refine s_return hK dX2_setGoal_20 rfl ?_
  exact hp h2 (N.traits ⟨R2.1, R2.2.cong (fun j _ => trF_goal G j)⟩ (F1.tr F2)) ((F1.tr F2).mono (by simp [nS]))
theorem nI_9 (x : Nat) : (9 : Int32) * nI (x / 9) + nI (x % 9) = nI x := by
  rw [show (9 : Int32) = nI 9 from rfl, pk_mul, nI_add, Nat.div_add_mod]
set_option maxRecDepth 10000 in
theorem c_cellOf (d : Nat) {n : Nat → Nat} {L : Nat → Int64} {am : Nat → Int32} {G : Nat → Nat → Nat} {gc hr g : Nat} (hg : g < 6) {h : gH} (N : NightAt h n L am G gc hr) {mc ms : Nat} {Post : Option Value → gH → Prop} {X : String → gH → Prop} (hp : Post (some (.int (nI (G g 0)))) h) : gSafe (d + 3) mX2_cellOf [.ref (n 0), .int (nI g)] h mc ms Post X := by
  have N0 := N.1
  refine ⟨Nat.le_of_ble_eq_true rfl, fun K hK => ?_⟩
  show K 0 [some (.ref (n 0)), some (.int (nI g))] [] _ _ _
  refine s_bipush hK (v := 9) dX2_cellOf_0 (by decide) ?_
  refine s_aload_n hK dX2_cellOf_2 rfl ?_
  refine s_iload_n hK dX2_cellOf_3 rfl ?_
  refine s_iconst hK (v := 1) dX2_cellOf_4 (by decide) ?_
  refine s_V20 hK dX2_cellOf_5 kV_X2_56 (by first | assumption | exact H.1 | exact H.2.1) (by rfl) ?_
  refine c_trait (k := 1) _ hg (by omega) N ?_
  refine s_imul hK dX2_cellOf_8 ?_
  refine s_aload_n hK dX2_cellOf_9 rfl ?_
  refine s_iload_n hK dX2_cellOf_10 rfl ?_
  refine s_iconst hK (v := 0) dX2_cellOf_11 (by decide) ?_
  refine s_V20 hK dX2_cellOf_12 kV_X2_56 (by first | assumption | exact H.1 | exact H.2.1) (by rfl) ?_
  refine c_trait (k := 0) _ hg (by omega) N ?_
  refine s_iadd hK dX2_cellOf_15 ?_
  rw [show (9 : Int32) * nI (trG G g 1) + nI (trG G g 0) = nI (G g 0) from nI_9 _]
  refine s_ireturn hK dX2_cellOf_16 rfl (by first | rfl | exact b01_nar _) ?_
  exact hp
set_option maxRecDepth 10000 in
theorem c_goalOf (d : Nat) {n : Nat → Nat} {L : Nat → Int64} {am : Nat → Int32} {G : Nat → Nat → Nat} {gc hr g : Nat} (hg : g < 6) {h : gH} (N : NightAt h n L am G gc hr) {mc ms : Nat} {Post : Option Value → gH → Prop} {X : String → gH → Prop} (hp : Post (some (.int (nI (G g 2)))) h) : gSafe (d + 3) mX2_goalOf [.ref (n 0), .int (nI g)] h mc ms Post X := by
  have N0 := N.1
  refine ⟨Nat.le_of_ble_eq_true rfl, fun K hK => ?_⟩
  show K 0 [some (.ref (n 0)), some (.int (nI g))] [] _ _ _
  refine s_bipush hK (v := 9) dX2_goalOf_0 (by decide) ?_
  refine s_aload_n hK dX2_goalOf_2 rfl ?_
  refine s_iload_n hK dX2_goalOf_3 rfl ?_
  refine s_iconst hK (v := 4) dX2_goalOf_4 (by decide) ?_
  refine s_V20 hK dX2_goalOf_5 kV_X2_56 (by first | assumption | exact H.1 | exact H.2.1) (by rfl) ?_
  refine c_trait (k := 4) _ hg (by omega) N ?_
  refine s_imul hK dX2_goalOf_8 ?_
  refine s_aload_n hK dX2_goalOf_9 rfl ?_
  refine s_iload_n hK dX2_goalOf_10 rfl ?_
  refine s_iconst hK (v := 3) dX2_goalOf_11 (by decide) ?_
  refine s_V20 hK dX2_goalOf_12 kV_X2_56 (by first | assumption | exact H.1 | exact H.2.1) (by rfl) ?_
  refine c_trait (k := 3) _ hg (by omega) N ?_
  refine s_iadd hK dX2_goalOf_15 ?_
  rw [show (9 : Int32) * nI (trG G g 4) + nI (trG G g 3) = nI (G g 2) from nI_9 _]
  refine s_ireturn hK dX2_goalOf_16 rfl (by first | rfl | exact b01_nar _) ?_
  exact hp
def mpG (G : Nat → Nat → Nat) (g : Nat) : Bool := decide (G g 3 = 1)
set_option maxRecDepth 10000 in
theorem c_mayPass (d : Nat) {n : Nat → Nat} {L : Nat → Int64} {am : Nat → Int32} {G : Nat → Nat → Nat} {gc hr g : Nat} (hg : g < 6) (hG : G g 3 ≤ 1) {h : gH} (N : NightAt h n L am G gc hr) {mc ms : Nat} {Post : Option Value → gH → Prop} {X : String → gH → Prop} (hp : Post (some (.int (b01 (mpG G g)))) h) : gSafe (d + 3) mX2_mayPass [.ref (n 0), .int (nI g)] h mc ms Post X := by
  have N0 := N.1
  refine ⟨Nat.le_of_ble_eq_true rfl, fun K hK => ?_⟩
  show K 0 [some (.ref (n 0)), some (.int (nI g))] [] _ _ _
  refine s_aload_n hK dX2_mayPass_0 rfl ?_
  refine s_iload_n hK dX2_mayPass_1 rfl ?_
  refine s_iconst hK (v := 5) dX2_mayPass_2 (by decide) ?_
  refine s_V20 hK dX2_mayPass_3 kV_X2_56 (by first | assumption | exact H.1 | exact H.2.1) (by rfl) ?_
  refine c_trait (k := 5) _ hg (by omega) N ?_
  refine s_iconst hK (v := 1) dX2_mayPass_6 (by decide) ?_
  refine s_icmpne hK dX2_mayPass_7 14 (by decide) (fun c_7 => ?_) (fun c_7 => ?_)
  · refine s_iconst hK (v := 0) dX2_mayPass_14 (by decide) ?_
    refine s_ireturn hK dX2_mayPass_15 rfl (by first | rfl | exact b01_nar _) ?_
    have e : mpG G g = false := decide_eq_false (fun e => c_7 (congrArg nI e))
    rw [e] at hp
    exact hp
  · refine s_iconst hK (v := 1) dX2_mayPass_10 (by decide) ?_
    refine s_goto hK dX2_mayPass_11 15 (by decide) ?_
    refine s_ireturn hK dX2_mayPass_15 rfl (by first | rfl | exact b01_nar _) ?_
    have e : mpG G g = true := decide_eq_true ((nI_eq (b := 1) (by show trG G g 5 < _; show G g 3 < _; omega) (by omega)).mp c_7)
    rw [e] at hp
    exact hp
def sumT (G : Nat → Nat → Nat) (k : Nat) : Nat → Nat
  | 0 => 0
  | g + 1 => sumT G k g + trG G g k
set_option maxRecDepth 10000 in
theorem c_sumOfTrait (d : Nat) {n : Nat → Nat} {L : Nat → Int64} {am : Nat → Int32} {G : Nat → Nat → Nat} {gc hr k : Nat} (hgc : gc ≤ 6) (hk : k < 8) {h : gH} (N : NightAt h n L am G gc hr) {mc ms : Nat} {Post : Option Value → gH → Prop} {X : String → gH → Prop} (hp : Post (some (.int (nI (sumT G k gc)))) h) : gSafe (d + 3) mX2_sumOfTrait [.ref (n 0), .int (nI k)] h mc ms Post X := by
  have N0 := N.1
  refine ⟨Nat.le_of_ble_eq_true rfl, fun K hK => ?_⟩
  show K 0 [some (.ref (n 0)), some (.int (nI k)), none, none] [] _ _ _
  refine s_iconst hK (v := 0) dX2_sumOfTrait_0 (by decide) ?_
  refine s_istore_n hK dX2_sumOfTrait_1 rfl ?_
  refine s_iconst hK (v := 0) dX2_sumOfTrait_2 (by decide) ?_
  refine s_istore_n hK dX2_sumOfTrait_3 rfl ?_
  have loop : ∀ m i, i + m = gc → K 4 [some (.ref (n 0)), some (.int (nI k)), some (.int (nI (sumT G k i))), some (.int (nI i))] [] h mc ms := by
    intro m
    induction m with
    | zero =>
      intro i hi
      obtain rfl : i = gc := by omega
      refine s_iload_n hK dX2_sumOfTrait_4 rfl ?_
      refine s_aload_n hK dX2_sumOfTrait_5 rfl ?_
      refine s_getfield hK dX2_sumOfTrait_6 kF_X2_41 (by first | assumption | exact H.1 | exact H.2.1) (by rfl) ?_
      refine s_icmpge hK dX2_sumOfTrait_9 27 (by decide) (fun c_9 => ?_) (fun c_9 => ?_)
      · refine s_iload_n hK dX2_sumOfTrait_27 rfl ?_
        refine s_ireturn hK dX2_sumOfTrait_28 rfl (by first | rfl | exact b01_nar _) ?_
        exact hp
      · exact absurd (Int32.le_refl (nI i)) c_9
    | succ m ih =>
      intro i hi
      refine s_iload_n hK dX2_sumOfTrait_4 rfl ?_
      refine s_aload_n hK dX2_sumOfTrait_5 rfl ?_
      refine s_getfield hK dX2_sumOfTrait_6 kF_X2_41 (by first | assumption | exact H.1 | exact H.2.1) (by rfl) ?_
      refine s_icmpge hK dX2_sumOfTrait_9 27 (by decide) (fun c_9 => ?_) (fun c_9 => ?_)
      · exact absurd c_9 (nI_ge (by omega) (by omega))
      · refine s_iload_n hK dX2_sumOfTrait_12 rfl ?_
        refine s_aload_n hK dX2_sumOfTrait_13 rfl ?_
        refine s_iload_n hK dX2_sumOfTrait_14 rfl ?_
        refine s_iload_n hK dX2_sumOfTrait_15 rfl ?_
        refine s_V20 hK dX2_sumOfTrait_16 kV_X2_56 (by first | assumption | exact H.1 | exact H.2.1) (by rfl) ?_
        refine c_trait _ (by omega) hk N ?_
        refine s_iadd hK dX2_sumOfTrait_19 ?_
        rw [nI_add]
        refine s_istore_n hK dX2_sumOfTrait_20 rfl ?_
        refine s_iinck hK (v := 1) dX2_sumOfTrait_21 rfl (by decide) rfl ?_
        refine s_goto hK dX2_sumOfTrait_24 4 (by decide) ?_
        rw [nI_1]
        exact ih (i + 1) (by omega)
  exact loop gc 0 (by omega)
