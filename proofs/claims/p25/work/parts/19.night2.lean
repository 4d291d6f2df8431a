/-! Night: steps and hours -/
def fndB (p : Nat → Bool) : Nat → Option Nat
  | 0 => none
  | n + 1 => match fndB p n with
    | some i => some i
    | none => if p n then some n else none
theorem fndB_some {p : Nat → Bool} {i : Nat} (h : p i = true) (hn : ∀ j, j < i → p j = false) : ∀ n, i < n → fndB p n = some i
  | 0, q => absurd q (Nat.not_lt_zero _)
  | n + 1, q => by
    have none' : ∀ m, m ≤ i → fndB p m = none := by
      intro m
      induction m with
      | zero => intro _; rfl
      | succ m ih => intro hm; simp [fndB, ih (by omega), hn m (by omega)]
    by_cases e : i = n
    · subst e
      simp [fndB, none' i (Nat.le_refl _), h]
    · simp [fndB, fndB_some h hn n (by omega)]
theorem fndB_none {p : Nat → Bool} : ∀ {n : Nat}, (∀ j, j < n → p j = false) → fndB p n = none
  | 0, _ => rfl
  | n + 1, h => by simp [fndB, fndB_none (n := n) (fun j hj => h j (by omega)), h n (by omega)]
theorem fndB_spec {p : Nat → Bool} : ∀ {n i : Nat}, fndB p n = some i → i < n ∧ p i = true ∧ ∀ j, j < i → p j = false
  | 0, i, h => by cases h
  | n + 1, i, h => by
    unfold fndB at h
    split at h
    · next k hk =>
      cases h
      obtain ⟨h1, h2, h3⟩ := fndB_spec hk
      exact ⟨by omega, h2, h3⟩
    · next hk =>
      split at h
      · next hp =>
        cases h
        refine ⟨by omega, hp, fun j hj => ?_⟩
        cases e : p j with
        | false => rfl
        | true =>
          exfalso
          have key : ∀ m, j < m → fndB p m ≠ none := by
            intro m
            induction m with
            | zero => intro q; omega
            | succ m ih =>
              intro q
              unfold fndB
              split
              · simp
              · next h9 =>
                by_cases e9 : j = m
                · rw [← e9, e]; simp
                · exact absurd h9 (ih (by omega))
          exact key _ hj hk
      · cases h
def frOf (L : Nat → Int64) (fr : Nat) : Int64 := (L 7 ^^^ (-1)) ||| bOnly fr
def fhB (L : Nat → Int64) (fr go : Nat) (mp : Bool) (k : Nat) : Bool := decide (((flI L mp (frOf L fr) (bOnly go &&& frOf L fr) (k + 1)).1 ||| (flI L mp (frOf L fr) (bOnly go &&& frOf L fr) (k + 1)).2) &&& bOnly fr ≠ 0)
/-- the fewest steps, and the direction of the first -/
def stpF (L : Nat → Int64) (fr go : Nat) (mp : Bool) : Int32 := if fr = go then 0 else match fndB (fhB L fr go mp) 62 with
  | some k => nI (k + 1)
  | none => -1
def nxtF (L : Nat → Int64) (fr go : Nat) (mp : Bool) : Option Nat := if fr = go then none else match fndB (fhB L fr go mp) 62 with
  | some k => fdir L (bOnly fr) mp (flI L mp (frOf L fr) (bOnly go &&& frOf L fr) k).1 (flI L mp (frOf L fr) (bOnly go &&& frOf L fr) k).2
  | none => none
theorem FW_fn {L : Nat → Int64} {fr go : Nat} {mp : Bool} {v : Int32} {pl ps : Int64} (h : FW L mp ((L 7 ^^^ (-1)) ||| bOnly fr) (bOnly go &&& ((L 7 ^^^ (-1)) ||| bOnly fr)) (bOnly fr) fr go v pl ps) : v = stpF L fr go mp ∧ (if 0 < v then oI (fdir L (bOnly fr) mp pl ps) else -1) = oI (nxtF L fr go mp) := by
  have hh : ∀ j, flHit L mp ((L 7 ^^^ (-1)) ||| bOnly fr) (bOnly go &&& ((L 7 ^^^ (-1)) ||| bOnly fr)) (bOnly fr) (j + 1) ↔ fhB L fr go mp j = true := fun j => by
    unfold fhB
    rw [decide_eq_true_eq]
    exact Iff.rfl
  rcases h with ⟨h1, h2⟩ | ⟨h1, k, h2, h3, h4, h5, h6⟩ | ⟨h1, h2, h3⟩
  · subst h1; subst h2
    unfold stpF nxtF
    simp [oI]
  · have e : fndB (fhB L fr go mp) 62 = some k := fndB_some ((hh k).mp h5) (fun j hj => by
      cases e : fhB L fr go mp j with
      | false => rfl
      | true => exact absurd ((hh j).mpr e) (h6 (j + 1) (by omega) (by omega))) 62 (by omega)
    unfold stpF nxtF
    simp only [if_neg h1, e]
    refine ⟨h3, ?_⟩
    rw [h3, if_pos (show (0 : Int32) < nI (k + 1) from nI_lt (a := 0) (by omega) (by omega))]
    unfold frOf
    rw [h4]
  · have e : fndB (fhB L fr go mp) 62 = none := fndB_none (fun j hj => by
      cases e : fhB L fr go mp j with
      | false => rfl
      | true => exact absurd ((hh j).mpr e) (h3 (j + 1) (by omega) (by omega)))
    unfold stpF nxtF
    simp only [if_neg h1, e]
    exact ⟨h2, by rw [h2, if_neg (by decide)]; rfl⟩
set_option maxRecDepth 10000 in
theorem c_stepsTo (d : Nat) {n : Nat → Nat} {L : Nat → Int64} {am : Nat → Int32} {G : Nat → Nat → Nat} {gc hr g c : Nat} (hg : g < 6) (hc : c < 63) (hG : G g 0 < 63 ∧ G g 3 ≤ 1) {h : gH} (N : NightAt h n L am G gc hr) {mc ms : Nat} {Post : Option Value → gH → Prop} {X : String → gH → Prop} (hp : ∀ h', NightAt h' n L am G gc hr → gFr (nS n) h h' → Post (some (.int (stpF L (G g 0) c (mpG G g)))) h') : gSafe (d + 4) mX2_stepsTo [.ref (n 0), .int (nI g), .int (nI c)] h mc ms Post X := by
  have N0 := N.1
  have N1 := N.2.1.1
  obtain ⟨own, mp, pl, ps, W⟩ := N.2.2.1
  have W4 : h (n 4) = _ := W
  refine ⟨Nat.le_of_ble_eq_true rfl, fun K hK => ?_⟩
  show K 0 [some (.ref (n 0)), some (.int (nI g)), some (.int (nI c))] [] _ _ _
  refine s_aload_n hK dX2_stepsTo_0 rfl ?_
  refine s_getfield hK dX2_stepsTo_1 kF_X2_21 (by first | assumption | exact H.1 | exact H.2.1) (by rfl) ?_
  refine s_aload_n hK dX2_stepsTo_4 rfl ?_
  refine s_getfield hK dX2_stepsTo_5 kF_X2_12 (by first | assumption | exact H.1 | exact H.2.1) (by rfl) ?_
  refine s_aload_n hK dX2_stepsTo_8 rfl ?_
  refine s_iload_n hK dX2_stepsTo_9 rfl ?_
  refine s_V10 hK dX2_stepsTo_10 kV_X2_70 (by first | assumption | exact H.1 | exact H.2.1) (by rfl) ?_
  refine c_cellOf _ hg N ?_
  refine s_iload_n hK dX2_stepsTo_13 rfl ?_
  refine s_aload_n hK dX2_stepsTo_14 rfl ?_
  refine s_iload_n hK dX2_stepsTo_15 rfl ?_
  refine s_V10 hK dX2_stepsTo_16 kV_X2_117 (by first | assumption | exact H.1 | exact H.2.1) (by rfl) ?_
  refine c_mayPass _ hg hG.2 N ?_
  refine s_V40 hK dX2_stepsTo_19 kV_X2_120 (by first | assumption | exact H.1 | exact H.2.1) (by rfl) ?_
  refine c_fewestSteps _ hG.1 hc W N.2.1 (fun v pl' ps' h' W' F' hF => ?_)
  rw [(FW_fn hF).1]
  refine s_ireturn hK dX2_stepsTo_22 rfl (by first | rfl | exact b01_nar _) ?_
  exact hp h' (N.ways W' F') (F'.mono (by simp [nS]))
set_option maxRecDepth 10000 in
theorem c_nextDirection (d : Nat) {n : Nat → Nat} {L : Nat → Int64} {am : Nat → Int32} {G : Nat → Nat → Nat} {gc hr g : Nat} (hg : g < 6) (hG : G g 0 < 63 ∧ G g 2 < 63 ∧ G g 3 ≤ 1) {h : gH} (N : NightAt h n L am G gc hr) {mc ms : Nat} {Post : Option Value → gH → Prop} {X : String → gH → Prop} (hp : ∀ h', NightAt h' n L am G gc hr → gFr (nS n) h h' → Post (some (.int (oI (nxtF L (G g 0) (G g 2) (mpG G g))))) h') : gSafe (d + 4) mX2_nextDirection [.ref (n 0), .int (nI g)] h mc ms Post X := by
  have N0 := N.1
  have N1 := N.2.1.1
  obtain ⟨own, mp, pl, ps, W⟩ := N.2.2.1
  have W4 : h (n 4) = _ := W
  refine ⟨Nat.le_of_ble_eq_true rfl, fun K hK => ?_⟩
  show K 0 [some (.ref (n 0)), some (.int (nI g)), none] [] _ _ _
  refine s_aload_n hK dX2_nextDirection_0 rfl ?_
  refine s_getfield hK dX2_nextDirection_1 kF_X2_21 (by first | assumption | exact H.1 | exact H.2.1) (by rfl) ?_
  refine s_aload_n hK dX2_nextDirection_4 rfl ?_
  refine s_getfield hK dX2_nextDirection_5 kF_X2_12 (by first | assumption | exact H.1 | exact H.2.1) (by rfl) ?_
  refine s_aload_n hK dX2_nextDirection_8 rfl ?_
  refine s_iload_n hK dX2_nextDirection_9 rfl ?_
  refine s_V10 hK dX2_nextDirection_10 kV_X2_70 (by first | assumption | exact H.1 | exact H.2.1) (by rfl) ?_
  refine c_cellOf _ hg N ?_
  refine s_aload_n hK dX2_nextDirection_13 rfl ?_
  refine s_iload_n hK dX2_nextDirection_14 rfl ?_
  refine s_V10 hK dX2_nextDirection_15 kV_X2_73 (by first | assumption | exact H.1 | exact H.2.1) (by rfl) ?_
  refine c_goalOf _ hg N ?_
  refine s_aload_n hK dX2_nextDirection_18 rfl ?_
  refine s_iload_n hK dX2_nextDirection_19 rfl ?_
  refine s_V10 hK dX2_nextDirection_20 kV_X2_117 (by first | assumption | exact H.1 | exact H.2.1) (by rfl) ?_
  refine c_mayPass _ hg hG.2.2 N ?_
  refine s_V40 hK dX2_nextDirection_23 kV_X2_120 (by first | assumption | exact H.1 | exact H.2.1) (by rfl) ?_
  refine c_fewestSteps _ hG.1 hG.2.1 W N.2.1 (fun v pl' ps' h' W' F' hF => ?_)
  have N' := N.ways W' F'
  have N0' := N'.1
  have N1' := N'.2.1.1
  have W4' : h' (n 4) = _ := W'
  obtain ⟨e1, e2⟩ := FW_fn hF
  have hp' := hp h' N' (F'.mono (by simp [nS]))
  rw [← e2] at hp'
  refine s_istore_n hK dX2_nextDirection_26 rfl ?_
  refine s_iload_n hK dX2_nextDirection_27 rfl ?_
  refine s_ifle hK dX2_nextDirection_28 45 (by decide) (fun c_28 => ?_) (fun c_28 => ?_)
  · refine s_iconst hK (v := (-1)) dX2_nextDirection_45 (by decide) ?_
    refine s_ireturn hK dX2_nextDirection_46 rfl (by first | rfl | exact b01_nar _) ?_
    rw [if_neg (Int32.not_lt.mpr c_28)] at hp'
    exact hp'
  · refine s_aload_n hK dX2_nextDirection_31 rfl ?_
    refine s_getfield hK dX2_nextDirection_32 kF_X2_21 (by first | assumption | exact H.1 | exact H.2.1) (by rfl) ?_
    refine s_aload_n hK dX2_nextDirection_35 rfl ?_
    refine s_getfield hK dX2_nextDirection_36 kF_X2_12 (by first | assumption | exact H.1 | exact H.2.1) (by rfl) ?_
    refine s_V10 hK dX2_nextDirection_39 kV_X2_124 (by first | assumption | exact H.1 | exact H.2.1) (by rfl) ?_
    refine c_firstDirection _ W' N'.2.1 ?_
    refine s_goto hK dX2_nextDirection_42 46 (by decide) ?_
    refine s_ireturn hK dX2_nextDirection_46 rfl (by first | rfl | exact b01_nar _) ?_
    rw [if_pos (Int32.not_le.mp c_28)] at hp'
    exact hp'
theorem nb_inv {c d : Nat} (hc : c < 63) (hd : d < 4) (h : nbOk c (opp d) = true) : nbOk (nbOf c (opp d)) d = true ∧ nbOf (nbOf c (opp d)) d = c := by
  have : ∀ c : Fin 63, ∀ d : Fin 4, nbOk c.val (opp d.val) = true → nbOk (nbOf c.val (opp d.val)) d.val = true ∧ nbOf (nbOf c.val (opp d.val)) d.val = c.val := by decide +kernel
  exact this ⟨c, hc⟩ ⟨d, hd⟩ h
theorem and_SB {x y : Int64} (h : SB x) : SB (x &&& y) := by
  unfold SB at *
  rw [lb_and, h]
  rfl
theorem bMv_hit {c dn : Nat} {m s : Int64} (hc : c < 63) (hd : dn < 4) (h : bMv (bOnly c &&& m) dn &&& s ≠ 0) : nbOk c dn = true ∧ lb m c = true ∧ lb s (nbOf c dn) = true := by
  obtain ⟨i, hi, hb⟩ := lb_ne0.mp h
  rw [lb_and, Bool.and_eq_true] at hb
  have hs := and_SB (y := m) (bOnly_SB hc)
  have hi63 : i < 63 := by
    have h2 := bMv_SB hs hd
    unfold SB at h2
    by_cases e : i = 63
    · rw [e, h2] at hb; cases hb.1
    · omega
  have h1 := hb.1
  rw [bMv_lb hs hd hi63, Bool.and_eq_true, lb_and, Bool.and_eq_true, lb_only (by omega), decide_eq_true_eq] at h1
  obtain ⟨q1, q2, q3⟩ := h1
  obtain ⟨r1, r2⟩ := nb_inv hi63 hd q1
  rw [q2] at r1 r2 q3
  exact ⟨r1, q3, by rw [r2]; exact hb.2⟩
theorem fst4_spec {p : Nat → Bool} {i : Nat} (h : fst4 p = some i) : i < 4 ∧ p i = true ∧ ∀ j, j < i → p j = false := by
  unfold fst4 at h
  by_cases h0 : p 0 = true
  · rw [if_pos h0] at h; cases h; exact ⟨by omega, h0, fun j hj => by omega⟩
  · rw [if_neg h0] at h
    have f0 : p 0 = false := by simpa using h0
    by_cases h1 : p 1 = true
    · rw [if_pos h1] at h; cases h
      refine ⟨by omega, h1, fun j hj => ?_⟩
      rw [show j = 0 by omega]; exact f0
    · rw [if_neg h1] at h
      have f1 : p 1 = false := by simpa using h1
      by_cases h2 : p 2 = true
      · rw [if_pos h2] at h; cases h
        refine ⟨by omega, h2, fun j hj => ?_⟩
        rcases (show j = 0 ∨ j = 1 by omega) with rfl | rfl
        · exact f0
        · exact f1
      · rw [if_neg h2] at h
        have f2 : p 2 = false := by simpa using h2
        by_cases h3 : p 3 = true
        · rw [if_pos h3] at h; cases h
          refine ⟨by omega, h3, fun j hj => ?_⟩
          rcases (show j = 0 ∨ j = 1 ∨ j = 2 by omega) with rfl | rfl | rfl
          · exact f0
          · exact f1
          · exact f2
        · rw [if_neg h3] at h; cases h
theorem fdir_ok {L : Nat → Int64} {c : Nat} {mp : Bool} {pl ps : Int64} {dn : Nat} (hc : c < 63) (h : fdir L (bOnly c) mp pl ps = some dn) : dn < 4 ∧ nbOk c dn = true := by
  unfold fdir at h
  split at h
  · next i hi =>
    cases h
    obtain ⟨h1, h2, -⟩ := fst4_spec hi
    exact ⟨h1, (bMv_hit hc h1 (of_decide_eq_true h2)).1⟩
  · obtain ⟨h1, h2, -⟩ := fst4_spec h
    unfold fdB at h2
    rw [Bool.and_eq_true] at h2
    exact ⟨h1, (bMv_hit hc h1 (of_decide_eq_true h2.2)).1⟩
theorem nxtF_ok {L : Nat → Int64} {fr go : Nat} {mp : Bool} {dn : Nat} (hc : fr < 63) (h : nxtF L fr go mp = some dn) : dn < 4 ∧ nbOk fr dn = true := by
  unfold nxtF at h
  split at h
  · cases h
  · split at h
    · exact fdir_ok hc h
    · cases h
abbrev LG : Type := (Nat → Int64) × (Nat → Nat → Nat)
def stepF (s : LG) (g : Nat) : LG := match nxtF s.1 (s.2 g 0) (s.2 g 2) (mpG s.2 g) with
  | none => s
  | some dn => if lb (wCells s.1 dn) (s.2 g 0) then (reL (oBlow s.1 (nbOf (s.2 g 0) dn)), setG (setG s.2 g 0 (nbOf (s.2 g 0) dn)) g 3 0) else (s.1, setG s.2 g 0 (nbOf (s.2 g 0) dn))
def GOK (G : Nat → Nat → Nat) : Prop := ∀ g, g < 6 → G g 0 < 63 ∧ G g 1 ≤ 3 ∧ G g 2 < 63 ∧ G g 3 ≤ 1
theorem GOK.set {G : Nat → Nat → Nat} (h : GOK G) {g k v : Nat} (hv : (k = 0 → v < 63) ∧ (k = 1 → v ≤ 3) ∧ (k = 2 → v < 63) ∧ (k = 3 → v ≤ 1)) : GOK (setG G g k v) := by
  intro g' hg'
  obtain ⟨h0, h1, h2, h3⟩ := h g' hg'
  unfold setG
  refine ⟨?_, ?_, ?_, ?_⟩ <;> split
  · next e => exact hv.1 e.2.symm
  · exact h0
  · next e => exact hv.2.1 e.2.symm
  · exact h1
  · next e => exact hv.2.2.1 e.2.symm
  · exact h2
  · next e => exact hv.2.2.2 e.2.symm
  · exact h3
theorem stepF_ok {s : LG} {g : Nat} (h : GOK s.2) (hg : g < 6) : GOK (stepF s g).2 := by
  unfold stepF
  split
  · exact h
  · next dn e =>
    obtain ⟨h1, h2⟩ := nxtF_ok (h g hg).1 e
    have hn := nb_lt (h g hg).1 h1 h2
    have a := h.set (g := g) (k := 0) (v := nbOf (s.2 g 0) dn) ⟨fun _ => hn, by omega, by omega, by omega⟩
    split
    · exact a.set ⟨by omega, by omega, by omega, by omega⟩
    · exact a
theorem stepF_pace {s : LG} {g g' : Nat} : (stepF s g).2 g' 1 = s.2 g' 1 := by
  unfold stepF
  split
  · rfl
  · split <;> simp [setG]
theorem stepF_0 {L : Nat → Int64} {am : Nat → Int32} (h : True) : True := trivial
set_option maxRecDepth 10000 in
theorem c_takeStep (d : Nat) {n : Nat → Nat} {s : LG} {am : Nat → Int32} {gc hr g : Nat} (hg : g < 6) (hG : GOK s.2) {h : gH} (N : NightAt h n s.1 am s.2 gc hr) {mc ms : Nat} {Post : Option Value → gH → Prop} {X : String → gH → Prop} (hp : ∀ h', NightAt h' n (stepF s g).1 am (stepF s g).2 gc hr → gFr (nS n) h h' → Post none h') : gSafe (d + 5) mX2_takeStep [.ref (n 0), .int (nI g)] h mc ms Post X := by
  have N0 := N.1
  obtain ⟨g0, g1, g2, g3⟩ := hG g hg
  refine ⟨Nat.le_of_ble_eq_true rfl, fun K hK => ?_⟩
  show K 0 [some (.ref (n 0)), some (.int (nI g)), none, none, none] [] _ _ _
  refine s_aload_n hK dX2_takeStep_0 rfl ?_
  refine s_iload_n hK dX2_takeStep_1 rfl ?_
  refine s_V10 hK dX2_takeStep_2 kV_X2_137 (by first | assumption | exact H.1 | exact H.2.1) (by rfl) ?_
  refine c_nextDirection _ hg ⟨g0, g2, g3⟩ N (fun h1 N1 F1 => ?_)
  have N10 := N1.1
  refine s_istore_n hK dX2_takeStep_5 rfl ?_
  refine s_iload_n hK dX2_takeStep_6 rfl ?_
  refine s_iconst hK (v := (-1)) dX2_takeStep_7 (by decide) ?_
  cases e : nxtF s.1 (s.2 g 0) (s.2 g 2) (mpG s.2 g) with
  | none =>
    have es : stepF s g = s := by unfold stepF; rw [e]
    refine s_icmpne hK dX2_takeStep_8 12 (by decide) (fun c_8 => ?_) (fun c_8 => ?_)
    · exact absurd rfl c_8
    · refine s_return hK dX2_takeStep_11 rfl ?_
      rw [es] at hp
      exact hp h1 N1 F1
  | some dn =>
    obtain ⟨hd, hok⟩ := nxtF_ok g0 e
    have hto := nb_lt g0 hd hok
    refine s_icmpne hK dX2_takeStep_8 12 (by decide) (fun c_8 => ?_) (fun c_8 => ?_)
    · refine s_aload_n hK dX2_takeStep_12 rfl ?_
      refine s_iload_n hK dX2_takeStep_13 rfl ?_
      refine s_V10 hK dX2_takeStep_14 kV_X2_70 (by first | assumption | exact H.1 | exact H.2.1) (by rfl) ?_
      refine c_cellOf _ hg N1 ?_
      refine s_istore_n hK dX2_takeStep_17 rfl ?_
      refine s_iload_n hK dX2_takeStep_18 rfl ?_
      refine s_iload_n hK dX2_takeStep_19 rfl ?_
      refine s_S20 hK dX2_takeStep_20 kS_X2_140 (by rfl) ?_
      refine c_neighbour _ hd hok ?_
      refine s_istore hK dX2_takeStep_23 rfl ?_
      refine s_aload_n hK dX2_takeStep_25 rfl ?_
      refine s_iload_n hK dX2_takeStep_26 rfl ?_
      refine s_iload hK dX2_takeStep_27 rfl ?_
      refine s_V20 hK dX2_takeStep_29 kV_X2_64 (by first | assumption | exact H.1 | exact H.2.1) (by rfl) ?_
      refine c_setCell _ hg hto N1 (fun h2 N2 F2 => ?_)
      have F2 := F1.tr F2
      have N20 := N2.1
      have H2 := N2.2.1.1
      refine s_aload_n hK dX2_takeStep_32 rfl ?_
      refine s_getfield hK dX2_takeStep_33 kF_X2_12 (by first | assumption | exact H.1 | exact H.2.1) (by rfl) ?_
      refine s_iload_n hK dX2_takeStep_36 rfl ?_
      refine s_iload_n hK dX2_takeStep_37 rfl ?_
      refine s_V20 hK dX2_takeStep_38 kV_X2_145 (by first | assumption | exact H.1 | exact H.2.1) (by rfl) ?_
      refine c_hasWall _ hd g0 N2.2.1 ?_
      cases ew : lb (wCells s.1 dn) (s.2 g 0) with
      | false =>
        have es : stepF s g = (s.1, setG s.2 g 0 (nbOf (s.2 g 0) dn)) := by unfold stepF; rw [e]; simp [ew]
        refine s_ifeq hK dX2_takeStep_41 60 (by decide) (fun c_41 => ?_) (fun c_41 => ?_)
        · refine s_return hK dX2_takeStep_60 rfl ?_
          rw [es] at hp
          exact hp h2 N2 F2
        · exact absurd rfl c_41
      | true =>
        have es : stepF s g = (reL (oBlow s.1 (nbOf (s.2 g 0) dn)), setG (setG s.2 g 0 (nbOf (s.2 g 0) dn)) g 3 0) := by unfold stepF; rw [e]; simp [ew]
        refine s_ifeq hK dX2_takeStep_41 60 (by decide) (fun c_41 => ?_) (fun c_41 => ?_)
        · exact absurd c_41 (by decide)
        · refine s_aload_n hK dX2_takeStep_44 rfl ?_
          refine s_iload_n hK dX2_takeStep_45 rfl ?_
          refine s_iconst hK (v := 5) dX2_takeStep_46 (by decide) ?_
          refine s_iconst hK (v := 0) dX2_takeStep_47 (by decide) ?_
          refine s_V30 hK dX2_takeStep_48 kV_X2_60 (by first | assumption | exact H.1 | exact H.2.1) (by rfl) ?_
          refine c_setTrait (k := 5) (v := 0) _ hg (by omega) N2 (fun h3 N3 F3 => ?_)
          have F3 := F2.tr F3
          have N30 := N3.1
          have H3 := N3.2.1.1
          refine s_aload_n hK dX2_takeStep_51 rfl ?_
          refine s_getfield hK dX2_takeStep_52 kF_X2_12 (by first | assumption | exact H.1 | exact H.2.1) (by rfl) ?_
          refine s_iload hK dX2_takeStep_55 rfl ?_
          refine s_V10 hK dX2_takeStep_57 kV_X2_149 (by first | assumption | exact H.1 | exact H.2.1) (by rfl) ?_
          refine c_blowOutAround _ hto N3.2.1 (fun h4 H4 F4 => ?_)
          refine s_return hK dX2_takeStep_60 rfl ?_
          rw [es] at hp
          exact hp h4 (N3.house H4 F4) (F3.tr (F4.mono (by simp [nS])))
    · exact absurd c_8 (by
        match dn, hd with
        | 0, _ => decide
        | 1, _ => decide
        | 2, _ => decide
        | 3, _ => decide)
set_option maxRecDepth 10000 in
theorem c_haunts (d : Nat) {n : Nat → Nat} {L : Nat → Int64} {am : Nat → Int32} {G : Nat → Nat → Nat} {gc hr g : Nat} (hg : g < 6) (hG : G g 0 < 63) {h : gH} (N : NightAt h n L am G gc hr) {mc ms : Nat} {Post : Option Value → gH → Prop} {X : String → gH → Prop} (hp : ∀ h' am' G' b, ((lb (L 7) (G g 0) = true ∧ am' = am ∧ G' = setG G g 5 (G g 5 + 1) ∧ b = false) ∨ (lb (L 7) (G g 0) = false ∧ lb (L 4) (G g 0) = false ∧ am' = am ∧ G' = G ∧ b = false) ∨ (lb (L 7) (G g 0) = false ∧ lb (L 4) (G g 0) = true ∧ am' = upd am (G g 0) (mkNext (am (G g 0))) ∧ G' = setG G g 4 (G g 4 + 1) ∧ b = true)) → NightAt h' n L am' G' gc hr → gFr (nS n) h h' → Post (some (.int (b01 b))) h') : gSafe (d + 4) mX2_hauntsOrFears [.ref (n 0), .int (nI g)] h mc ms Post X := by
  have N0 := N.1
  have H1 := N.2.1.1
  refine ⟨Nat.le_of_ble_eq_true rfl, fun K hK => ?_⟩
  show K 0 [some (.ref (n 0)), some (.int (nI g)), none] [] _ _ _
  refine s_aload_n hK dX2_hauntsOrFears_0 rfl ?_
  refine s_iload_n hK dX2_hauntsOrFears_1 rfl ?_
  refine s_V10 hK dX2_hauntsOrFears_2 kV_X2_70 (by first | assumption | exact H.1 | exact H.2.1) (by rfl) ?_
  refine c_cellOf _ hg N ?_
  refine s_istore_n hK dX2_hauntsOrFears_5 rfl ?_
  refine s_aload_n hK dX2_hauntsOrFears_6 rfl ?_
  refine s_getfield hK dX2_hauntsOrFears_7 kF_X2_12 (by first | assumption | exact H.1 | exact H.2.1) (by rfl) ?_
  refine s_iload_n hK dX2_hauntsOrFears_10 rfl ?_
  refine s_V10 hK dX2_hauntsOrFears_11 kV_X2_86 (by first | assumption | exact H.1 | exact H.2.1) (by rfl) ?_
  refine c_isLit _ hG N.2.1 ?_
  cases e7 : lb (L 7) (G g 0) with
  | true =>
    refine s_ifeq hK dX2_hauntsOrFears_14 35 (by decide) (fun c_14 => ?_) (fun c_14 => ?_)
    · exact absurd c_14 (by decide)
    · refine s_aload_n hK dX2_hauntsOrFears_17 rfl ?_
      refine s_iload_n hK dX2_hauntsOrFears_18 rfl ?_
      refine s_bipush hK (v := 7) dX2_hauntsOrFears_19 (by decide) ?_
      refine s_aload_n hK dX2_hauntsOrFears_21 rfl ?_
      refine s_iload_n hK dX2_hauntsOrFears_22 rfl ?_
      refine s_bipush hK (v := 7) dX2_hauntsOrFears_23 (by decide) ?_
      refine s_V20 hK dX2_hauntsOrFears_25 kV_X2_56 (by first | assumption | exact H.1 | exact H.2.1) (by rfl) ?_
      refine c_trait (k := 7) _ hg (by omega) N ?_
      refine s_iconst hK (v := 1) dX2_hauntsOrFears_28 (by decide) ?_
      refine s_iadd hK dX2_hauntsOrFears_29 ?_
      rw [nI_1]
      refine s_V30 hK dX2_hauntsOrFears_30 kV_X2_60 (by first | assumption | exact H.1 | exact H.2.1) (by rfl) ?_
      refine c_setTrait (k := 7) _ hg (by omega) N (fun h1 N1 F1 => ?_)
      refine s_iconst hK (v := 0) dX2_hauntsOrFears_33 (by decide) ?_
      refine s_ireturn hK dX2_hauntsOrFears_34 rfl (by first | rfl | exact b01_nar _) ?_
      exact hp h1 _ _ false (Or.inl ⟨e7, rfl, rfl, rfl⟩) N1 F1
  | false =>
    refine s_ifeq hK dX2_hauntsOrFears_14 35 (by decide) (fun c_14 => ?_) (fun c_14 => ?_)
    · refine s_aload_n hK dX2_hauntsOrFears_35 rfl ?_
      refine s_getfield hK dX2_hauntsOrFears_36 kF_X2_12 (by first | assumption | exact H.1 | exact H.2.1) (by rfl) ?_
      refine s_iload_n hK dX2_hauntsOrFears_39 rfl ?_
      refine s_V10 hK dX2_hauntsOrFears_40 kV_X2_152 (by first | assumption | exact H.1 | exact H.2.1) (by rfl) ?_
      refine c_hasTally _ hG N.2.1 ?_
      cases e4 : lb (L 4) (G g 0) with
      | false =>
        refine s_ifne hK dX2_hauntsOrFears_43 48 (by decide) (fun c_43 => ?_) (fun c_43 => ?_)
        · exact absurd rfl c_43
        · refine s_iconst hK (v := 0) dX2_hauntsOrFears_46 (by decide) ?_
          refine s_ireturn hK dX2_hauntsOrFears_47 rfl (by first | rfl | exact b01_nar _) ?_
          exact hp h _ _ false (Or.inr (Or.inl ⟨e7, e4, rfl, rfl, rfl⟩)) N (gFr_rf _ _)
      | true =>
        refine s_ifne hK dX2_hauntsOrFears_43 48 (by decide) (fun c_43 => ?_) (fun c_43 => ?_)
        · refine s_aload_n hK dX2_hauntsOrFears_48 rfl ?_
          refine s_getfield hK dX2_hauntsOrFears_49 kF_X2_12 (by first | assumption | exact H.1 | exact H.2.1) (by rfl) ?_
          refine s_iload_n hK dX2_hauntsOrFears_52 rfl ?_
          refine s_V10 hK dX2_hauntsOrFears_53 kV_X2_155 (by first | assumption | exact H.1 | exact H.2.1) (by rfl) ?_
          refine c_addMark _ hG N.2.1 (fun h1 H1 F1 => ?_)
          have N1 := N.house H1 F1
          have N10 := N1.1
          refine s_aload_n hK dX2_hauntsOrFears_56 rfl ?_
          refine s_iload_n hK dX2_hauntsOrFears_57 rfl ?_
          refine s_bipush hK (v := 6) dX2_hauntsOrFears_58 (by decide) ?_
          refine s_aload_n hK dX2_hauntsOrFears_60 rfl ?_
          refine s_iload_n hK dX2_hauntsOrFears_61 rfl ?_
          refine s_bipush hK (v := 6) dX2_hauntsOrFears_62 (by decide) ?_
          refine s_V20 hK dX2_hauntsOrFears_64 kV_X2_56 (by first | assumption | exact H.1 | exact H.2.1) (by rfl) ?_
          refine c_trait (k := 6) _ hg (by omega) N1 ?_
          refine s_iconst hK (v := 1) dX2_hauntsOrFears_67 (by decide) ?_
          refine s_iadd hK dX2_hauntsOrFears_68 ?_
          rw [nI_1]
          refine s_V30 hK dX2_hauntsOrFears_69 kV_X2_60 (by first | assumption | exact H.1 | exact H.2.1) (by rfl) ?_
          refine c_setTrait (k := 6) _ hg (by omega) N1 (fun h2 N2 F2 => ?_)
          refine s_iconst hK (v := 1) dX2_hauntsOrFears_72 (by decide) ?_
          refine s_ireturn hK dX2_hauntsOrFears_73 rfl (by first | rfl | exact b01_nar _) ?_
          exact hp h2 _ _ true (Or.inr (Or.inr ⟨e7, e4, rfl, rfl, rfl⟩)) N2 ((F1.mono (by simp [nS])).tr F2)
        · exact absurd c_43 (by decide)
    · exact absurd rfl c_14
