/-! the model's ways and next steps -/
theorem fst4_cong {p q : Nat → Bool} (h : ∀ d, d < 4 → p d = q d) : fst4 p = fst4 q := by
  unfold fst4
  rw [h 0 (by omega), h 1 (by omega), h 2 (by omega), h 3 (by omega)]
theorem isd_at {R : Nat → Bool} {x : Int32} {k : Nat} (h : IsD R x) (hn : ∀ j, j < k → R j = false) (hk : k < 200) : x = nI k ↔ R k = true := by
  rcases h with ⟨v, hv, rfl, h1, h2⟩ | ⟨rfl, h1⟩
  · rw [nI_eq (by omega) (by omega)]
    constructor
    · intro e
      rw [← e]
      exact h1
    · intro e
      rcases Nat.lt_trichotomy v k with q | q | q
      · rw [hn v q] at h1; cases h1
      · exact q
      · rw [h2 k q] at e; cases e
  · constructor
    · intro e
      exact absurd e.symm (nI_m1 (by omega))
    · intro e
      rw [h1 k] at e
      cases e
/-- may the next step go in a direction, with w walls -/
def nP (L : Nat → Int64) (lt : Nat → Bool) (go : Nat) (mp : Bool) (fr k w dn : Nat) : Bool := nbOk fr dn && (!lt (nbOf fr dn) && ((lb (wCells L dn) fr == decide (w = 1)) && ((decide (w = 0) || mp) && wF L lt go (decide (w = 0) && mp) k (nbOf fr dn))))
theorem mv_hit {c dn : Nat} {x s : Int64} (hc : c < 63) (hd : dn < 4) : decide (bMv (bOnly c &&& x) dn &&& s ≠ 0) = (nbOk c dn && (lb x c && lb s (nbOf c dn))) := by
  by_cases h : bMv (bOnly c &&& x) dn &&& s ≠ 0
  · obtain ⟨h1, h2, h3⟩ := bMv_hit hc hd h
    rw [decide_eq_true h, h1, h2, h3]
    rfl
  · rw [decide_eq_false h]
    cases ho : nbOk c dn with
    | false => rfl
    | true =>
      cases hx : lb x c with
      | false => rfl
      | true =>
        cases hs : lb s (nbOf c dn) with
        | false => rfl
        | true =>
          have hn := nb_lt hc hd ho
          refine absurd (lb_ne0.mpr ⟨nbOf c dn, by omega, ?_⟩) h
          rw [and_only hc, if_pos hx, bMv_only hc hd, if_pos ho, lb_and, lb_only (by omega), hs]
          simp
section NX
variable {L : Nat → Int64} {mp : Bool} {fr go : Nat}
theorem fdA_eq (I : InvW L) (hfr : fr < 63) (hgo : go < 63) {k : Nat} (hn : ∀ j, j < k + 1 → wF L (lb (L 7)) go mp j fr = false) {dn : Nat} (hd : dn < 4) : fdA L (bOnly fr) (flI L mp (frOf L fr) (bOnly go &&& frOf L fr) k).1 (flI L mp (frOf L fr) (bOnly go &&& frOf L fr) k).2 dn = nP L (lb (L 7)) go mp fr k 0 dn := by
  unfold fdA nP
  rw [mv_hit hfr hd, lb_not (by omega)]
  cases ho : nbOk fr dn with
  | false => rfl
  | true =>
    have hnb := nb_lt hfr hd ho
    have ne : nbOf fr dn ≠ fr := by
      unfold nbOk at ho
      unfold nbOf
      rcases (show dn = 0 ∨ dn = 1 ∨ dn = 2 ∨ dn = 3 by omega) with rfl | rfl | rfl | rfl
      · have := of_decide_eq_true ho
        show fr - 9 ≠ fr
        omega
      · show fr + 1 ≠ fr
        omega
      · show fr + 9 ≠ fr
        omega
      · have := of_decide_eq_true ho
        show fr - 1 ≠ fr
        omega
    rw [lb_or, flQ I hfr hgo k (fun j hj => hn j (by omega)) _ hnb]
    simp only [ne, decide_false, Bool.or_false]
    cases lb (wCells L dn) fr <;> cases lb (L 7) (nbOf fr dn) <;> cases mp <;> simp
theorem fdB_eq (I : InvW L) (hfr : fr < 63) (hgo : go < 63) {k : Nat} (hn : ∀ j, j < k + 1 → wF L (lb (L 7)) go mp j fr = false) {dn : Nat} (hd : dn < 4) : fdB L (bOnly fr) mp (flI L mp (frOf L fr) (bOnly go &&& frOf L fr) k).1 dn = nP L (lb (L 7)) go mp fr k 1 dn := by
  unfold fdB nP
  rw [mv_hit hfr hd]
  cases ho : nbOk fr dn with
  | false => simp
  | true =>
    have hnb := nb_lt hfr hd ho
    have ne : nbOf fr dn ≠ fr := by
      unfold nbOk at ho
      unfold nbOf
      rcases (show dn = 0 ∨ dn = 1 ∨ dn = 2 ∨ dn = 3 by omega) with rfl | rfl | rfl | rfl
      · have := of_decide_eq_true ho
        show fr - 9 ≠ fr
        omega
      · show fr + 1 ≠ fr
        omega
      · show fr + 9 ≠ fr
        omega
      · have := of_decide_eq_true ho
        show fr - 1 ≠ fr
        omega
    rw [flP I hfr hgo k (fun j hj => hn j (by omega)) _ hnb]
    simp only [ne, decide_false, Bool.or_false]
    have ef : wF L (lb (L 7)) go (decide (1 = 0) && mp) k (nbOf fr dn) = wA L (lb (L 7)) go k (nbOf fr dn) := rfl
    rw [ef]
    cases lb (wCells L dn) fr <;> cases lb (L 7) (nbOf fr dn) <;> cases mp <;> cases wA L (lb (L 7)) go k (nbOf fr dn) <;> rfl
theorem stp_cases (I : InvW L) (hfr : fr < 63) (hgo : go < 63) : (stpF L fr go mp = 0 ∧ nxtF L fr go mp = none) ∨ (stpF L fr go mp = -1 ∧ nxtF L fr go mp = none) ∨ ∃ k, k < 62 ∧ stpF L fr go mp = nI (k + 1) ∧ (∀ j, j < k + 1 → wF L (lb (L 7)) go mp j fr = false) ∧ nxtF L fr go mp = match fst4 (nP L (lb (L 7)) go mp fr k 0) with
    | some i => some i
    | none => fst4 (nP L (lb (L 7)) go mp fr k 1) := by
  unfold stpF nxtF
  by_cases e : fr = go
  · rw [if_pos e, if_pos e]
    exact Or.inl ⟨rfl, rfl⟩
  · rw [if_neg e, if_neg e]
    cases e2 : fndB (fhB L fr go mp) 62 with
    | none => exact Or.inr (Or.inl ⟨rfl, rfl⟩)
    | some k =>
      obtain ⟨h1, h2, h3⟩ := fndB_spec e2
      have h := hit_at (mp := mp) I hfr hgo e k h3
      refine Or.inr (Or.inr ⟨k, h1, rfl, h, ?_⟩)
      show fdir L (bOnly fr) mp _ _ = _
      unfold fdir
      rw [fst4_cong (fun d hd => fdA_eq I hfr hgo h hd), fst4_cong (fun d hd => fdB_eq I hfr hgo h hd)]
      rfl
/-- what the model asks of a neighbour -/
theorem nP_ask (I : InvW L) {lt : Nat → Bool} {k w dn : Nat} (hw : w < 2) (hd : dn < 4) (hfr : fr < 63) (hk : k < 62) (hn : ∀ j, j < k + 1 → wF L lt go mp j fr = false) (h1 : nbOk fr dn = true) (h2 : lt (nbOf fr dn) = false) (h3 : lb (wCells L dn) fr = decide (w = 1)) (h4 : (decide (w = 0) || mp) = true) {x : Int32} (hx : IsD (fun n => wF L lt go (decide (w = 0) && mp) n (nbOf fr dn)) x) : x = nI k ↔ nP L lt go mp fr k w dn = true := by
  have e : nP L lt go mp fr k w dn = wF L lt go (decide (w = 0) && mp) k (nbOf fr dn) := by
    unfold nP
    rw [h1, h2, h3, h4]
    simp
  rw [e]
  refine isd_at hx (fun j hj => ?_) (by omega)
  cases e9 : wF L lt go (decide (w = 0) && mp) j (nbOf fr dn) with
  | false => rfl
  | true =>
    exfalso
    have q := hn (j + 1) (by omega)
    rcases (show w = 0 ∨ w = 1 by omega) with rfl | rfl
    · cases mp with
      | false =>
        have := wA_step (lt := lt) (go := go) (n := j) hd h1 h3 h2 e9
        have q : wA L lt go (j + 1) fr = false := q
        rw [this] at q
        cases q
      | true =>
        have := wB_step (lt := lt) (go := go) (n := j) hd h1 h3 h2 e9
        have q : wB L lt go (j + 1) fr = false := q
        rw [this] at q
        cases q
    · cases mp with
      | false => cases h4
      | true =>
        have := wB_wall (lt := lt) (go := go) (n := j) hd h1 h3 h2 e9
        have q : wB L lt go (j + 1) fr = false := q
        rw [this] at q
        cases q
end NX
set_option maxRecDepth 10000 in
theorem c_fromM (d : Nat) {m : Nat → Nat} {thr : Int32} {S : CS} {lt : Nat → Bool} {ds : Nat → Bool} {vN : Nat → Nat} {rw : Nat → Int32} {go c q : Nat} (hc : c < 63) (hq : q ≤ 1) {h : gH} (M : MdlAt h m thr S lt (stF ds vN) rw) (W : FinW S.1 lt go ds vN) {mc ms : Nat} {Post : Option Value → gH → Prop} {X : String → gH → Prop} (hp : ∀ x, IsD (fun n => wF S.1 lt go (decide (q = 1)) n c) x → Post (some (.int x)) h) : gSafe (d + 1) mX6_from [.ref (m 0), .int (nI c), .int (nI q)] h mc ms Post X := by
  have M0 := M.own0
  obtain ⟨f9, e9, k9⟩ := M.a9
  have DA := W.A hc
  have DB := W.B hc
  refine ⟨Nat.le_of_ble_eq_true rfl, fun K hK => ?_⟩
  show K 0 [some (.ref (m 0)), some (.int (nI c)), some (.int (nI q)), none, none] [] _ _ _
  refine s_aload_n hK dX6_from_0 rfl ?_
  refine s_getfield hK dX6_from_1 kF_X6_35 (by first | assumption | exact H.1 | exact H.2.1) (by rfl) ?_
  refine s_iconst hK (v := 2) dX6_from_4 (by decide) ?_
  refine s_iload_n hK dX6_from_5 rfl ?_
  refine s_imul hK dX6_from_6 ?_
  rw [show (2 : Int32) = nI 2 from rfl, pk_mul]
  refine s_ialoadN hK dX6_from_7 (by assumption) (by omega) (by omega) ?_
  rw [k9 _ (by omega)]
  generalize stF ds vN (2 * c) = one at DA
  refine s_istore_n hK dX6_from_8 rfl ?_
  refine s_iload_n hK dX6_from_9 rfl ?_
  refine s_iconst hK (v := 1) dX6_from_10 (by decide) ?_
  rcases (show q = 0 ∨ q = 1 by omega) with rfl | rfl
  · have hp : ∀ x, IsD (fun n => wA S.1 lt go n c) x → Post (some (.int x)) h := hp
    refine s_icmpne hK dX6_from_11 27 (by decide) (fun c_11 => ?_) (fun c_11 => ?_)
    · refine s_iconst hK (v := (-1)) dX6_from_27 (by decide) ?_
      refine s_istore hK dX6_from_28 rfl ?_
      refine s_iload_n hK dX6_from_30 rfl ?_
      refine s_iconst hK (v := (-1)) dX6_from_31 (by decide) ?_
      refine s_icmpne hK dX6_from_32 40 (by decide) (fun c_32 => ?_) (fun c_32 => ?_)
      · refine s_iload hK dX6_from_40 rfl ?_
        refine s_iconst hK (v := (-1)) dX6_from_42 (by decide) ?_
        refine s_icmpne hK dX6_from_43 50 (by decide) (fun c_43 => ?_) (fun c_43 => ?_)
        · exact absurd rfl c_43
        · refine s_iload_n hK dX6_from_46 rfl ?_
          refine s_goto hK dX6_from_47 56 (by decide) ?_
          refine s_ireturn hK dX6_from_56 rfl (by first | rfl | exact b01_nar _) ?_
          exact hp _ DA
      · refine s_iload hK dX6_from_35 rfl ?_
        refine s_goto hK dX6_from_37 56 (by decide) ?_
        refine s_ireturn hK dX6_from_56 rfl (by first | rfl | exact b01_nar _) ?_
        rw [c_32] at DA
        exact hp _ DA
    · exact absurd c_11 (by decide)
  · have hp : ∀ x, IsD (fun n => wB S.1 lt go n c) x → Post (some (.int x)) h := hp
    refine s_icmpne hK dX6_from_11 27 (by decide) (fun c_11 => ?_) (fun c_11 => ?_)
    · exact absurd rfl c_11
    · refine s_aload_n hK dX6_from_14 rfl ?_
      refine s_getfield hK dX6_from_15 kF_X6_35 (by first | assumption | exact H.1 | exact H.2.1) (by rfl) ?_
      refine s_iconst hK (v := 2) dX6_from_18 (by decide) ?_
      refine s_iload_n hK dX6_from_19 rfl ?_
      refine s_imul hK dX6_from_20 ?_
      rw [show (2 : Int32) = nI 2 from rfl, pk_mul]
      refine s_iconst hK (v := 1) dX6_from_21 (by decide) ?_
      refine s_iadd hK dX6_from_22 ?_
      rw [nI_1]
      refine s_ialoadN hK dX6_from_23 (by assumption) (by omega) (by omega) ?_
      rw [k9 _ (by omega)]
      generalize stF ds vN (2 * c + 1) = other at DB
      refine s_goto hK dX6_from_24 28 (by decide) ?_
      refine s_istore hK dX6_from_28 rfl ?_
      refine s_iload_n hK dX6_from_30 rfl ?_
      refine s_iconst hK (v := (-1)) dX6_from_31 (by decide) ?_
      refine s_icmpne hK dX6_from_32 40 (by decide) (fun c_32 => ?_) (fun c_32 => ?_)
      · refine s_iload hK dX6_from_40 rfl ?_
        refine s_iconst hK (v := (-1)) dX6_from_42 (by decide) ?_
        refine s_icmpne hK dX6_from_43 50 (by decide) (fun c_43 => ?_) (fun c_43 => ?_)
        · refine s_iload_n hK dX6_from_50 rfl ?_
          refine s_iload hK dX6_from_51 rfl ?_
          refine s_min hK dX6_from_53 kMin (by omega) (by rfl) ?_
          refine s_ireturn hK dX6_from_56 rfl (by first | rfl | exact b01_nar _) ?_
          refine hp _ ?_
          rcases DA with ⟨v, hv, rfl, a1, a2⟩ | ⟨e, -⟩
          · rcases DB with ⟨w, hw, rfl, b1, b2⟩ | ⟨e, -⟩
            · have hwv : w ≤ v := by
                by_cases z : w ≤ v
                · exact z
                · have := wA_B _ _ a1
                  have b3 : wB S.1 lt go v c = false := b2 v (by omega)
                  rw [this] at b3
                  cases b3
              by_cases z : w < v
              · rw [if_pos (nI_lt z (by omega))]
                exact Or.inl ⟨w, hw, rfl, b1, b2⟩
              · have z : w = v := by omega
                subst z
                rw [if_neg Int32.lt_irrefl]
                exact Or.inl ⟨w, hw, rfl, b1, b2⟩
            · exact absurd e c_43
          · exact absurd e c_32
        · exfalso
          rcases DA with ⟨v, hv, e, a1, a2⟩ | ⟨e, -⟩
          · rcases DB with ⟨w, hw, e2, b1, b2⟩ | ⟨e2, b1⟩
            · exact nI_m1 (by omega) (e2.symm.trans c_43)
            · have := wA_B _ _ a1
              have b3 : wB S.1 lt go v c = false := b1 v
              rw [this] at b3
              cases b3
          · exact absurd e c_32
      · refine s_iload hK dX6_from_35 rfl ?_
        refine s_goto hK dX6_from_37 56 (by decide) ?_
        refine s_ireturn hK dX6_from_56 rfl (by first | rfl | exact b01_nar _) ?_
        exact hp _ DB
set_option maxRecDepth 10000 in
theorem c_wayOf (d : Nat) {m : Nat → Nat} {thr : Int32} {S : CS} {lt : Nat → Bool} {st rw : Nat → Int32} {g go : Nat} (hg : g < 6) (hgo : go < 63) (ok : CSok S) {h : gH} (M : MdlAt h m thr S lt st rw) (I : InvW S.1) (D : InvD S.1) (h7 : S.1 7 = relit S.1) {mc ms : Nat} {Post : Option Value → gH → Prop} {X : String → gH → Prop} (hp : ∀ h' ds vN rw', MdlAt h' m thr S (lb (S.1 7)) (stF ds vN) rw' → gFr (mS m) h h' → FinW S.1 (lb (S.1 7)) go ds vN → Post (some (.int (stpF S.1 (S.2.2.1 g 0) go (mpG S.2.2.1 g)))) h') : gSafe (d + 7) mX6_wayOf [.ref (m 0), .int (nI g), .int (nI go)] h mc ms Post X := by
  have M0 := M.own0
  obtain ⟨g0, -, -, g3⟩ := ok.2 g hg
  refine ⟨Nat.le_of_ble_eq_true rfl, fun K hK => ?_⟩
  show K 0 [some (.ref (m 0)), some (.int (nI g)), some (.int (nI go))] [] _ _ _
  refine s_aload_n hK dX6_wayOf_0 rfl ?_
  refine s_V00 hK dX6_wayOf_1 kV_X6_89 (by first | assumption | exact H.1 | exact H.2.1) (by rfl) ?_
  refine c_reckonLight _ M I D (fun h1 M1 F1 => ?_)
  rw [← h7] at M1
  have M0 := M1.own0
  refine s_aload_n hK dX6_wayOf_4 rfl ?_
  refine s_iload_n hK dX6_wayOf_5 rfl ?_
  refine s_V10 hK dX6_wayOf_6 kV_X6_92 (by first | assumption | exact H.1 | exact H.2.1) (by rfl) ?_
  refine c_reckonWays _ hgo M1 I (fun h2 ds vN rw2 M2 F2 W => ?_)
  have M0 := M2.own0
  refine s_aload_n hK dX6_wayOf_9 rfl ?_
  refine s_aload_n hK dX6_wayOf_10 rfl ?_
  refine s_iload_n hK dX6_wayOf_11 rfl ?_
  refine s_iconst hK (v := 0) dX6_wayOf_12 (by decide) ?_
  refine s_V20 hK dX6_wayOf_13 kV_X6_95 (by first | assumption | exact H.1 | exact H.2.1) (by rfl) ?_
  refine c_sp (k := 0) _ hg (by omega) M2 ?_
  refine s_aload_n hK dX6_wayOf_16 rfl ?_
  refine s_iload_n hK dX6_wayOf_17 rfl ?_
  refine s_iconst hK (v := 3) dX6_wayOf_18 (by decide) ?_
  refine s_V20 hK dX6_wayOf_19 kV_X6_95 (by first | assumption | exact H.1 | exact H.2.1) (by rfl) ?_
  refine c_sp (k := 3) _ hg (by omega) M2 ?_
  refine s_V20 hK dX6_wayOf_22 kV_X6_98 (by first | assumption | exact H.1 | exact H.2.1) (by rfl) ?_
  refine c_fromM _ g0 g3 M2 W (fun x hx => ?_)
  refine s_ireturn hK dX6_wayOf_25 rfl (by first | rfl | exact b01_nar _) ?_
  have e := hx.uniq (stpF_D (mp := mpG S.2.2.1 g) I g0 hgo)
  rw [e]
  exact hp h2 ds vN rw2 M2 (F1.tr F2) W
def lsF (p : Nat → Bool) : Nat → Option Nat
  | 0 => none
  | t + 1 => if p (3 - t) then some (3 - t) else lsF p t
theorem lsF_4 (p : Nat → Bool) : lsF p 4 = fst4 p := rfl
def drI (t : Nat) : Int32 := if t = 4 then -1 else nI (3 - t)
theorem drI_suc : ∀ t : Fin 4, nI (3 - t.val) + (-1) = drI (t.val + 1) := by decide +kernel
set_option maxHeartbeats 1000000 in
set_option maxRecDepth 10000 in
theorem c_nextOf (d : Nat) {m : Nat → Nat} {thr : Int32} {S : CS} {lt : Nat → Bool} {st rw : Nat → Int32} {g : Nat} (hg : g < 6) (ok : CSok S) {h : gH} (M : MdlAt h m thr S lt st rw) (I : InvW S.1) (D : InvD S.1) (h7 : S.1 7 = relit S.1) {mc ms : Nat} {Post : Option Value → gH → Prop} {X : String → gH → Prop} (hp : ∀ h' lt' st' rw', MdlAt h' m thr S lt' st' rw' → gFr (mS m) h h' → Post (some (.int (oI (nxtF S.1 (S.2.2.1 g 0) (S.2.2.1 g 2) (mpG S.2.2.1 g))))) h') : gSafe (d + 8) mX6_nextOf [.ref (m 0), .int (nI g)] h mc ms Post X := by
  have M0 := M.own0
  obtain ⟨g0, -, g2, g3⟩ := ok.2 g hg
  refine ⟨Nat.le_of_ble_eq_true rfl, fun K hK => ?_⟩
  show K 0 [some (.ref (m 0)), some (.int (nI g)), none, none, none, none, none] [] _ _ _
  refine s_aload_n hK dX6_nextOf_0 rfl ?_
  refine s_iload_n hK dX6_nextOf_1 rfl ?_
  refine s_aload_n hK dX6_nextOf_2 rfl ?_
  refine s_iload_n hK dX6_nextOf_3 rfl ?_
  refine s_iconst hK (v := 2) dX6_nextOf_4 (by decide) ?_
  refine s_V20 hK dX6_nextOf_5 kV_X6_95 (by first | assumption | exact H.1 | exact H.2.1) (by rfl) ?_
  refine c_sp (k := 2) _ hg (by omega) M ?_
  refine s_V20 hK dX6_nextOf_8 kV_X6_101 (by first | assumption | exact H.1 | exact H.2.1) (by rfl) ?_
  refine c_wayOf _ hg g2 ok M I D h7 (fun h1 ds vN rw1 M1 F1 W => ?_)
  have hp := hp h1 _ _ _ M1 F1
  rcases stp_cases (mp := mpG S.2.2.1 g) I g0 g2 with ⟨e1, e2⟩ | ⟨e1, e2⟩ | ⟨k, hk, e1, hn, e2⟩
  · rw [e1]
    rw [e2] at hp
    refine s_istore_n hK dX6_nextOf_11 rfl ?_
    refine s_iload_n hK dX6_nextOf_12 rfl ?_
    refine s_iconst hK (v := 1) dX6_nextOf_13 (by decide) ?_
    refine s_icmpge hK dX6_nextOf_14 19 (by decide) (fun c_14 => ?_) (fun c_14 => ?_)
    · exact absurd c_14 (by decide)
    · refine s_iconst hK (v := (-1)) dX6_nextOf_17 (by decide) ?_
      refine s_ireturn hK dX6_nextOf_18 rfl (by first | rfl | exact b01_nar _) ?_
      exact hp
  · rw [e1]
    rw [e2] at hp
    refine s_istore_n hK dX6_nextOf_11 rfl ?_
    refine s_iload_n hK dX6_nextOf_12 rfl ?_
    refine s_iconst hK (v := 1) dX6_nextOf_13 (by decide) ?_
    refine s_icmpge hK dX6_nextOf_14 19 (by decide) (fun c_14 => ?_) (fun c_14 => ?_)
    · exact absurd c_14 (by decide)
    · refine s_iconst hK (v := (-1)) dX6_nextOf_17 (by decide) ?_
      refine s_ireturn hK dX6_nextOf_18 rfl (by first | rfl | exact b01_nar _) ?_
      exact hp
  · rw [e1]
    rw [e2] at hp
    obtain ⟨fr, hfr⟩ : ∃ z, z = S.2.2.1 g 0 := ⟨_, rfl⟩
    rw [← hfr] at hp hn g0
    have M0 := M1.own0
    obtain ⟨f8, e8, k8⟩ := M1.a8
    have inner : ∀ w, w < 2 → (∀ w6, K 149 [some (.ref (m 0)), some (.int (nI g)), some (.int (nI (k + 1))), some (.int (oI (fst4 (nP S.1 (lb (S.1 7)) (S.2.2.1 g 2) (mpG S.2.2.1 g) fr k w)))), some (.int (nI w)), some (.int (-1)), w6] [] h1 mc ms) → ∀ t2 t, t + t2 = 4 → ∀ w6, K 38 [some (.ref (m 0)), some (.int (nI g)), some (.int (nI (k + 1))), some (.int (oI (lsF (nP S.1 (lb (S.1 7)) (S.2.2.1 g 2) (mpG S.2.2.1 g) fr k w) t))), some (.int (nI w)), some (.int (drI t)), w6] [] h1 mc ms := by
      intro w hw after t2
      induction t2 with
      | zero =>
        intro t ht w6
        obtain rfl : t = 4 := by omega
        refine s_iload hK dX6_nextOf_38 rfl ?_
        refine s_iflt hK dX6_nextOf_40 149 (by decide) (fun c_40 => ?_) (fun c_40 => ?_)
        · exact after w6
        · exact absurd (by decide) c_40
      | succ t2 ih =>
        intro t ht w6
        have h4 : t < 4 := by omega
        have ed : drI t = nI (3 - t) := if_neg (by omega)
        have es := drI_suc ⟨t, h4⟩
        have es : nI (3 - t) + (-1) = drI (t + 1) := es
        rw [ed]
        have skip : nP S.1 (lb (S.1 7)) (S.2.2.1 g 2) (mpG S.2.2.1 g) fr k w (3 - t) = false → ∀ w6, K 143 [some (.ref (m 0)), some (.int (nI g)), some (.int (nI (k + 1))), some (.int (oI (lsF (nP S.1 (lb (S.1 7)) (S.2.2.1 g 2) (mpG S.2.2.1 g) fr k w) t))), some (.int (nI w)), some (.int (nI (3 - t))), w6] [] h1 mc ms := by
          intro e w6
          have r := ih (t + 1) (by omega) w6
          have e5 : lsF (nP S.1 (lb (S.1 7)) (S.2.2.1 g 2) (mpG S.2.2.1 g) fr k w) (t + 1) = lsF (nP S.1 (lb (S.1 7)) (S.2.2.1 g 2) (mpG S.2.2.1 g) fr k w) t := by
            show (if _ then _ else _) = _
            rw [if_neg (by rw [e]; decide)]
          rw [e5] at r
          refine s_iinck hK (v := (-1)) dX6_nextOf_143 rfl (by decide) rfl ?_
          refine s_goto hK dX6_nextOf_146 38 (by decide) ?_
          rw [es]
          exact r
        have take : nP S.1 (lb (S.1 7)) (S.2.2.1 g 2) (mpG S.2.2.1 g) fr k w (3 - t) = true → ∀ w3 w6, K 140 [some (.ref (m 0)), some (.int (nI g)), some (.int (nI (k + 1))), w3, some (.int (nI w)), some (.int (nI (3 - t))), w6] [] h1 mc ms := by
          intro e w3 w6
          have r := ih (t + 1) (by omega) w6
          have e5 : lsF (nP S.1 (lb (S.1 7)) (S.2.2.1 g 2) (mpG S.2.2.1 g) fr k w) (t + 1) = some (3 - t) := by
            show (if _ then _ else _) = _
            rw [if_pos e]
          rw [e5] at r
          refine s_iload hK dX6_nextOf_140 rfl ?_
          refine s_istore_n hK dX6_nextOf_142 rfl ?_
          refine s_iinck hK (v := (-1)) dX6_nextOf_143 rfl (by decide) rfl ?_
          refine s_goto hK dX6_nextOf_146 38 (by decide) ?_
          rw [es]
          exact r
        refine s_iload hK dX6_nextOf_38 rfl ?_
        refine s_iflt hK dX6_nextOf_40 149 (by decide) (fun c_40 => ?_) (fun c_40 => ?_)
        · exact absurd c_40 (nI_pos (by omega))
        · refine s_aload_n hK dX6_nextOf_43 rfl ?_
          refine s_iload_n hK dX6_nextOf_44 rfl ?_
          refine s_iconst hK (v := 0) dX6_nextOf_45 (by decide) ?_
          refine s_V20 hK dX6_nextOf_46 kV_X6_95 (by first | assumption | exact H.1 | exact H.2.1) (by rfl) ?_
          refine c_sp (k := 0) _ hg (by omega) M1 ?_
          rw [← hfr]
          refine s_iload hK dX6_nextOf_49 rfl ?_
          refine s_S20 hK dX6_nextOf_51 kS_X6_56 (by rfl) ?_
          refine c_beside _ g0 (by omega) ?_
          unfold bsI
          cases eo : nbOk fr (3 - t) with
          | false =>
            rw [if_neg (by simp)]
            refine s_istore hK dX6_nextOf_54 rfl ?_
            refine s_iload hK dX6_nextOf_56 rfl ?_
            refine s_iconst hK (v := (-1)) dX6_nextOf_58 (by decide) ?_
            refine s_icmpeq hK dX6_nextOf_59 143 (by decide) (fun c_59 => ?_) (fun c_59 => ?_)
            · exact skip (by unfold nP; rw [eo]; rfl) _
            · exact absurd rfl c_59
          | true =>
            have hnb := nb_lt g0 (by omega) eo
            rw [if_pos rfl]
            refine s_istore hK dX6_nextOf_54 rfl ?_
            refine s_iload hK dX6_nextOf_56 rfl ?_
            refine s_iconst hK (v := (-1)) dX6_nextOf_58 (by decide) ?_
            refine s_icmpeq hK dX6_nextOf_59 143 (by decide) (fun c_59 => ?_) (fun c_59 => ?_)
            · exact absurd c_59 (nI_m1 (by omega))
            · refine s_aload_n hK dX6_nextOf_62 rfl ?_
              refine s_getfield hK dX6_nextOf_63 kF_X6_32 (by first | assumption | exact H.1 | exact H.2.1) (by rfl) ?_
              refine s_iload hK dX6_nextOf_66 rfl ?_
              refine s_baloadN hK dX6_nextOf_68 (by assumption) (by omega) (by omega) ?_
              rw [k8 _ hnb]
              cases el : lb (S.1 7) (nbOf fr (3 - t)) with
              | true =>
                refine s_ifne hK dX6_nextOf_69 143 (by decide) (fun c_69 => ?_) (fun c_69 => ?_)
                · exact skip (by unfold nP; rw [eo, el]; rfl) _
                · exact absurd c_69 (by decide)
              | false =>
                refine s_ifne hK dX6_nextOf_69 143 (by decide) (fun c_69 => ?_) (fun c_69 => ?_)
                · exact absurd rfl c_69
                · refine s_aload_n hK dX6_nextOf_72 rfl ?_
                  refine s_aload_n hK dX6_nextOf_73 rfl ?_
                  refine s_iload_n hK dX6_nextOf_74 rfl ?_
                  refine s_iconst hK (v := 0) dX6_nextOf_75 (by decide) ?_
                  refine s_V20 hK dX6_nextOf_76 kV_X6_95 (by first | assumption | exact H.1 | exact H.2.1) (by rfl) ?_
                  refine c_sp (k := 0) _ hg (by omega) M1 ?_
                  rw [← hfr]
                  refine s_iload hK dX6_nextOf_79 rfl ?_
                  refine s_V20 hK dX6_nextOf_81 kV_X6_70 (by first | assumption | exact H.1 | exact H.2.1) (by rfl) ?_
                  refine c_hasWallM _ g0 (by omega) M1 I ?_
                  rcases (show w = 0 ∨ w = 1 by omega) with rfl | rfl
                  · refine s_iload hK dX6_nextOf_84 rfl ?_
                    refine s_iconst hK (v := 1) dX6_nextOf_86 (by decide) ?_
                    refine s_icmpne hK dX6_nextOf_87 94 (by decide) (fun c_87 => ?_) (fun c_87 => ?_)
                    · refine s_iconst hK (v := 0) dX6_nextOf_94 (by decide) ?_
                      refine s_icmpne hK dX6_nextOf_95 143 (by decide) (fun c_95 => ?_) (fun c_95 => ?_)
                      · refine skip ?_ _
                        have ew : lb (wCells S.1 (3 - t)) fr = true := by
                          cases ew : lb (wCells S.1 (3 - t)) fr with
                          | true => rfl
                          | false => exact absurd (by rw [ew]; rfl) c_95
                        unfold nP
                        rw [eo, el, ew]
                        rfl
                      · have ew : lb (wCells S.1 (3 - t)) fr = false := by
                          cases ew : lb (wCells S.1 (3 - t)) fr with
                          | false => rfl
                          | true => rw [ew] at c_95; exact absurd c_95 (by decide)
                        refine s_iload hK dX6_nextOf_98 rfl ?_
                        refine s_aload_n hK dX6_nextOf_100 rfl ?_
                        refine s_iload_n hK dX6_nextOf_101 rfl ?_
                        refine s_iconst hK (v := 3) dX6_nextOf_102 (by decide) ?_
                        refine s_V20 hK dX6_nextOf_103 kV_X6_95 (by first | assumption | exact H.1 | exact H.2.1) (by rfl) ?_
                        refine c_sp (k := 3) _ hg (by omega) M1 ?_
                        refine s_icmple hK dX6_nextOf_106 112 (by decide) (fun c_106 => ?_) (fun c_106 => ?_)
                        · refine s_aload_n hK dX6_nextOf_112 rfl ?_
                          refine s_iload hK dX6_nextOf_113 rfl ?_
                          refine s_iload hK dX6_nextOf_115 rfl ?_
                          refine s_iconst hK (v := 1) dX6_nextOf_117 (by decide) ?_
                          refine s_icmpne hK dX6_nextOf_118 125 (by decide) (fun c_118 => ?_) (fun c_118 => ?_)
                          · refine s_aload_n hK dX6_nextOf_125 rfl ?_
                            refine s_iload_n hK dX6_nextOf_126 rfl ?_
                            refine s_iconst hK (v := 3) dX6_nextOf_127 (by decide) ?_
                            refine s_V20 hK dX6_nextOf_128 kV_X6_95 (by first | assumption | exact H.1 | exact H.2.1) (by rfl) ?_
                            refine c_sp (k := 3) _ hg (by omega) M1 ?_
                            refine s_V20 hK dX6_nextOf_131 kV_X6_98 (by first | assumption | exact H.1 | exact H.2.1) (by rfl) ?_
                            refine c_fromM _ hnb g3 M1 W (fun x hx => ?_)
                            have key := nP_ask (w := 0) I hw (by omega) g0 hk hn eo el ew rfl hx
                            refine s_iload_n hK dX6_nextOf_134 rfl ?_
                            refine s_iconst hK (v := 1) dX6_nextOf_135 (by decide) ?_
                            refine s_isub hK dX6_nextOf_136 ?_
                            rw [nI_pred]
                            refine s_icmpne hK dX6_nextOf_137 143 (by decide) (fun c_137 => ?_) (fun c_137 => ?_)
                            · refine skip ?_ _
                              cases e9 : nP S.1 (lb (S.1 7)) (S.2.2.1 g 2) (mpG S.2.2.1 g) fr k 0 (3 - t) with
                              | false => rfl
                              | true => exact absurd (key.mpr e9) c_137
                            · exact take (key.mp c_137) _ _
                          · exact absurd c_118 (by decide)
                        · exact absurd (nI_le (a := 0) (by omega) (by omega)) c_106
                    · exact absurd c_87 (by decide)
                  · refine s_iload hK dX6_nextOf_84 rfl ?_
                    refine s_iconst hK (v := 1) dX6_nextOf_86 (by decide) ?_
                    refine s_icmpne hK dX6_nextOf_87 94 (by decide) (fun c_87 => ?_) (fun c_87 => ?_)
                    · exact absurd rfl c_87
                    · refine s_iconst hK (v := 1) dX6_nextOf_90 (by decide) ?_
                      refine s_goto hK dX6_nextOf_91 95 (by decide) ?_
                      refine s_icmpne hK dX6_nextOf_95 143 (by decide) (fun c_95 => ?_) (fun c_95 => ?_)
                      · refine skip ?_ _
                        have ew : lb (wCells S.1 (3 - t)) fr = false := by
                          cases ew : lb (wCells S.1 (3 - t)) fr with
                          | false => rfl
                          | true => exact absurd (by rw [ew]; rfl) c_95
                        unfold nP
                        rw [eo, el, ew]
                        rfl
                      · have ew : lb (wCells S.1 (3 - t)) fr = true := by
                          cases ew : lb (wCells S.1 (3 - t)) fr with
                          | true => rfl
                          | false => rw [ew] at c_95; exact absurd c_95 (by decide)
                        refine s_iload hK dX6_nextOf_98 rfl ?_
                        refine s_aload_n hK dX6_nextOf_100 rfl ?_
                        refine s_iload_n hK dX6_nextOf_101 rfl ?_
                        refine s_iconst hK (v := 3) dX6_nextOf_102 (by decide) ?_
                        refine s_V20 hK dX6_nextOf_103 kV_X6_95 (by first | assumption | exact H.1 | exact H.2.1) (by rfl) ?_
                        refine c_sp (k := 3) _ hg (by omega) M1 ?_
                        refine s_icmple hK dX6_nextOf_106 112 (by decide) (fun c_106 => ?_) (fun c_106 => ?_)
                        · have em : mpG S.2.2.1 g = true := by
                            have q : 1 ≤ S.2.2.1 g 3 := (nI_leI (a := 1) (by omega) (by omega)).mp c_106
                            exact decide_eq_true (by omega)
                          refine s_aload_n hK dX6_nextOf_112 rfl ?_
                          refine s_iload hK dX6_nextOf_113 rfl ?_
                          refine s_iload hK dX6_nextOf_115 rfl ?_
                          refine s_iconst hK (v := 1) dX6_nextOf_117 (by decide) ?_
                          refine s_icmpne hK dX6_nextOf_118 125 (by decide) (fun c_118 => ?_) (fun c_118 => ?_)
                          · exact absurd rfl c_118
                          · refine s_iconst hK (v := 0) dX6_nextOf_121 (by decide) ?_
                            refine s_goto hK dX6_nextOf_122 131 (by decide) ?_
                            refine s_V20 hK dX6_nextOf_131 kV_X6_98 (by first | assumption | exact H.1 | exact H.2.1) (by rfl) ?_
                            refine c_fromM (q := 0) _ hnb (by omega) M1 W (fun x hx => ?_)
                            have key := nP_ask (w := 1) I hw (by omega) g0 hk hn eo el ew (by rw [em]; rfl) hx
                            refine s_iload_n hK dX6_nextOf_134 rfl ?_
                            refine s_iconst hK (v := 1) dX6_nextOf_135 (by decide) ?_
                            refine s_isub hK dX6_nextOf_136 ?_
                            rw [nI_pred]
                            refine s_icmpne hK dX6_nextOf_137 143 (by decide) (fun c_137 => ?_) (fun c_137 => ?_)
                            · refine skip ?_ _
                              cases e9 : nP S.1 (lb (S.1 7)) (S.2.2.1 g 2) (mpG S.2.2.1 g) fr k 1 (3 - t) with
                              | false => rfl
                              | true => exact absurd (key.mpr e9) c_137
                            · exact take (key.mp c_137) _ _
                        · have em : mpG S.2.2.1 g = false := by
                            refine decide_eq_false (fun z => c_106 ?_)
                            rw [z]
                            exact Int32.le_refl _
                          refine s_goto hK dX6_nextOf_109 143 (by decide) ?_
                          exact skip (by unfold nP; rw [eo, el, ew, em]; rfl) _
    refine s_istore_n hK dX6_nextOf_11 rfl ?_
    refine s_iload_n hK dX6_nextOf_12 rfl ?_
    refine s_iconst hK (v := 1) dX6_nextOf_13 (by decide) ?_
    refine s_icmpge hK dX6_nextOf_14 19 (by decide) (fun c_14 => ?_) (fun c_14 => ?_)
    · refine s_iconst hK (v := (-1)) dX6_nextOf_19 (by decide) ?_
      refine s_istore_n hK dX6_nextOf_20 rfl ?_
      refine s_iconst hK (v := 0) dX6_nextOf_21 (by decide) ?_
      refine s_istore hK dX6_nextOf_22 rfl ?_
      have last : ∀ w5 w6, K 24 [some (.ref (m 0)), some (.int (nI g)), some (.int (nI (k + 1))), some (.int (oI (fst4 (nP S.1 (lb (S.1 7)) (S.2.2.1 g 2) (mpG S.2.2.1 g) fr k 0)))), some (.int (nI 1)), w5, w6] [] h1 mc ms := by
        intro w5 w6
        cases ef : fst4 (nP S.1 (lb (S.1 7)) (S.2.2.1 g 2) (mpG S.2.2.1 g) fr k 0) with
        | some i =>
          rw [ef] at hp
          have hi := (fst4_spec ef).1
          have hp : Post (some (.int (nI i))) h1 := hp
          show K 24 [some (.ref (m 0)), some (.int (nI g)), some (.int (nI (k + 1))), some (.int (nI i)), some (.int (nI 1)), w5, w6] [] h1 mc ms
          refine s_iload hK dX6_nextOf_24 rfl ?_
          refine s_iconst hK (v := 2) dX6_nextOf_26 (by decide) ?_
          refine s_icmpge hK dX6_nextOf_27 155 (by decide) (fun c_27 => ?_) (fun c_27 => ?_)
          · exact absurd c_27 (by decide)
          · refine s_iload_n hK dX6_nextOf_30 rfl ?_
            refine s_iconst hK (v := (-1)) dX6_nextOf_31 (by decide) ?_
            refine s_icmpne hK dX6_nextOf_32 155 (by decide) (fun c_32 => ?_) (fun c_32 => ?_)
            · refine s_iload_n hK dX6_nextOf_155 rfl ?_
              refine s_ireturn hK dX6_nextOf_156 rfl (by first | rfl | exact b01_nar _) ?_
              exact hp
            · exact absurd c_32 (nI_m1 (by omega))
        | none =>
          rw [ef] at hp
          show K 24 [some (.ref (m 0)), some (.int (nI g)), some (.int (nI (k + 1))), some (.int (-1)), some (.int (nI 1)), w5, w6] [] h1 mc ms
          refine s_iload hK dX6_nextOf_24 rfl ?_
          refine s_iconst hK (v := 2) dX6_nextOf_26 (by decide) ?_
          refine s_icmpge hK dX6_nextOf_27 155 (by decide) (fun c_27 => ?_) (fun c_27 => ?_)
          · exact absurd c_27 (by decide)
          · refine s_iload_n hK dX6_nextOf_30 rfl ?_
            refine s_iconst hK (v := (-1)) dX6_nextOf_31 (by decide) ?_
            refine s_icmpne hK dX6_nextOf_32 155 (by decide) (fun c_32 => ?_) (fun c_32 => ?_)
            · exact absurd rfl c_32
            · refine s_iconst hK (v := 3) dX6_nextOf_35 (by decide) ?_
              refine s_istore hK dX6_nextOf_36 rfl ?_
              refine inner 1 (by omega) (fun w6 => ?_) 4 0 (by omega) w6
              refine s_iinck hK (v := 1) dX6_nextOf_149 rfl (by decide) rfl ?_
              refine s_goto hK dX6_nextOf_152 24 (by decide) ?_
              rw [nI_1]
              refine s_iload hK dX6_nextOf_24 rfl ?_
              refine s_iconst hK (v := 2) dX6_nextOf_26 (by decide) ?_
              refine s_icmpge hK dX6_nextOf_27 155 (by decide) (fun c_27 => ?_) (fun c_27 => ?_)
              · refine s_iload_n hK dX6_nextOf_155 rfl ?_
                refine s_ireturn hK dX6_nextOf_156 rfl (by first | rfl | exact b01_nar _) ?_
                exact hp
              · exact absurd (Int32.le_refl (nI 2)) c_27
      refine s_iload hK dX6_nextOf_24 rfl ?_
      refine s_iconst hK (v := 2) dX6_nextOf_26 (by decide) ?_
      refine s_icmpge hK dX6_nextOf_27 155 (by decide) (fun c_27 => ?_) (fun c_27 => ?_)
      · exact absurd c_27 (by decide)
      · refine s_iload_n hK dX6_nextOf_30 rfl ?_
        refine s_iconst hK (v := (-1)) dX6_nextOf_31 (by decide) ?_
        refine s_icmpne hK dX6_nextOf_32 155 (by decide) (fun c_32 => ?_) (fun c_32 => ?_)
        · exact absurd rfl c_32
        · refine s_iconst hK (v := 3) dX6_nextOf_35 (by decide) ?_
          refine s_istore hK dX6_nextOf_36 rfl ?_
          refine inner 0 (by omega) (fun w6 => ?_) 4 0 (by omega) none
          refine s_iinck hK (v := 1) dX6_nextOf_149 rfl (by decide) rfl ?_
          refine s_goto hK dX6_nextOf_152 24 (by decide) ?_
          rw [nI_1]
          exact last _ _
    · exact absurd (nI_le (a := 1) (by omega) (by omega)) c_14
