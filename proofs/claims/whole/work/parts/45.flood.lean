/-! the class's floods are those sets -/
theorem lb_ibit {x : Int64} {b : Bool} {L : Nat → Int64} (I : InvW L) (hx : SB x) {c e : Nat} (hc : c < 63) (he : e < 4) : lb (bMv (x &&& nbMask L b (opp e)) (opp e)) c = (nbOk c e && (lb x (nbOf c e) && (lb (wCells L e) c == b))) := by
  have ee : opp (opp e) = e := by
    match e, he with
    | 0, _ => rfl
    | 1, _ => rfl
    | 2, _ => rfl
    | 3, _ => rfl
  rw [bMv_lb (and_SB hx) (opp_lt he) hc, ee]
  cases ho : nbOk c e with
  | false => rfl
  | true =>
    have hn := nb_lt hc he ho
    rw [lb_and]
    congr 2
    have ws := wall_sym I hc he ho
    unfold nbMask
    cases b with
    | true =>
      rw [if_pos rfl, ws]
      simp
    | false =>
      rw [if_neg (by simp), lb_not (by omega), ws]
      simp
theorem ex4_or3 (p q r : Nat → Bool) : ex4 (fun e => p e || (q e || r e)) = (ex4 p || (ex4 q || ex4 r)) := by
  show ((p 0 || (q 0 || r 0)) || ((p 1 || (q 1 || r 1)) || ((p 2 || (q 2 || r 2)) || (p 3 || (q 3 || r 3))))) = ((p 0 || (p 1 || (p 2 || p 3))) || ((q 0 || (q 1 || (q 2 || q 3))) || (r 0 || (r 1 || (r 2 || r 3)))))
  cases p 0 <;> cases p 1 <;> cases p 2 <;> cases p 3 <;> cases q 0 <;> cases q 1 <;> cases q 2 <;> cases q 3 <;> simp
theorem nbs_lb {x : Int64} {b : Bool} {L : Nat → Int64} (I : InvW L) (hx : SB x) {c : Nat} (hc : c < 63) : lb (nbsI L x b 4) c = ex4 (fun e => nbOk c e && (lb x (nbOf c e) && (lb (wCells L e) c == b))) := by
  have q0 := lb_ibit (b := b) I hx hc (e := 0) (by omega)
  have q1 := lb_ibit (b := b) I hx hc (e := 1) (by omega)
  have q2 := lb_ibit (b := b) I hx hc (e := 2) (by omega)
  have q3 := lb_ibit (b := b) I hx hc (e := 3) (by omega)
  show lb (nbsI L x b 4) c = ((nbOk c 0 && (lb x (nbOf c 0) && (lb (wCells L 0) c == b))) || ((nbOk c 1 && (lb x (nbOf c 1) && (lb (wCells L 1) c == b))) || ((nbOk c 2 && (lb x (nbOf c 2) && (lb (wCells L 2) c == b))) || (nbOk c 3 && (lb x (nbOf c 3) && (lb (wCells L 3) c == b))))))
  rw [← q0, ← q1, ← q2, ← q3]
  show lb ((((0 ||| bMv (x &&& nbMask L b 0) 0) ||| bMv (x &&& nbMask L b 1) 1) ||| bMv (x &&& nbMask L b 2) 2) ||| bMv (x &&& nbMask L b 3) 3) c = (lb (bMv (x &&& nbMask L b 2) 2) c || (lb (bMv (x &&& nbMask L b 3) 3) c || (lb (bMv (x &&& nbMask L b 0) 0) c || lb (bMv (x &&& nbMask L b 1) 1) c)))
  rw [lb_or, lb_or, lb_or, lb_or, lb_0]
  generalize lb (bMv (x &&& nbMask L b 0) 0) c = a0
  generalize lb (bMv (x &&& nbMask L b 1) 1) c = a1
  generalize lb (bMv (x &&& nbMask L b 2) 2) c = a2
  generalize lb (bMv (x &&& nbMask L b 3) 3) c = a3
  cases a0 <;> cases a1 <;> cases a2 <;> cases a3 <;> rfl
theorem nbs_SB {x : Int64} {b : Bool} {L : Nat → Int64} (hx : SB x) : ∀ n, n ≤ 4 → SB (nbsI L x b n)
  | 0, _ => by
    show SB 0
    unfold SB
    exact lb_0 _
  | n + 1, h => by
    show SB (nbsI L x b n ||| bMv (x &&& nbMask L b n) n)
    exact or_SB2 (nbs_SB hx n (by omega)) (bMv_SB (and_SB hx) (by omega))
theorem frOf_lb {L : Nat → Int64} {fr c : Nat} (hfr : fr < 63) (hc : c < 63) : lb (frOf L fr) c = (!lb (L 7) c || decide (c = fr)) := by
  unfold frOf
  rw [lb_or, lb_not (by omega), lb_only (by omega)]
section FLD
variable {L : Nat → Int64} {mp : Bool} {fr go : Nat}
theorem flI_suc (n : Nat) : flI L mp (frOf L fr) (bOnly go &&& frOf L fr) (n + 1) = ((flI L mp (frOf L fr) (bOnly go &&& frOf L fr) n).1 ||| (nbsI L (flI L mp (frOf L fr) (bOnly go &&& frOf L fr) n).1 false 4 &&& frOf L fr), if mp then ((flI L mp (frOf L fr) (bOnly go &&& frOf L fr) n).2 ||| (nbsI L (flI L mp (frOf L fr) (bOnly go &&& frOf L fr) n).2 false 4 &&& frOf L fr)) ||| (nbsI L (flI L mp (frOf L fr) (bOnly go &&& frOf L fr) n).1 true 4 &&& frOf L fr) else (flI L mp (frOf L fr) (bOnly go &&& frOf L fr) n).2) := rfl
theorem flI_SB (hgo : go < 63) : ∀ n, SB (flI L mp (frOf L fr) (bOnly go &&& frOf L fr) n).1 ∧ SB (flI L mp (frOf L fr) (bOnly go &&& frOf L fr) n).2
  | 0 => by
    refine ⟨and_SB (bOnly_SB hgo), ?_⟩
    show SB 0
    unfold SB
    exact lb_0 _
  | n + 1 => by
    obtain ⟨h1, h2⟩ := flI_SB hgo n
    rw [flI_suc]
    refine ⟨or_SB2 h1 (and_SB (nbs_SB h1 4 (Nat.le_refl _))), ?_⟩
    show SB (if mp then _ else _)
    split
    · exact or_SB2 (or_SB2 h2 (and_SB (nbs_SB h2 4 (Nat.le_refl _)))) (and_SB (nbs_SB h1 4 (Nat.le_refl _)))
    · exact h2
theorem flI_no : ∀ n, (flI L false (frOf L fr) (bOnly go &&& frOf L fr) n).2 = 0
  | 0 => rfl
  | n + 1 => by
    rw [flI_suc]
    exact flI_no n
theorem flP (I : InvW L) (hfr : fr < 63) (hgo : go < 63) : ∀ n, (∀ j, j < n → wF L (lb (L 7)) go mp j fr = false) → ∀ c, c < 63 → lb (flI L mp (frOf L fr) (bOnly go &&& frOf L fr) n).1 c = (wA L (lb (L 7)) go n c && (!lb (L 7) c || decide (c = fr)))
  | 0, _, c, hc => by
    show lb (bOnly go &&& frOf L fr) c = _
    rw [lb_and, lb_only (by omega), frOf_lb hfr hc]
    rfl
  | n + 1, hn, c, hc => by
    have ih := flP I hfr hgo n (fun j hj => hn j (by omega))
    have hs := (flI_SB (L := L) (mp := mp) (fr := fr) hgo n).1
    have hA : wA L (lb (L 7)) go n fr = false := by
      cases e : wA L (lb (L 7)) go n fr with
      | false => rfl
      | true =>
        have := wA_F (mp := mp) e
        rw [hn n (by omega)] at this
        cases this
    rw [flI_suc]
    show lb ((flI L mp (frOf L fr) (bOnly go &&& frOf L fr) n).1 ||| (nbsI L (flI L mp (frOf L fr) (bOnly go &&& frOf L fr) n).1 false 4 &&& frOf L fr)) c = _
    rw [lb_or, lb_and, ih c hc, frOf_lb hfr hc, nbs_lb I hs hc, wA_suc, Bool.and_or_distrib_right]
    congr 1
    congr 1
    refine ex4_cong (fun e he => ?_)
    cases ho : nbOk c e with
    | false => rfl
    | true =>
      rw [ih _ (nb_lt hc he ho)]
      by_cases q : nbOf c e = fr
      · rw [q, hA]
        simp
      · simp only [q, decide_false, Bool.or_false, Bool.true_and]
        cases lb (wCells L e) c <;> cases lb (L 7) (nbOf c e) <;> cases wA L (lb (L 7)) go n (nbOf c e) <;> rfl
theorem flQ (I : InvW L) (hfr : fr < 63) (hgo : go < 63) : ∀ n, (∀ j, j < n → wF L (lb (L 7)) go mp j fr = false) → ∀ c, c < 63 → (lb (flI L mp (frOf L fr) (bOnly go &&& frOf L fr) n).1 c || lb (flI L mp (frOf L fr) (bOnly go &&& frOf L fr) n).2 c) = (wF L (lb (L 7)) go mp n c && (!lb (L 7) c || decide (c = fr))) := by
  cases mp with
  | false =>
    intro n hn c hc
    rw [flI_no, lb_0, Bool.or_false]
    exact flP I hfr hgo n hn c hc
  | true =>
    intro n
    induction n with
    | zero =>
      intro hn c hc
      rw [flP I hfr hgo 0 hn c hc]
      show (_ || lb 0 c) = _
      rw [lb_0, Bool.or_false]
      rfl
    | succ n ih =>
      intro hn c hc
      have iq := ih (fun j hj => hn j (by omega))
      have ip := flP (mp := true) I hfr hgo n (fun j hj => hn j (by omega))
      obtain ⟨hs, hs2⟩ := flI_SB (L := L) (mp := true) (fr := fr) hgo n
      have hB : wB L (lb (L 7)) go n fr = false := hn n (by omega)
      have hA : wA L (lb (L 7)) go n fr = false := by
        cases e : wA L (lb (L 7)) go n fr with
        | false => rfl
        | true =>
          have := wA_B _ _ e
          rw [hB] at this
          cases this
      have ic := iq c hc
      rw [flI_suc]
      show (lb ((flI L true (frOf L fr) (bOnly go &&& frOf L fr) n).1 ||| (nbsI L (flI L true (frOf L fr) (bOnly go &&& frOf L fr) n).1 false 4 &&& frOf L fr)) c || lb (((flI L true (frOf L fr) (bOnly go &&& frOf L fr) n).2 ||| (nbsI L (flI L true (frOf L fr) (bOnly go &&& frOf L fr) n).2 false 4 &&& frOf L fr)) ||| (nbsI L (flI L true (frOf L fr) (bOnly go &&& frOf L fr) n).1 true 4 &&& frOf L fr)) c) = (wB L (lb (L 7)) go (n + 1) c && (!lb (L 7) c || decide (c = fr)))
      rw [lb_or, lb_or, lb_or, lb_and, lb_and, lb_and, frOf_lb hfr hc, nbs_lb I hs hc, nbs_lb I hs2 hc, nbs_lb I hs hc, wB_suc]
      have key : (ex4 (fun e => nbOk c e && (lb (flI L true (frOf L fr) (bOnly go &&& frOf L fr) n).1 (nbOf c e) && (lb (wCells L e) c == false))) || (ex4 (fun e => nbOk c e && (lb (flI L true (frOf L fr) (bOnly go &&& frOf L fr) n).2 (nbOf c e) && (lb (wCells L e) c == false))) || ex4 (fun e => nbOk c e && (lb (flI L true (frOf L fr) (bOnly go &&& frOf L fr) n).1 (nbOf c e) && (lb (wCells L e) c == true))))) = ex4 (fun e => nbOk c e && (!lb (L 7) (nbOf c e) && (if lb (wCells L e) c then wA L (lb (L 7)) go n (nbOf c e) else wB L (lb (L 7)) go n (nbOf c e)))) := by
        have pt : ∀ e, e < 4 → (nbOk c e && (!lb (L 7) (nbOf c e) && (if lb (wCells L e) c then wA L (lb (L 7)) go n (nbOf c e) else wB L (lb (L 7)) go n (nbOf c e)))) = ((nbOk c e && (lb (flI L true (frOf L fr) (bOnly go &&& frOf L fr) n).1 (nbOf c e) && (lb (wCells L e) c == false))) || ((nbOk c e && (lb (flI L true (frOf L fr) (bOnly go &&& frOf L fr) n).2 (nbOf c e) && (lb (wCells L e) c == false))) || (nbOk c e && (lb (flI L true (frOf L fr) (bOnly go &&& frOf L fr) n).1 (nbOf c e) && (lb (wCells L e) c == true))))) := by
          intro e he
          cases ho : nbOk c e with
          | false => rfl
          | true =>
            have hn9 := nb_lt hc he ho
            have jp := ip _ hn9
            have jq : (lb (flI L true (frOf L fr) (bOnly go &&& frOf L fr) n).1 (nbOf c e) || lb (flI L true (frOf L fr) (bOnly go &&& frOf L fr) n).2 (nbOf c e)) = (wB L (lb (L 7)) go n (nbOf c e) && (!lb (L 7) (nbOf c e) || decide (nbOf c e = fr))) := iq _ hn9
            by_cases q : nbOf c e = fr
            · rw [q, hA] at jp
              rw [q, hB] at jq
              rw [q, hA, hB]
              rw [jp] at jq
              simp only [Bool.false_and, Bool.false_or] at jp jq
              rw [jp, jq]
              cases lb (wCells L e) c <;> simp
            · simp only [q, decide_false, Bool.or_false] at jp jq
              cases ew : lb (wCells L e) c with
              | false =>
                revert jq
                generalize lb (flI L true (frOf L fr) (bOnly go &&& frOf L fr) n).1 (nbOf c e) = a0
                generalize lb (flI L true (frOf L fr) (bOnly go &&& frOf L fr) n).2 (nbOf c e) = a1
                generalize lb (L 7) (nbOf c e) = a2
                generalize wB L (lb (L 7)) go n (nbOf c e) = a3
                intro jq
                cases a0 <;> cases a1 <;> cases a2 <;> cases a3 <;> first | rfl | cases jq | simp
              | true =>
                rw [jp]
                generalize lb (L 7) (nbOf c e) = a2
                generalize wA L (lb (L 7)) go n (nbOf c e) = a3
                cases a2 <;> cases a3 <;> simp
        rw [ex4_cong pt]
        exact (ex4_or3 _ _ _).symm
      rw [← key]
      have ic : (lb (flI L true (frOf L fr) (bOnly go &&& frOf L fr) n).1 c || lb (flI L true (frOf L fr) (bOnly go &&& frOf L fr) n).2 c) = (wB L (lb (L 7)) go n c && (!lb (L 7) c || decide (c = fr))) := ic
      rw [Bool.and_or_distrib_right, ← ic]
      generalize lb (flI L true (frOf L fr) (bOnly go &&& frOf L fr) n).1 c = z1
      generalize lb (flI L true (frOf L fr) (bOnly go &&& frOf L fr) n).2 c = z2
      generalize (!lb (L 7) c || decide (c = fr)) = z3
      generalize ex4 (fun e => nbOk c e && (lb (flI L true (frOf L fr) (bOnly go &&& frOf L fr) n).1 (nbOf c e) && (lb (wCells L e) c == false))) = y1
      generalize ex4 (fun e => nbOk c e && (lb (flI L true (frOf L fr) (bOnly go &&& frOf L fr) n).2 (nbOf c e) && (lb (wCells L e) c == false))) = y2
      generalize ex4 (fun e => nbOk c e && (lb (flI L true (frOf L fr) (bOnly go &&& frOf L fr) n).1 (nbOf c e) && (lb (wCells L e) c == true))) = y3
      cases z1 <;> cases z2 <;> cases z3 <;> cases y1 <;> cases y2 <;> cases y3 <;> rfl
/-- when the own cell is hit -/
theorem fhB_eq (I : InvW L) (hfr : fr < 63) (hgo : go < 63) {k : Nat} (hn : ∀ j, j < k + 1 → wF L (lb (L 7)) go mp j fr = false) : fhB L fr go mp k = wF L (lb (L 7)) go mp (k + 1) fr := by
  have h := flQ (mp := mp) I hfr hgo (k + 1) hn fr hfr
  simp only [decide_true, Bool.or_true, Bool.and_true] at h
  rw [← lb_or] at h
  unfold fhB
  have hc : (((flI L mp (frOf L fr) (bOnly go &&& frOf L fr) (k + 1)).1 ||| (flI L mp (frOf L fr) (bOnly go &&& frOf L fr) (k + 1)).2) &&& bOnly fr ≠ 0) ↔ lb ((flI L mp (frOf L fr) (bOnly go &&& frOf L fr) (k + 1)).1 ||| (flI L mp (frOf L fr) (bOnly go &&& frOf L fr) (k + 1)).2) fr = true := by
    rw [Int64.and_comm, and_only hfr]
    cases lb ((flI L mp (frOf L fr) (bOnly go &&& frOf L fr) (k + 1)).1 ||| (flI L mp (frOf L fr) (bOnly go &&& frOf L fr) (k + 1)).2) fr with
    | true => simp [only_ne hfr]
    | false => simp
  rw [← h]
  cases e9 : lb ((flI L mp (frOf L fr) (bOnly go &&& frOf L fr) (k + 1)).1 ||| (flI L mp (frOf L fr) (bOnly go &&& frOf L fr) (k + 1)).2) fr with
  | true => exact decide_eq_true (hc.mpr e9)
  | false =>
    refine decide_eq_false (fun z => ?_)
    rw [hc.mp z] at e9
    cases e9
theorem hit_at (I : InvW L) (hfr : fr < 63) (hgo : go < 63) (hne : fr ≠ go) : ∀ k, (∀ j, j < k → fhB L fr go mp j = false) → ∀ j, j < k + 1 → wF L (lb (L 7)) go mp j fr = false
  | 0, _, j, hj => by
    obtain rfl : j = 0 := by omega
    cases mp <;> exact decide_eq_false hne
  | k + 1, h, j, hj => by
    have ih := hit_at I hfr hgo hne k (fun j hj => h j (by omega))
    by_cases e : j < k + 1
    · exact ih j e
    · obtain rfl : j = k + 1 := by omega
      rw [← fhB_eq I hfr hgo ih]
      exact h k (by omega)
theorem fnd_none {p : Nat → Bool} : ∀ {n : Nat}, fndB p n = none → ∀ j, j < n → p j = false
  | 0, _, j, hj => absurd hj (Nat.not_lt_zero _)
  | n + 1, h, j, hj => by
    unfold fndB at h
    split at h
    · cases h
    · next h9 =>
      by_cases e : j < n
      · exact fnd_none h9 j e
      · obtain rfl : j = n := by omega
        split at h
        · cases h
        · next h8 => simpa using h8
theorem stpF_D (I : InvW L) (hfr : fr < 63) (hgo : go < 63) : IsD (fun n => wF L (lb (L 7)) go mp n fr) (stpF L fr go mp) := by
  unfold stpF
  by_cases e : fr = go
  · rw [if_pos e]
    refine Or.inl ⟨0, by omega, rfl, ?_, fun u hu => by omega⟩
    cases mp <;> exact decide_eq_true e
  · rw [if_neg e]
    cases e2 : fndB (fhB L fr go mp) 62 with
    | none =>
      have h := hit_at (mp := mp) I hfr hgo e 62 (fnd_none e2)
      exact Or.inr ⟨rfl, wF_none hfr (fun u hu => h u (by omega))⟩
    | some k =>
      obtain ⟨h1, h2, h3⟩ := fndB_spec e2
      have h := hit_at (mp := mp) I hfr hgo e k h3
      refine Or.inl ⟨k + 1, by omega, rfl, ?_, h⟩
      show wF L (lb (L 7)) go mp (k + 1) fr = true
      rw [← fhB_eq I hfr hgo h]
      exact h2
end FLD
