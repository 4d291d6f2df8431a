/-! the law's own house: next -/
theorem mp_I {G : Nat → Nat → Nat} {k : Nat} (h : G k 3 ≤ 1) : nI (G k 3) = b01 (mpG G k) := by
  unfold mpG
  rcases (show G k 3 = 0 ∨ G k 3 = 1 by omega) with e | e
  · rw [e]; rfl
  · rw [e]; rfl
theorem wI_k {R : Nat → Bool} {x : Int32} {k : Nat} (h : IsD R x) (hk : k < 62) : (1 : Int32) + wI x = nI (k + 1) ↔ x = nI k := by
  rcases h with ⟨v, hv, rfl, -, -⟩ | ⟨rfl, -⟩
  · rw [wI_n (by omega), show (1 : Int32) + nI v = nI (v + 1) by rw [Int32.add_comm]; exact nI_1 v, nI_eq (by omega) (by omega), nI_eq (by omega) (by omega)]
    omega
  · constructor
    · intro e
      have e : nI 1001 = nI (k + 1) := e
      have := (nI_eq (by omega) (by omega)).mp e
      omega
    · intro e
      exact absurd e.symm (nI_m1 (by omega))
/-- the best direction behind t of them, from the last on -/
def bst (p0 p1 : Nat → Bool) : Nat → Option Nat
  | 0 => none
  | t + 1 => if p0 (3 - t) then some (3 - t) else if p1 (3 - t) then (match bst p0 p1 t with
    | none => some (3 - t)
    | some b => if p1 b then some (3 - t) else some b) else bst p0 p1 t
theorem bst_in {p0 p1 : Nat → Bool} : ∀ {t b : Nat}, bst p0 p1 t = some b → t ≤ 4 → b < 4 ∧ (p0 b = true ∨ p1 b = true)
  | 0, b, h, _ => by cases h
  | t + 1, b, h, ht => by
    unfold bst at h
    split at h
    · next e => cases h; exact ⟨by omega, Or.inl e⟩
    · split at h
      · next e =>
        split at h
        · cases h; exact ⟨by omega, Or.inr e⟩
        · next b' hb =>
          split at h
          · cases h; exact ⟨by omega, Or.inr e⟩
          · cases h; exact bst_in hb (by omega)
      · exact bst_in h (by omega)
theorem bst_4 {p0 p1 : Nat → Bool} (hx : ∀ d, d < 4 → p0 d = true → p1 d = false) : bst p0 p1 4 = match fst4 p0 with
    | some i => some i
    | none => fst4 p1 := by
  have h0 := hx 0 (by omega)
  have h1 := hx 1 (by omega)
  have h2 := hx 2 (by omega)
  have h3 := hx 3 (by omega)
  simp only [bst, fst4]
  cases a0 : p0 0 <;> cases a1 : p0 1 <;> cases a2 : p0 2 <;> cases a3 : p0 3 <;> cases b0 : p1 0 <;> cases b1 : p1 1 <;> cases b2 : p1 2 <;> cases b3 : p1 3 <;> simp_all
def dJ (t : Nat) : Int32 := if t = 4 then -1 else nI (3 - t)
theorem dJ_s : ∀ t : Fin 4, nI (3 - t.val) + (-1) = dJ (t.val + 1) := by decide +kernel
theorem dJ_n : ∀ t : Fin 4, ¬ dJ t.val < 0 := by decide +kernel
theorem nP_0 {L : Nat → Int64} {lt : Nat → Bool} {go fr k dn : Nat} {mp : Bool} (h : nP L lt go mp fr k 0 dn = true) : wl L fr dn = false := by
  unfold nP at h
  cases e : wl L fr dn with
  | false => rfl
  | true =>
    have e : lb (wCells L dn) fr = true := e
    rw [e] at h
    simp at h
theorem nP_1 {L : Nat → Int64} {lt : Nat → Bool} {go fr k dn : Nat} {mp : Bool} (h : nP L lt go mp fr k 1 dn = true) : wl L fr dn = true := by
  unfold nP at h
  cases e : wl L fr dn with
  | true => rfl
  | false =>
    have e : lb (wCells L dn) fr = false := e
    rw [e] at h
    simp at h
theorem sFr.n67 {m : Nat → Nat} {n : Nat} {h h' : gH} (hn : 8 ≤ n) (F : ∀ p, p ≠ m 6 → p ≠ m 7 → h' p = h p) : sFr m n h h' := fun p hp _ => F p (fun z => hp (by rw [z]; exact sD_i (by omega))) (fun z => hp (by rw [z]; exact sD_i (by omega)))
set_option maxHeartbeats 1000000 in
set_option maxRecDepth 10000 in
theorem c_nextS (d : Nat) {m : Nat → Nat} {S : CS} {k : Nat} (hk : k < S.2.2.2.1) (ok : CSok S) (V : InvL S.1 S.2.1) {h : gH} (M : SimAt h m S) {mc ms : Nat} {Post : Option Value → gH → Prop} {X : String → gH → Prop} (hmc : 10 ≤ mc) (hms : 72 ≤ ms) (hp : ∀ h', SimAt h' m S → sFr m (8 + S.2.2.2.1) h h' → Post (some (.int (oI (nxtF S.1 (S.2.2.1 k 0) (S.2.2.1 k 2) (mpG S.2.2.1 k))))) h') : gSafe (d + 4) mX7_next [.ref (m 0), .ref (m (8 + k))] h mc ms Post X := by
  obtain ⟨ok6, hG⟩ := ok
  obtain ⟨g0, -, g2, g3⟩ := hG k (by omega)
  refine ⟨Nat.le_of_ble_eq_true rfl, fun K hK => ?_⟩
  show K 0 [some (.ref (m 0)), some (.ref (m (8 + k))), none, none, none, none, none, none, none] [] _ _ _
  have C0 := M.c0
  refine s_aload_n hK dX7_next_0 rfl ?_
  refine s_V0 hK (mc := 10) (ms := 72) dX7_next_1 kV_X7_64 (by first | assumption | exact H.1 | exact H.2.1) (by rfl) (by omega) (by omega) ?_
  refine c_litS _ M V.1 (T_D V.2.1) (by omega) (by omega) (fun q h1 Z1 hq F1 => ?_)
  rw [← V.2.2] at Z1
  have O := oB_out M hq
  have M1 := M.nw F1
  generalize mc - 10 = bc
  generalize ms - 72 = bs
  have C1 := M1.c0
  have G1 := M1.c8 hk
  have fx : nI (S.2.2.1 k 3) = b01 (mpG S.2.2.1 k) := mp_I g3
  refine s_astore_n hK dX7_next_4 rfl ?_
  refine s_aload_n hK dX7_next_5 rfl ?_
  refine s_aload_n hK dX7_next_6 rfl ?_
  refine s_aload_n hK dX7_next_7 rfl ?_
  refine s_getfield hK dX7_next_8 kF_X7_68 (by first | assumption | exact H.1 | exact H.2.1) (by rfl) ?_
  refine s_aload_n hK dX7_next_11 rfl ?_
  refine s_getfield hK dX7_next_12 kF_X7_71 (by first | assumption | exact H.1 | exact H.2.1) (by rfl) ?_
  refine s_aload_n hK dX7_next_15 rfl ?_
  refine s_getfield hK dX7_next_16 kF_X7_74 (by first | assumption | exact H.1 | exact H.2.1) (by rfl) ?_
  refine s_aload_n hK dX7_next_19 rfl ?_
  refine s_getfield hK dX7_next_20 kF_X7_78 (by first | assumption | exact H.1 | exact H.2.1) (by rfl) ?_
  refine s_aload_n hK dX7_next_23 rfl ?_
  refine s_getfield hK dX7_next_24 kF_X7_81 (by first | assumption | exact H.1 | exact H.2.1) (by rfl) ?_
  rw [fx]
  refine s_V60 hK dX7_next_27 kV_X7_84 (by first | assumption | exact H.1 | exact H.2.1) (by rfl) ?_
  refine c_way7 _ g0 g2 M1 Z1 O (fun v h2 hD M2 F2 => ?_)
  have ev : v = stpF S.1 (S.2.2.1 k 0) (S.2.2.1 k 2) (mpG S.2.2.1 k) := hD.uniq (stpF_D V.1 g0 g2)
  have fin : ∀ {h3 : gH}, SimAt h3 m S → (∀ p, p ≠ m 6 → p ≠ m 7 → h3 p = h1 p) → Post (some (.int (oI (nxtF S.1 (S.2.2.1 k 0) (S.2.2.1 k 2) (mpG S.2.2.1 k))))) h3 := fun M3 F3 => hp _ M3 ((sFr.nw F1).tr (sFr.n67 (by omega) F3))
  rcases stp_cases (mp := mpG S.2.2.1 k) V.1 g0 g2 with ⟨e1, e2⟩ | ⟨e1, e2⟩ | ⟨kk, hkk, e1, hn, e2⟩
  · rw [ev, e1]
    rw [e2] at fin
    refine s_istore_n hK dX7_next_30 rfl ?_
    refine s_iload_n hK dX7_next_31 rfl ?_
    refine s_ifeq hK dX7_next_32 42 (by decide) (fun c_32 => ?_) (fun c_32 => ?_)
    · refine s_iconst hK (v := (-1)) dX7_next_42 (by decide) ?_
      refine s_ireturn hK dX7_next_43 rfl (by first | rfl | exact b01_nar _) ?_
      exact fin M2 F2
    · exact absurd rfl c_32
  · rw [ev, e1]
    rw [e2] at fin
    refine s_istore_n hK dX7_next_30 rfl ?_
    refine s_iload_n hK dX7_next_31 rfl ?_
    refine s_ifeq hK dX7_next_32 42 (by decide) (fun c_32 => ?_) (fun c_32 => ?_)
    · exact absurd c_32 (by decide)
    · refine s_iload_n hK dX7_next_35 rfl ?_
      refine s_sipush hK (v := 1000) dX7_next_36 (by decide) ?_
      refine s_icmpne hK dX7_next_39 44 (by decide) (fun c_39 => ?_) (fun c_39 => ?_)
      · exact absurd rfl c_39
      · refine s_iconst hK (v := (-1)) dX7_next_42 (by decide) ?_
        refine s_ireturn hK dX7_next_43 rfl (by first | rfl | exact b01_nar _) ?_
        exact fin M2 F2
  · rw [ev, e1, wI_n (by omega)]
    have ebst : oI (nxtF S.1 (S.2.2.1 k 0) (S.2.2.1 k 2) (mpG S.2.2.1 k)) = oI (bst (nP S.1 (lb (S.1 7)) (S.2.2.1 k 2) (mpG S.2.2.1 k) (S.2.2.1 k 0) kk 0) (nP S.1 (lb (S.1 7)) (S.2.2.1 k 2) (mpG S.2.2.1 k) (S.2.2.1 k 0) kk 1) 4) := by
      have hx : ∀ dn, dn < 4 → (nP S.1 (lb (S.1 7)) (S.2.2.1 k 2) (mpG S.2.2.1 k) (S.2.2.1 k 0) kk 0) dn = true → (nP S.1 (lb (S.1 7)) (S.2.2.1 k 2) (mpG S.2.2.1 k) (S.2.2.1 k 0) kk 1) dn = false := fun dn hd z => bool_f (fun z1 => by
        have := nP_1 z1
        rw [nP_0 z] at this
        cases this)
      rw [e2, bst_4 hx]
      cases fst4 (nP S.1 (lb (S.1 7)) (S.2.2.1 k 2) (mpG S.2.2.1 k) (S.2.2.1 k 0) kk 0) <;> rfl
    rw [ebst] at fin
    clear ebst e2
    refine s_istore_n hK dX7_next_30 rfl ?_
    refine s_iload_n hK dX7_next_31 rfl ?_
    refine s_ifeq hK dX7_next_32 42 (by decide) (fun c_32 => ?_) (fun c_32 => ?_)
    · exact absurd c_32 (nI_ne0 (by omega) (by omega))
    · refine s_iload_n hK dX7_next_35 rfl ?_
      refine s_sipush hK (v := 1000) dX7_next_36 (by decide) ?_
      refine s_icmpne hK dX7_next_39 44 (by decide) (fun c_39 => ?_) (fun c_39 => ?_)
      · refine s_iconst hK (v := (-1)) dX7_next_44 (by decide) ?_
        refine s_istore hK dX7_next_45 rfl ?_
        refine s_iconst hK (v := 3) dX7_next_47 (by decide) ?_
        refine s_istore hK dX7_next_48 rfl ?_
        have loop : ∀ j t, t + j = 4 → ∀ (h3 : gH) w6 w7 w8, SimAt h3 m S → (∀ p, p ≠ m 6 → p ≠ m 7 → h3 p = h1 p) → K 50 [some (.ref (m 0)), some (.ref (m (8 + k))), some (.ref q), some (.int (nI (kk + 1))), some (.int (oI (bst (nP S.1 (lb (S.1 7)) (S.2.2.1 k 2) (mpG S.2.2.1 k) (S.2.2.1 k 0) kk 0) (nP S.1 (lb (S.1 7)) (S.2.2.1 k 2) (mpG S.2.2.1 k) (S.2.2.1 k 0) kk 1) t))), some (.int (dJ t)), w6, w7, w8] [] h3 bc bs := by
          intro j
          induction j with
          | zero =>
            intro t ht h3 w6 w7 w8 M3 F3
            obtain rfl : t = 4 := by omega
            refine s_iload hK dX7_next_50 rfl ?_
            refine s_iflt hK dX7_next_52 216 (by decide) (fun c_52 => ?_) (fun c_52 => ?_)
            · refine s_iload hK dX7_next_216 rfl ?_
              refine s_ireturn hK dX7_next_218 rfl (by first | rfl | exact b01_nar _) ?_
              exact fin M3 F3
            · exact absurd (by decide) c_52
          | succ j ih =>
            intro t ht h3 w6 w7 w8 M3 F3
            have h4 : t < 4 := by omega
            have ed : dJ t = nI (3 - t) := if_neg (by omega)
            have es := dJ_s ⟨t, h4⟩
            have es : nI (3 - t) + (-1) = dJ (t + 1) := es
            have C0 := M3.c0
            have G0 := M3.c8 hk
            have fx : S.2.2.1 k 3 ≤ 1 := g3
            have hd : 3 - t < 4 := by omega
            generalize hdn : 3 - t = dn at *
            have next : ∀ (h3 : gH) (b : Option Nat) w6 w7 w8, b = bst (nP S.1 (lb (S.1 7)) (S.2.2.1 k 2) (mpG S.2.2.1 k) (S.2.2.1 k 0) kk 0) (nP S.1 (lb (S.1 7)) (S.2.2.1 k 2) (mpG S.2.2.1 k) (S.2.2.1 k 0) kk 1) (t + 1) → SimAt h3 m S → (∀ p, p ≠ m 6 → p ≠ m 7 → h3 p = h1 p) → K 210 [some (.ref (m 0)), some (.ref (m (8 + k))), some (.ref q), some (.int (nI (kk + 1))), some (.int (oI b)), some (.int (nI dn)), w6, w7, w8] [] h3 bc bs := by
              intro h3 b w6 w7 w8 eb M3 F3
              subst eb
              refine s_iinck hK (v := (-1)) dX7_next_210 rfl (by decide) rfl ?_
              refine s_goto hK dX7_next_213 50 (by decide) ?_
              rw [es]
              exact ih (t + 1) (by omega) h3 _ _ _ M3 F3
            have skip : (nP S.1 (lb (S.1 7)) (S.2.2.1 k 2) (mpG S.2.2.1 k) (S.2.2.1 k 0) kk 0) dn = false → (nP S.1 (lb (S.1 7)) (S.2.2.1 k 2) (mpG S.2.2.1 k) (S.2.2.1 k 0) kk 1) dn = false → ∀ (h3 : gH) w6 w7 w8, SimAt h3 m S → (∀ p, p ≠ m 6 → p ≠ m 7 → h3 p = h1 p) → K 210 [some (.ref (m 0)), some (.ref (m (8 + k))), some (.ref q), some (.int (nI (kk + 1))), some (.int (oI (bst (nP S.1 (lb (S.1 7)) (S.2.2.1 k 2) (mpG S.2.2.1 k) (S.2.2.1 k 0) kk 0) (nP S.1 (lb (S.1 7)) (S.2.2.1 k 2) (mpG S.2.2.1 k) (S.2.2.1 k 0) kk 1) t))), some (.int (nI dn)), w6, w7, w8] [] h3 bc bs := by
              intro z0 z1 h3 w6 w7 w8 M3 F3
              refine next h3 _ _ _ _ ?_ M3 F3
              show _ = if (nP S.1 (lb (S.1 7)) (S.2.2.1 k 2) (mpG S.2.2.1 k) (S.2.2.1 k 0) kk 0) (3 - t) then _ else if (nP S.1 (lb (S.1 7)) (S.2.2.1 k 2) (mpG S.2.2.1 k) (S.2.2.1 k 0) kk 1) (3 - t) then _ else _
              rw [hdn, z0, z1]
              rfl
            rw [ed]
            refine s_iload hK dX7_next_50 rfl ?_
            refine s_iflt hK dX7_next_52 216 (by decide) (fun c_52 => ?_) (fun c_52 => ?_)
            · exact absurd c_52 (nI_pos (by omega))
            · refine s_aload_n hK dX7_next_55 rfl ?_
              refine s_getfield hK dX7_next_56 kF_X7_68 (by first | assumption | exact H.1 | exact H.2.1) (by rfl) ?_
              refine s_iload hK dX7_next_59 rfl ?_
              refine s_S10 hK dX7_next_61 kS_X7_49 (by rfl) ?_
              refine c_goX _ hd ?_
              refine s_iadd hK dX7_next_64 ?_
              refine s_istore hK dX7_next_65 rfl ?_
              refine s_aload_n hK dX7_next_67 rfl ?_
              refine s_getfield hK dX7_next_68 kF_X7_71 (by first | assumption | exact H.1 | exact H.2.1) (by rfl) ?_
              refine s_iload hK dX7_next_71 rfl ?_
              refine s_S10 hK dX7_next_73 kS_X7_53 (by rfl) ?_
              refine c_goY _ hd ?_
              refine s_iadd hK dX7_next_76 ?_
              refine s_istore hK dX7_next_77 rfl ?_
              refine s_iload hK dX7_next_79 rfl ?_
              refine s_iload hK dX7_next_81 rfl ?_
              refine s_S20 hK dX7_next_83 kS_X7_56 (by rfl) ?_
              refine c_isInS _ ?_
              rw [nbok g0 hd]
              cases eo : nbOk (S.2.2.1 k 0) dn with
              | false =>
                refine s_ifeq hK dX7_next_86 210 (by decide) (fun c_86 => ?_) (fun c_86 => ?_)
                · exact skip (by unfold nP; rw [eo]; rfl) (by unfold nP; rw [eo]; rfl) h3 _ _ _ M3 F3
                · exact absurd rfl c_86
              | true =>
                have h9 := nb_lt g0 hd eo
                obtain ⟨gx, gy⟩ := nbxy g0 hd eo
                rw [gx, gy]
                generalize hc' : nbOf (S.2.2.1 k 0) dn = c' at *
                have cx' : c' % 9 < 9 := Nat.mod_lt _ (by omega)
                have cy' : c' / 9 < 7 := by omega
                have ec' : 9 * (c' / 9) + c' % 9 = c' := by omega
                have Z3 : Z2 h3 q (lb (S.1 7)) := Z1.keep (fun p p1 p2 => F3 p (fun z => O p ⟨p1, p2⟩ (by rw [z]; exact sD_i (by omega))) (fun z => O p ⟨p1, p2⟩ (by rw [z]; exact sD_i (by omega))))
                obtain ⟨f4, y1, y2⟩ := Z3.2 _ cx'
                have y3 := y2 _ cy'
                rw [ec'] at y3
                refine s_ifeq hK dX7_next_86 210 (by decide) (fun c_86 => ?_) (fun c_86 => ?_)
                · exact absurd c_86 (by decide)
                · refine s_aload_n hK dX7_next_89 rfl ?_
                  refine s_iload hK dX7_next_90 rfl ?_
                  refine s_aaload hK dX7_next_92 Z3.1 rfl cx' (by omega) (if_pos cx') ?_
                  refine s_iload hK dX7_next_93 rfl ?_
                  refine s_baloadN hK dX7_next_95 y1 cy' (by omega) ?_
                  rw [y3]
                  cases el : lb (S.1 7) c' with
                  | true =>
                    refine s_ifeq hK dX7_next_96 102 (by decide) (fun c_96 => ?_) (fun c_96 => ?_)
                    · exact absurd c_96 (by decide)
                    · refine s_goto hK dX7_next_99 210 (by decide) ?_
                      exact skip (by unfold nP; rw [eo, hc', el]; rfl) (by unfold nP; rw [eo, hc', el]; rfl) h3 _ _ _ M3 F3
                  | false =>
                    refine s_ifeq hK dX7_next_96 102 (by decide) (fun c_96 => ?_) (fun c_96 => ?_)
                    · have W := M3.c1
                      have cx : S.2.2.1 k 0 % 9 < 9 := Nat.mod_lt _ (by omega)
                      have cy : S.2.2.1 k 0 / 9 < 7 := by omega
                      have ec : 9 * (S.2.2.1 k 0 / 9) + S.2.2.1 k 0 % 9 = S.2.2.1 k 0 := by omega
                      have W2 := (W.2 _ cx).1
                      obtain ⟨f1, x1, x2⟩ := (W.2 _ cx).2 _ cy
                      have x3 := x2 dn hd
                      rw [ec] at x3
                      refine s_aload_n hK dX7_next_102 rfl ?_
                      refine s_getfield hK dX7_next_103 kF_X7_9 (by first | assumption | exact H.1 | exact H.2.1) (by rfl) ?_
                      refine s_aload_n hK dX7_next_106 rfl ?_
                      refine s_getfield hK dX7_next_107 kF_X7_68 (by first | assumption | exact H.1 | exact H.2.1) (by rfl) ?_
                      refine s_aaload hK dX7_next_110 W.1 rfl cx (by omega) (if_pos cx) ?_
                      refine s_aload_n hK dX7_next_111 rfl ?_
                      refine s_getfield hK dX7_next_112 kF_X7_71 (by first | assumption | exact H.1 | exact H.2.1) (by rfl) ?_
                      refine s_aaload hK dX7_next_115 W2 rfl cy (by omega) (if_pos cy) ?_
                      refine s_iload hK dX7_next_116 rfl ?_
                      refine s_baloadN hK dX7_next_118 x1 hd (by omega) ?_
                      rw [x3]
                      refine s_istore hK dX7_next_119 rfl ?_
                      refine s_iload hK dX7_next_121 rfl ?_
                      have ask : (wl S.1 (S.2.2.1 k 0) dn = true → mpG S.2.2.1 k = true) → K 133 [some (.ref (m 0)), some (.ref (m (8 + k))), some (.ref q), some (.int (nI (kk + 1))), some (.int (oI (bst (nP S.1 (lb (S.1 7)) (S.2.2.1 k 2) (mpG S.2.2.1 k) (S.2.2.1 k 0) kk 0) (nP S.1 (lb (S.1 7)) (S.2.2.1 k 2) (mpG S.2.2.1 k) (S.2.2.1 k 0) kk 1) t))), some (.int (nI dn)), some (.int (nI (c' % 9))), some (.int (nI (c' / 9))), some (.int (b01 (wl S.1 (S.2.2.1 k 0) dn)))] [] h3 bc bs := by
                        intro hmay
                        have at157 : ∀ v, v = b01 (mpG S.2.2.1 k && !wl S.1 (S.2.2.1 k 0) dn) → K 157 [some (.ref (m 0)), some (.ref (m (8 + k))), some (.ref q), some (.int (nI (kk + 1))), some (.int (oI (bst (nP S.1 (lb (S.1 7)) (S.2.2.1 k 2) (mpG S.2.2.1 k) (S.2.2.1 k 0) kk 0) (nP S.1 (lb (S.1 7)) (S.2.2.1 k 2) (mpG S.2.2.1 k) (S.2.2.1 k 0) kk 1) t))), some (.int (nI dn)), some (.int (nI (c' % 9))), some (.int (nI (c' / 9))), some (.int (b01 (wl S.1 (S.2.2.1 k 0) dn)))] [.int v, .int (nI (c' / 9)), .int (nI (c' % 9)), .ref q, .ref (m 0), .int 1] h3 bc bs := by
                          intro v hv
                          subst hv
                          refine s_aload_n hK dX7_next_157 rfl ?_
                          refine s_getfield hK dX7_next_158 kF_X7_78 (by first | assumption | exact H.1 | exact H.2.1) (by rfl) ?_
                          refine s_aload_n hK dX7_next_161 rfl ?_
                          refine s_getfield hK dX7_next_162 kF_X7_81 (by first | assumption | exact H.1 | exact H.2.1) (by rfl) ?_
                          refine s_V60 hK dX7_next_165 kV_X7_84 (by first | assumption | exact H.1 | exact H.2.1) (by rfl) ?_
                          refine c_way7 _ h9 g2 M3 Z3 O (fun v h4 hD4 M4 F4 => ?_)
                          have F5 : ∀ p, p ≠ m 6 → p ≠ m 7 → h4 p = h1 p := fun p p6 p7 => (F4 p p6 p7).trans (F3 p p6 p7)
                          have hit : (1 : Int32) + wI v = nI (kk + 1) ↔ (if wl S.1 (S.2.2.1 k 0) dn then (nP S.1 (lb (S.1 7)) (S.2.2.1 k 2) (mpG S.2.2.1 k) (S.2.2.1 k 0) kk 1) dn else (nP S.1 (lb (S.1 7)) (S.2.2.1 k 2) (mpG S.2.2.1 k) (S.2.2.1 k 0) kk 0) dn) = true := by
                            rw [wI_k hD4 hkk]
                            cases ew : wl S.1 (S.2.2.1 k 0) dn with
                            | true =>
                              have ew2 : lb (wCells S.1 dn) (S.2.2.1 k 0) = true := ew
                              have mt := hmay ew
                              rw [ew, Bool.not_true, Bool.and_false] at hD4
                              exact nP_ask (w := 1) (mp := mpG S.2.2.1 k) V.1 (by omega) hd g0 hkk hn eo (by rw [hc']; exact el) (by rw [ew2]; rfl) (by rw [mt]; rfl) (by rw [hc']; exact hD4)
                            | false =>
                              have ew2 : lb (wCells S.1 dn) (S.2.2.1 k 0) = false := ew
                              rw [ew, Bool.not_false, Bool.and_true] at hD4
                              exact nP_ask (w := 0) (mp := mpG S.2.2.1 k) V.1 (by omega) hd g0 hkk hn eo (by rw [hc']; exact el) (by rw [ew2]; rfl) rfl (by rw [hc']; exact hD4)
                          have C4 := M4.c0
                          have G4 := M4.c8 hk
                          have o1 : wl S.1 (S.2.2.1 k 0) dn = true → (nP S.1 (lb (S.1 7)) (S.2.2.1 k 2) (mpG S.2.2.1 k) (S.2.2.1 k 0) kk 0) dn = false := fun z => bool_f (fun z0 => by rw [nP_0 z0] at z; cases z)
                          have o0 : wl S.1 (S.2.2.1 k 0) dn = false → (nP S.1 (lb (S.1 7)) (S.2.2.1 k 2) (mpG S.2.2.1 k) (S.2.2.1 k 0) kk 1) dn = false := fun z => bool_f (fun z1 => by rw [nP_1 z1] at z; cases z)
                          refine s_iadd hK dX7_next_168 ?_
                          refine s_iload_n hK dX7_next_169 rfl ?_
                          refine s_icmpeq hK dX7_next_170 176 (by decide) (fun c_170 => ?_) (fun c_170 => ?_)
                          · have hh := hit.mp c_170
                            have take : ∀ w4 w8, bst (nP S.1 (lb (S.1 7)) (S.2.2.1 k 2) (mpG S.2.2.1 k) (S.2.2.1 k 0) kk 0) (nP S.1 (lb (S.1 7)) (S.2.2.1 k 2) (mpG S.2.2.1 k) (S.2.2.1 k 0) kk 1) (t + 1) = some dn → K 206 [some (.ref (m 0)), some (.ref (m (8 + k))), some (.ref q), some (.int (nI (kk + 1))), w4, some (.int (nI dn)), some (.int (nI (c' % 9))), some (.int (nI (c' / 9))), w8] [] h4 bc bs := by
                              intro w4 w8 eb
                              refine s_iload hK dX7_next_206 rfl ?_
                              refine s_istore hK dX7_next_208 rfl ?_
                              exact next h4 (some dn) _ _ _ eb.symm M4 F5
                            refine s_iload hK dX7_next_176 rfl ?_
                            cases eb : bst (nP S.1 (lb (S.1 7)) (S.2.2.1 k 2) (mpG S.2.2.1 k) (S.2.2.1 k 0) kk 0) (nP S.1 (lb (S.1 7)) (S.2.2.1 k 2) (mpG S.2.2.1 k) (S.2.2.1 k 0) kk 1) t with
                            | none =>
                              refine s_iflt hK dX7_next_178 206 (by decide) (fun c_178 => ?_) (fun c_178 => ?_)
                              · refine take _ _ ?_
                                show (if (nP S.1 (lb (S.1 7)) (S.2.2.1 k 2) (mpG S.2.2.1 k) (S.2.2.1 k 0) kk 0) (3 - t) then _ else if (nP S.1 (lb (S.1 7)) (S.2.2.1 k 2) (mpG S.2.2.1 k) (S.2.2.1 k 0) kk 1) (3 - t) then _ else _) = _
                                rw [hdn, eb]
                                cases ew : wl S.1 (S.2.2.1 k 0) dn with
                                | true => rw [ew, if_pos rfl] at hh; rw [o1 ew, hh]; rfl
                                | false => rw [ew, if_neg (by decide)] at hh; rw [hh]; rfl
                              · exact absurd (by decide) c_178
                            | some b =>
                              obtain ⟨hb4, hb⟩ := bst_in eb (by omega)
                              refine s_iflt hK dX7_next_178 206 (by decide) (fun c_178 => ?_) (fun c_178 => ?_)
                              · exact absurd c_178 (nI_pos (by omega))
                              · refine s_iload hK dX7_next_181 rfl ?_
                                cases ew : wl S.1 (S.2.2.1 k 0) dn with
                                | false =>
                                  rw [ew, if_neg (by decide)] at hh
                                  refine s_ifeq hK dX7_next_183 206 (by decide) (fun c_183 => ?_) (fun c_183 => ?_)
                                  · refine take _ _ ?_
                                    show (if (nP S.1 (lb (S.1 7)) (S.2.2.1 k 2) (mpG S.2.2.1 k) (S.2.2.1 k 0) kk 0) (3 - t) then _ else if (nP S.1 (lb (S.1 7)) (S.2.2.1 k 2) (mpG S.2.2.1 k) (S.2.2.1 k 0) kk 1) (3 - t) then _ else _) = _
                                    rw [hdn, hh]
                                    rfl
                                  · exact absurd rfl c_183
                                | true =>
                                  rw [ew, if_pos rfl] at hh
                                  have W4 := M4.c1
                                  have W42 := (W4.2 _ cx).1
                                  obtain ⟨f5, z1, z2⟩ := (W4.2 _ cx).2 _ cy
                                  have z3 := z2 b hb4
                                  rw [ec] at z3
                                  refine s_ifeq hK dX7_next_183 206 (by decide) (fun c_183 => ?_) (fun c_183 => ?_)
                                  · exact absurd c_183 (by decide)
                                  · refine s_aload_n hK dX7_next_186 rfl ?_
                                    refine s_getfield hK dX7_next_187 kF_X7_9 (by first | assumption | exact H.1 | exact H.2.1) (by rfl) ?_
                                    refine s_aload_n hK dX7_next_190 rfl ?_
                                    refine s_getfield hK dX7_next_191 kF_X7_68 (by first | assumption | exact H.1 | exact H.2.1) (by rfl) ?_
                                    refine s_aaload hK dX7_next_194 W4.1 rfl cx (by omega) (if_pos cx) ?_
                                    refine s_aload_n hK dX7_next_195 rfl ?_
                                    refine s_getfield hK dX7_next_196 kF_X7_71 (by first | assumption | exact H.1 | exact H.2.1) (by rfl) ?_
                                    refine s_aaload hK dX7_next_199 W42 rfl cy (by omega) (if_pos cy) ?_
                                    refine s_iload hK dX7_next_200 rfl ?_
                                    refine s_baloadN (j := b) hK dX7_next_202 z1 hb4 (by omega) ?_
                                    rw [z3]
                                    cases ewb : wl S.1 (S.2.2.1 k 0) b with
                                    | false =>
                                      refine s_ifeq hK dX7_next_203 210 (by decide) (fun c_203 => ?_) (fun c_203 => ?_)
                                      · refine next h4 (some b) _ _ _ ?_ M4 F5
                                        show _ = (if (nP S.1 (lb (S.1 7)) (S.2.2.1 k 2) (mpG S.2.2.1 k) (S.2.2.1 k 0) kk 0) (3 - t) then _ else if (nP S.1 (lb (S.1 7)) (S.2.2.1 k 2) (mpG S.2.2.1 k) (S.2.2.1 k 0) kk 1) (3 - t) then _ else _)
                                        have hb1 : (nP S.1 (lb (S.1 7)) (S.2.2.1 k 2) (mpG S.2.2.1 k) (S.2.2.1 k 0) kk 1) b = false := bool_f (fun z => by rw [nP_1 z] at ewb; cases ewb)
                                        rw [hdn, o1 ew, hh, eb]
                                        show _ = if (nP S.1 (lb (S.1 7)) (S.2.2.1 k 2) (mpG S.2.2.1 k) (S.2.2.1 k 0) kk 1) b then some dn else some b
                                        rw [hb1]
                                        rfl
                                      · exact absurd rfl c_203
                                    | true =>
                                      have hb1 : (nP S.1 (lb (S.1 7)) (S.2.2.1 k 2) (mpG S.2.2.1 k) (S.2.2.1 k 0) kk 1) b = true := by
                                        rcases hb with z | z
                                        · rw [nP_0 z] at ewb; cases ewb
                                        · exact z
                                      refine s_ifeq hK dX7_next_203 210 (by decide) (fun c_203 => ?_) (fun c_203 => ?_)
                                      · exact absurd c_203 (by decide)
                                      · refine take _ _ ?_
                                        show (if (nP S.1 (lb (S.1 7)) (S.2.2.1 k 2) (mpG S.2.2.1 k) (S.2.2.1 k 0) kk 0) (3 - t) then _ else if (nP S.1 (lb (S.1 7)) (S.2.2.1 k 2) (mpG S.2.2.1 k) (S.2.2.1 k 0) kk 1) (3 - t) then _ else _) = _
                                        rw [hdn, o1 ew, hh, eb]
                                        show (if (nP S.1 (lb (S.1 7)) (S.2.2.1 k 2) (mpG S.2.2.1 k) (S.2.2.1 k 0) kk 1) b then some dn else some b) = _
                                        rw [hb1]
                                        rfl
                          · refine s_goto hK dX7_next_173 210 (by decide) ?_
                            have hh : (if wl S.1 (S.2.2.1 k 0) dn then (nP S.1 (lb (S.1 7)) (S.2.2.1 k 2) (mpG S.2.2.1 k) (S.2.2.1 k 0) kk 1) dn else (nP S.1 (lb (S.1 7)) (S.2.2.1 k 2) (mpG S.2.2.1 k) (S.2.2.1 k 0) kk 0) dn) = false := bool_f (fun z => c_170 (hit.mpr z))
                            cases ew : wl S.1 (S.2.2.1 k 0) dn with
                            | true => rw [ew, if_pos rfl] at hh; exact skip (o1 ew) hh h4 _ _ _ M4 F5
                            | false => rw [ew, if_neg (by decide)] at hh; exact skip hh (o0 ew) h4 _ _ _ M4 F5
                        refine s_iconst hK (v := 1) dX7_next_133 (by decide) ?_
                        refine s_aload_n hK dX7_next_134 rfl ?_
                        refine s_aload_n hK dX7_next_135 rfl ?_
                        refine s_iload hK dX7_next_136 rfl ?_
                        refine s_iload hK dX7_next_138 rfl ?_
                        refine s_aload_n hK dX7_next_140 rfl ?_
                        refine s_getfield hK dX7_next_141 kF_X7_74 (by first | assumption | exact H.1 | exact H.2.1) (by rfl) ?_
                        rw [mp_I g3]
                        refine s_ifeq hK dX7_next_144 156 (by decide) (fun c_144 => ?_) (fun c_144 => ?_)
                        · have em := (b01_0 _).mp c_144
                          refine s_iconst hK (v := 0) dX7_next_156 (by decide) ?_
                          exact at157 0 (by rw [em]; rfl)
                        · have em : mpG S.2.2.1 k = true := by
                            cases em : mpG S.2.2.1 k with
                            | true => rfl
                            | false => rw [em] at c_144; exact absurd rfl c_144
                          refine s_iload hK dX7_next_147 rfl ?_
                          refine s_ifne hK dX7_next_149 156 (by decide) (fun c_149 => ?_) (fun c_149 => ?_)
                          · have ew : wl S.1 (S.2.2.1 k 0) dn = true := by
                              cases ew : wl S.1 (S.2.2.1 k 0) dn with
                              | true => rfl
                              | false => rw [ew] at c_149; exact absurd rfl c_149
                            refine s_iconst hK (v := 0) dX7_next_156 (by decide) ?_
                            exact at157 0 (by rw [em, ew]; rfl)
                          · have ew := (b01_0 _).mp c_149
                            refine s_iconst hK (v := 1) dX7_next_152 (by decide) ?_
                            refine s_goto hK dX7_next_153 157 (by decide) ?_
                            exact at157 1 (by rw [em, ew]; rfl)
                      refine s_ifeq hK dX7_next_123 133 (by decide) (fun c_123 => ?_) (fun c_123 => ?_)
                      · have ew := (b01_0 _).mp c_123
                        exact ask (fun z => by rw [ew] at z; cases z)
                      · have ew : wl S.1 (S.2.2.1 k 0) dn = true := by
                          cases ew : wl S.1 (S.2.2.1 k 0) dn with
                          | true => rfl
                          | false => rw [ew] at c_123; exact absurd rfl c_123
                        refine s_aload_n hK dX7_next_126 rfl ?_
                        refine s_getfield hK dX7_next_127 kF_X7_74 (by first | assumption | exact H.1 | exact H.2.1) (by rfl) ?_
                        rw [mp_I g3]
                        refine s_ifeq hK dX7_next_130 210 (by decide) (fun c_130 => ?_) (fun c_130 => ?_)
                        · have em := (b01_0 _).mp c_130
                          refine skip (bool_f (fun z => by rw [nP_0 z] at ew; cases ew)) ?_ h3 _ _ _ M3 F3
                          unfold nP
                          rw [em]
                          simp
                        · exact ask (fun _ => by
                            cases em : mpG S.2.2.1 k with
                            | true => rfl
                            | false => rw [em] at c_130; exact absurd rfl c_130)
                    · exact absurd rfl c_96
        exact loop 4 0 (by omega) h2 none none none M2 F2
      · exact absurd ((nI_eq (b := 1000) (by omega) (by omega)).mp c_39) (by omega)
