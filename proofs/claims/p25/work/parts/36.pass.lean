/-! the law's own house: an hour -/
def hrL (S : CS) : Nat → Int64 := (hourL S.1 S.2.1 S.2.2.1 S.2.2.2.1).1
set_option maxHeartbeats 2000000 in
set_option maxRecDepth 10000 in
theorem c_passS (d : Nat) {m : Nat → Nat} {S : CS} (V : InvS S) {h : gH} (M : SimAt h m S) {mc ms : Nat} {Post : Option Value → gH → Prop} {X : String → gH → Prop} (hmc : 200 ≤ mc) (hms : 1500 ≤ ms) (hp : ∀ v h', SimAt h' m (hrS S) → sFr m (8 + S.2.2.2.1) h h' → Post (some (.int v)) h') : gSafe (d + 5) mX7_pass [.ref (m 0)] h mc ms Post X := by
  obtain ⟨⟨ok6, hG⟩, VL⟩ := V
  have V1 := bd_L VL
  refine ⟨Nat.le_of_ble_eq_true rfl, fun K hK => ?_⟩
  show K 0 [some (.ref (m 0)), none, none, none, none, none, none, none, none, none] [] _ _ _
  -- the end: the hauntings
  have phase3 : ∀ (h1 : gH) bc bs w2 w3 w4 w5 w6 w7 w8 w9, 10 ≤ bc → 72 ≤ bs → SimAt h1 m (hrL S, (bdN S.1 S.2.1 63).2, (hourL S.1 S.2.1 S.2.2.1 S.2.2.2.1).2, S.2.2.2) → sFr m (8 + S.2.2.2.1) h h1 → K 284 [some (.ref (m 0)), some (.int (nI (sumT S.2.2.1 6 S.2.2.2.1))), w2, w3, w4, w5, w6, w7, w8, w9] [] h1 bc bs := by
    intro h1 bc bs w2 w3 w4 w5 w6 w7 w8 w9 hbc hbs M1 F1
    have V2 : InvL (hrL S) (bdN S.1 S.2.1 63).2 := walkF_L V1 _
    have G2 : GOK (hourL S.1 S.2.1 S.2.2.1 S.2.2.2.1).2 := walkF_ok hG _ ok6
    have C0 := M1.c0
    refine s_aload_n hK dX7_pass_284 rfl ?_
    refine s_V0 hK (mc := 10) (ms := 72) dX7_pass_285 kV_X7_64 (by first | assumption | exact H.1 | exact H.2.1) (by rfl) (by omega) (by omega) ?_
    refine c_litS _ M1 V2.1 (T_D V2.2.1) (by omega) (by omega) (fun q h2 ZZ hq F2 => ?_)
    have ZZ : Z2 h2 q (lb (hrL S 7)) := by rw [V2.2.2]; exact ZZ
    have O := oB_out M1 hq
    have M2 := M1.nw F2
    have F2 := F1.tr (sFr.nw (n := 8 + S.2.2.2.1) (m := m) F2)
    have C2 := M2.c0
    obtain ⟨fg, g1, g2⟩ := M2.c5
    generalize bc - 10 = bc
    generalize bs - 72 = bs
    refine s_astore_n hK dX7_pass_288 rfl ?_
    refine s_aload_n hK dX7_pass_289 rfl ?_
    refine s_getfield hK dX7_pass_290 kF_X7_29 (by first | assumption | exact H.1 | exact H.2.1) (by rfl) ?_
    refine s_astore_n hK dX7_pass_293 rfl ?_
    refine s_aload_n hK dX7_pass_294 rfl ?_
    refine s_alen hK dX7_pass_295 g1 rfl rfl ?_
    refine s_istore hK dX7_pass_296 rfl ?_
    refine s_iconst hK (v := 0) dX7_pass_298 (by decide) ?_
    refine s_istore hK dX7_pass_299 rfl ?_
    clear C0 C2 g1 g2
    have loop : ∀ j k, k + j = S.2.2.2.1 → ∀ (h3 : gH) w6 w7 w8 w9, SimAt h3 m (hrL S, (hausF (hrL S) ((bdN S.1 S.2.1 63).2, (hourL S.1 S.2.1 S.2.2.1 S.2.2.2.1).2, 0) k).1, (hausF (hrL S) ((bdN S.1 S.2.1 63).2, (hourL S.1 S.2.1 S.2.2.1 S.2.2.2.1).2, 0) k).2.1, S.2.2.2) → (∀ p, ¬ sD m (8 + S.2.2.2.1) p → h3 p = h2 p) → K 301 [some (.ref (m 0)), some (.int (nI (sumT S.2.2.1 6 S.2.2.2.1))), some (.ref (q)), some (.ref (m 5)), some (.int (nI S.2.2.2.1)), some (.int (nI k)), w6, w7, w8, w9] [] h3 bc bs := by
      intro j
      induction j with
      | zero =>
        intro k hk h3 w6 w7 w8 w9 M3 F3
        obtain rfl : k = S.2.2.2.1 := by omega
        have C3 := M3.c0
        refine s_iload hK dX7_pass_301 rfl ?_
        refine s_iload hK dX7_pass_303 rfl ?_
        refine s_icmpge hK dX7_pass_305 479 (by decide) (fun c_305 => ?_) (fun c_305 => ?_)
        · refine s_aload_n hK dX7_pass_479 rfl ?_
          refine s_dup hK dX7_pass_480 rfl ?_
          refine s_getfield hK dX7_pass_481 kF_X7_45 (by first | assumption | exact H.1 | exact H.2.1) (by rfl) ?_
          refine s_iconst hK (v := 1) dX7_pass_484 (by decide) ?_
          refine s_iadd hK dX7_pass_485 ?_
          refine s_putfield hK dX7_pass_486 kF_X7_45 C3 rfl rfl rfl ?_
          rw [nI_1]
          have B0 : inB m 0 (m 0) := ⟨Nat.le_refl _, by show _ < _ + 1; omega⟩
          have M4 : SimAt (gU h3 (m 0) (.inr (6, smF m (hrS S)))) m (hrS S) := by
            refine M3.put (i := 0) rfl (by omega) (fun p hp => ne_blk B0 hp) (gU_eq _ _ _) (fun j hj hj2 C => ?_)
            match j, hj, C with
            | 1, _, C => exact C
            | 2, _, C => exact C
            | 3, _, C => exact C
            | 4, _, C => exact C
            | 5, _, C => exact C
            | 6, _, C => exact C
            | 7, _, C => exact C
            | j + 8, _, C => exact C
          have F4 : ∀ p, ¬ sD m (8 + S.2.2.2.1) p → gU h3 (m 0) (.inr (6, smF m (hrS S))) p = h2 p := fun p hp => (gU_ne (fun z => hp (by rw [z]; exact sD_i (by omega)))).trans (F3 p hp)
          have e4 : gU h3 (m 0) (.inr (6, (smF m (hrL S, (hausF (hrL S) ((bdN S.1 S.2.1 63).2, (hourL S.1 S.2.1 S.2.2.1 S.2.2.2.1).2, 0) S.2.2.2.1).1, (hausF (hrL S) ((bdN S.1 S.2.1 63).2, (hourL S.1 S.2.1 S.2.2.1 S.2.2.2.1).2, 0) S.2.2.2.1).2.1, S.2.2.2)).set 5 (.int (nI (S.2.2.2.2 + 1))))) = gU h3 (m 0) (.inr (6, smF m (hrS S))) := rfl
          rw [e4]
          generalize gU h3 (m 0) (.inr (6, smF m (hrS S))) = h4 at M4 F4
          have C4 := M4.c0
          refine s_aload_n hK dX7_pass_489 rfl ?_
          refine s_getfield hK dX7_pass_490 kF_X7_88 (by first | assumption | exact H.1 | exact H.2.1) (by rfl) ?_
          refine s_iload_n hK dX7_pass_493 rfl ?_
          refine s_isub hK dX7_pass_494 ?_
          refine s_ireturn hK dX7_pass_495 rfl (by first | rfl | exact b01_nar _) ?_
          exact hp _ h4 M4 (fun p hp hn => (F4 p hp).trans (F2 p hp hn))
        · exact absurd (Int32.le_refl _) c_305
      | succ j ih =>
        intro k hk h3 w6 w7 w8 w9 M3 F3
        have hkg : k < S.2.2.2.1 := by omega
        have ZK : ∀ {h4 : gH}, (∀ p, ¬ sD m (8 + S.2.2.2.1) p → h4 p = h2 p) → Z2 h4 q (lb (hrL S 7)) := fun {h4} F => ZZ.keep (fun p p1 p2 => F p (O p ⟨p1, p2⟩))
        have Zk := ZK F3
        have T3 : InvT (hrL S) (hausF (hrL S) ((bdN S.1 S.2.1 63).2, (hourL S.1 S.2.1 S.2.2.1 S.2.2.2.1).2, 0) k).1 := hausF_T V2.2.1 k
        have G3 : GOK (hausF (hrL S) ((bdN S.1 S.2.1 63).2, (hourL S.1 S.2.1 S.2.2.1 S.2.2.2.1).2, 0) k).2.1 := hausF_ok (s := ((bdN S.1 S.2.1 63).2, (hourL S.1 S.2.1 S.2.2.1 S.2.2.2.1).2, 0)) G2 k
        have es : hausF (hrL S) ((bdN S.1 S.2.1 63).2, (hourL S.1 S.2.1 S.2.2.1 S.2.2.2.1).2, 0) (k + 1) = hauF (hrL S) (hausF (hrL S) ((bdN S.1 S.2.1 63).2, (hourL S.1 S.2.1 S.2.2.1 S.2.2.2.1).2, 0) k) k := rfl
        have ih := ih (k + 1) (by omega)
        rw [es] at ih
        generalize hausF (hrL S) ((bdN S.1 S.2.1 63).2, (hourL S.1 S.2.1 S.2.2.1 S.2.2.2.1).2, 0) k = s at M3 T3 G3 ih
        obtain ⟨am, G, cn⟩ := s
        have M3 : SimAt h3 m (hrL S, am, G, S.2.2.2) := M3
        have T3 : InvT (hrL S) am := T3
        have G3 : GOK G := G3
        obtain ⟨g0, -⟩ := G3 k (by omega)
        have cx : G k 0 % 9 < 9 := Nat.mod_lt _ (by omega)
        have cy : G k 0 / 9 < 7 := by omega
        have ec : 9 * (G k 0 / 9) + G k 0 % 9 = G k 0 := by omega
        have C3 := M3.c0
        obtain ⟨fg, g1, g2⟩ := M3.c5
        have Gk := M3.c8 hkg
        have Bk : m (8 + k) ≠ m 0 := fun z => M3.2.out (i := 8 + k) (j := 0) (by show _ < 8 + S.2.2.2.1; omega) (by omega) (by omega) ⟨Nat.le_refl _, by unfold bk; split <;> omega⟩ ⟨by omega, by show _ < _ + 1; omega⟩
        have next : ∀ (h4 : gH) w7, SimAt h4 m (hrL S, (hauF (hrL S) (am, G, cn) k).1, (hauF (hrL S) (am, G, cn) k).2.1, S.2.2.2) → (∀ p, ¬ sD m (8 + S.2.2.2.1) p → h4 p = h2 p) → K 473 [some (.ref (m 0)), some (.int (nI (sumT S.2.2.1 6 S.2.2.2.1))), some (.ref (q)), some (.ref (m 5)), some (.int (nI S.2.2.2.1)), some (.int (nI k)), some (.ref (m (8 + k))), w7, w8, w9] [] h4 bc bs := by
          intro h4 w7 M4 F4
          refine s_iinck hK (v := 1) dX7_pass_473 rfl (by decide) rfl ?_
          refine s_goto hK dX7_pass_476 301 (by decide) ?_
          rw [nI_1]
          exact ih h4 _ _ _ _ M4 F4
        obtain ⟨fz, y1, y2⟩ := Zk.2 _ cx
        have y3 := y2 _ cy
        rw [ec] at y3
        refine s_iload hK dX7_pass_301 rfl ?_
        refine s_iload hK dX7_pass_303 rfl ?_
        refine s_icmpge hK dX7_pass_305 479 (by decide) (fun c_305 => ?_) (fun c_305 => ?_)
        · exact absurd c_305 (nI_ge (by omega) (by omega))
        · refine s_aload_n hK dX7_pass_308 rfl ?_
          refine s_iload hK dX7_pass_309 rfl ?_
          refine s_aaload hK dX7_pass_311 g1 rfl hkg (by show S.2.2.2.1 < _; omega) (g2 k hkg) ?_
          refine s_astore hK dX7_pass_312 rfl ?_
          refine s_aload_n hK dX7_pass_314 rfl ?_
          refine s_aload hK dX7_pass_315 rfl ?_
          refine s_getfield hK dX7_pass_317 kF_X7_68 (by first | assumption | exact H.1 | exact H.2.1) (by rfl) ?_
          refine s_aaload hK dX7_pass_320 Zk.1 rfl cx (by omega) (if_pos cx) ?_
          refine s_aload hK dX7_pass_321 rfl ?_
          refine s_getfield hK dX7_pass_323 kF_X7_71 (by first | assumption | exact H.1 | exact H.2.1) (by rfl) ?_
          refine s_baloadN hK dX7_pass_326 y1 cy (by omega) ?_
          rw [y3]
          cases el : lb (hrL S 7) (G k 0) with
          | true =>
            have eh : hauF (hrL S) (am, G, cn) k = (am, setG G k 5 (G k 5 + 1), cn) := by unfold hauF; rw [if_pos el]
            rw [eh] at next
            refine s_ifeq hK dX7_pass_327 341 (by decide) (fun c_327 => ?_) (fun c_327 => ?_)
            · exact absurd c_327 (by decide)
            · refine s_aload hK dX7_pass_330 rfl ?_
              refine s_dup hK dX7_pass_332 rfl ?_
              refine s_getfield hK dX7_pass_333 kF_X7_98 (by first | assumption | exact H.1 | exact H.2.1) (by rfl) ?_
              refine s_iconst hK (v := 1) dX7_pass_336 (by decide) ?_
              refine s_iadd hK dX7_pass_337 ?_
              refine s_putfield hK dX7_pass_338 kF_X7_98 Gk rfl rfl rfl ?_
              rw [nI_1]
              have e4 : gU h3 (m (8 + k)) (.inr (5, (gV G k).set 7 (.int (nI (G k 5 + 1))))) = gU h3 (m (8 + k)) (.inr (5, gV (setG G k 5 (G k 5 + 1)) k)) := by
                unfold gV
                simp [setG]
              rw [e4]
              have M4 := M3.gho1 (G' := setG G k 5 (G k 5 + 1)) hkg (fun j hj => gV_set hj) (sumT_set (by decide) _)
              have F4 : ∀ p, ¬ sD m (8 + S.2.2.2.1) p → gU h3 (m (8 + k)) (.inr (5, gV (setG G k 5 (G k 5 + 1)) k)) p = h2 p := fun p hp => (gU_ne (fun z => hp (by rw [z]; exact sD_i (by omega)))).trans (F3 p hp)
              generalize gU h3 (m (8 + k)) (.inr (5, gV (setG G k 5 (G k 5 + 1)) k)) = h4 at M4 F4
              have Gk : h4 (m (8 + k)) = some (.inr (5, gV (setG G k 5 (G k 5 + 1)) k)) := M4.c8 hkg
              have ex : setG G k 5 (G k 5 + 1) k 0 = G k 0 := setG_ne _ _ (fun z => by cases z.2)
              have Z4 := ZK F4
              obtain ⟨fz, y1, y2⟩ := Z4.2 _ cx
              have y3 := y2 _ cy
              rw [ec, el] at y3
              have Gx : h4 (m (8 + k)) = some (.inr (5, [.int (nI (G k 0 % 9)), .int (nI (G k 0 / 9)), .int (nI (setG G k 5 (G k 5 + 1) k 1)), .int (nI (setG G k 5 (G k 5 + 1) k 2 % 9)), .int (nI (setG G k 5 (G k 5 + 1) k 2 / 9)), .int (nI (setG G k 5 (G k 5 + 1) k 3)), .int (nI (setG G k 5 (G k 5 + 1) k 4)), .int (nI (setG G k 5 (G k 5 + 1) k 5))])) := by
                rw [Gk]
                unfold gV
                rw [ex]
              clear Gk
              refine s_aload_n hK dX7_pass_341 rfl ?_
              refine s_aload hK dX7_pass_342 rfl ?_
              refine s_getfield hK dX7_pass_344 kF_X7_68 (by first | assumption | exact H.1 | exact H.2.1) (by rfl) ?_
              refine s_aaload hK dX7_pass_347 Z4.1 rfl cx (by omega) (if_pos cx) ?_
              refine s_aload hK dX7_pass_348 rfl ?_
              refine s_getfield hK dX7_pass_350 kF_X7_71 (by first | assumption | exact H.1 | exact H.2.1) (by rfl) ?_
              refine s_baloadN hK dX7_pass_353 y1 cy (by omega) ?_
              rw [y3]
              refine s_ifne hK dX7_pass_354 473 (by decide) (fun c_354 => ?_) (fun c_354 => ?_)
              · exact next h4 _ M4 F4
              · exact absurd c_354 (by decide)
          | false =>
            refine s_ifeq hK dX7_pass_327 341 (by decide) (fun c_327 => ?_) (fun c_327 => ?_)
            · have T := M3.c2
              obtain ⟨ft, t1, t2⟩ := T.2 _ cx
              have t2 : ∀ y, y < 7 → ft y = nI (thg (hrL S) (9 * y + G k 0 % 9)) := t2
              have t3 := t2 _ cy
              rw [ec] at t3
              have t5 := thg_lt (hrL S) (G k 0)
              refine s_aload_n hK dX7_pass_341 rfl ?_
              refine s_aload hK dX7_pass_342 rfl ?_
              refine s_getfield hK dX7_pass_344 kF_X7_68 (by first | assumption | exact H.1 | exact H.2.1) (by rfl) ?_
              refine s_aaload hK dX7_pass_347 Zk.1 rfl cx (by omega) (if_pos cx) ?_
              refine s_aload hK dX7_pass_348 rfl ?_
              refine s_getfield hK dX7_pass_350 kF_X7_71 (by first | assumption | exact H.1 | exact H.2.1) (by rfl) ?_
              refine s_baloadN hK dX7_pass_353 y1 cy (by omega) ?_
              rw [y3, el]
              refine s_ifne hK dX7_pass_354 473 (by decide) (fun c_354 => ?_) (fun c_354 => ?_)
              · exact absurd rfl c_354
              · refine s_aload_n hK dX7_pass_357 rfl ?_
                refine s_getfield hK dX7_pass_358 kF_X7_16 (by first | assumption | exact H.1 | exact H.2.1) (by rfl) ?_
                refine s_aload hK dX7_pass_361 rfl ?_
                refine s_getfield hK dX7_pass_363 kF_X7_68 (by first | assumption | exact H.1 | exact H.2.1) (by rfl) ?_
                refine s_aaload hK dX7_pass_366 T.1 rfl cx (by omega) (if_pos cx) ?_
                refine s_aload hK dX7_pass_367 rfl ?_
                refine s_getfield hK dX7_pass_369 kF_X7_71 (by first | assumption | exact H.1 | exact H.2.1) (by rfl) ?_
                refine s_ialoadN hK dX7_pass_372 t1 cy (by omega) ?_
                rw [t3]
                refine s_iconst hK (v := 4) dX7_pass_373 (by decide) ?_
                refine s_icmpeq hK dX7_pass_374 380 (by decide) (fun c_374 => ?_) (fun c_374 => ?_)
                · have e4 : thg (hrL S) (G k 0) = 4 := (nI_eq (b := 4) (by omega) (by omega)).mp c_374
                  have l4 := (thg4 T3 (G k 0)).mp e4
                  obtain ⟨v, hv, ev, -⟩ := T3.2.2.2.2.2 _ g0
                  have eh : hauF (hrL S) (am, G, cn) k = (upd am (G k 0) (mkNext (am (G k 0))), setG G k 4 (G k 4 + 1), cn + 1) := by
                    unfold hauF
                    rw [if_neg (by rw [el]; decide), if_pos l4]
                  rw [eh] at next
                  have A := M3.c3
                  obtain ⟨fa, a1, a2⟩ := A.2 _ cx
                  have a3 : fa (G k 0 / 9) = nI v := by
                    rw [a2 _ cy]
                    show am (9 * (G k 0 / 9) + G k 0 % 9) = nI v
                    rw [ec, ev]
                  have fin : ∀ x : Int32, x = mkNext (nI v) → K 434 [some (.ref (m 0)), some (.int (nI (sumT S.2.2.1 6 S.2.2.2.1))), some (.ref (q)), some (.ref (m 5)), some (.int (nI S.2.2.2.1)), some (.int (nI k)), some (.ref (m (8 + k))), some (.int (x)), w8, w9] [] h3 bc bs := by
                    intro x hx
                    refine s_aload_n hK dX7_pass_434 rfl ?_
                    refine s_getfield hK dX7_pass_435 kF_X7_19 (by first | assumption | exact H.1 | exact H.2.1) (by rfl) ?_
                    refine s_aload hK dX7_pass_438 rfl ?_
                    refine s_getfield hK dX7_pass_440 kF_X7_68 (by first | assumption | exact H.1 | exact H.2.1) (by rfl) ?_
                    refine s_aaload hK dX7_pass_443 A.1 rfl cx (by omega) (if_pos cx) ?_
                    refine s_aload hK dX7_pass_444 rfl ?_
                    refine s_getfield hK dX7_pass_446 kF_X7_71 (by first | assumption | exact H.1 | exact H.2.1) (by rfl) ?_
                    refine s_iload hK dX7_pass_449 rfl ?_
                    refine s_iastoreN hK dX7_pass_451 a1 cy (by omega) ?_
                    obtain ⟨M4, F4⟩ := M3.val (v := x) cx cy a1
                    rw [ec, hx, ← ev] at M4
                    have F4 : ∀ p, ¬ sD m (8 + S.2.2.2.1) p → gU h3 (m 3 + 1 + G k 0 % 9) (.inl (0, 7, .inl (upd fa (G k 0 / 9) x))) p = h2 p := fun p hp => (F4 p (fun z => hp ⟨3, by omega, z⟩)).trans (F3 p hp)
                    rw [← ev] at hx
                    rw [← hx] at M4
                    generalize gU h3 (m 3 + 1 + G k 0 % 9) (.inl (0, 7, .inl (upd fa (G k 0 / 9) x))) = h4 at M4 F4
                    rw [hx] at M4
                    have Gk := M4.c8 hkg
                    have Gk : h4 (m (8 + k)) = some (.inr (5, gV G k)) := Gk
                    have C4 := M4.c0
                    refine s_aload hK dX7_pass_452 rfl ?_
                    refine s_dup hK dX7_pass_454 rfl ?_
                    refine s_getfield hK dX7_pass_455 kF_X7_101 (by first | assumption | exact H.1 | exact H.2.1) (by rfl) ?_
                    refine s_iconst hK (v := 1) dX7_pass_458 (by decide) ?_
                    refine s_iadd hK dX7_pass_459 ?_
                    refine s_putfield hK dX7_pass_460 kF_X7_101 Gk rfl rfl rfl ?_
                    rw [nI_1]
                    have e4 : gU h4 (m (8 + k)) (.inr (5, (gV G k).set 6 (.int (nI (G k 4 + 1))))) = gU h4 (m (8 + k)) (.inr (5, gV (setG G k 4 (G k 4 + 1)) k)) := by
                      unfold gV
                      simp [setG]
                    rw [e4]
                    have C5 : gU h4 (m (8 + k)) (.inr (5, gV (setG G k 4 (G k 4 + 1)) k)) (m 0) = _ := (gU_ne (Ne.symm Bk)).trans C4
                    refine s_aload_n hK dX7_pass_463 rfl ?_
                    refine s_dup hK dX7_pass_464 rfl ?_
                    refine s_getfield hK dX7_pass_465 kF_X7_88 (by first | assumption | exact H.1 | exact H.2.1) (by rfl) ?_
                    refine s_iconst hK (v := 1) dX7_pass_468 (by decide) ?_
                    refine s_iadd hK dX7_pass_469 ?_
                    refine s_putfield hK dX7_pass_470 kF_X7_88 C5 rfl rfl rfl ?_
                    rw [nI_1]
                    have esum : sumT (setG G k 4 (G k 4 + 1)) 6 S.2.2.2.1 = sumT G 6 S.2.2.2.1 + 1 := sumT_inc _ hkg
                    have e5 : (smF m (hrL S, upd am (G k 0) (mkNext (am (G k 0))), G, S.2.2.2)).set 6 (.int (nI (sumT G 6 S.2.2.2.1 + 1))) = smF m (hrL S, upd am (G k 0) (mkNext (am (G k 0))), setG G k 4 (G k 4 + 1), S.2.2.2) := by
                      unfold smF
                      rw [← esum]
                      rfl
                    rw [e5]
                    exact next _ _ (M4.gho (G' := setG G k 4 (G k 4 + 1)) hkg (fun j hj => gV_set hj)) (fun p hp => (gU_ne (fun z => hp (by rw [z]; exact sD_i (by omega)))).trans ((gU_ne (fun z => hp (by rw [z]; exact sD_i (by omega)))).trans (F4 p hp)))
                  have mj := mk_J ⟨v, hv⟩
                  have mj : mkNext (nI v) = _ := mj
                  refine s_aload_n hK dX7_pass_380 rfl ?_
                  refine s_getfield hK dX7_pass_381 kF_X7_19 (by first | assumption | exact H.1 | exact H.2.1) (by rfl) ?_
                  refine s_aload hK dX7_pass_384 rfl ?_
                  refine s_getfield hK dX7_pass_386 kF_X7_68 (by first | assumption | exact H.1 | exact H.2.1) (by rfl) ?_
                  refine s_aaload hK dX7_pass_389 A.1 rfl cx (by omega) (if_pos cx) ?_
                  refine s_aload hK dX7_pass_390 rfl ?_
                  refine s_getfield hK dX7_pass_392 kF_X7_71 (by first | assumption | exact H.1 | exact H.2.1) (by rfl) ?_
                  refine s_ialoadN hK dX7_pass_395 a1 cy (by omega) ?_
                  rw [a3]
                  refine s_iconst hK (v := 1) dX7_pass_396 (by decide) ?_
                  refine s_iadd hK dX7_pass_397 ?_
                  refine s_istore hK dX7_pass_398 rfl ?_
                  have at410 : ∀ b : Int32, b = (if nI v + 1 = 100 then (0 : Int32) else nI v + 1) → K 410 [some (.ref (m 0)), some (.int (nI (sumT S.2.2.1 6 S.2.2.2.1))), some (.ref (q)), some (.ref (m 5)), some (.int (nI S.2.2.2.1)), some (.int (nI k)), some (.ref (m (8 + k))), some (.int (b)), w8, w9] [] h3 bc bs := by
                    intro b hb
                    rw [← hb] at mj
                    refine s_iload hK dX7_pass_410 rfl ?_
                    refine s_bipush hK (v := 13) dX7_pass_412 (by decide) ?_
                    refine s_irem hK dX7_pass_414 (by decide) ?_
                    refine s_ifne hK dX7_pass_415 434 (by decide) (fun c_415 => ?_) (fun c_415 => ?_)
                    · rw [if_neg c_415] at mj
                      exact fin b mj.symm
                    · rw [if_pos c_415] at mj
                      refine s_iload hK dX7_pass_418 rfl ?_
                      refine s_bipush hK (v := 10) dX7_pass_420 (by decide) ?_
                      refine s_idiv hK dX7_pass_422 (by decide) ?_
                      refine s_bipush hK (v := 10) dX7_pass_423 (by decide) ?_
                      refine s_iload hK dX7_pass_425 rfl ?_
                      refine s_bipush hK (v := 10) dX7_pass_427 (by decide) ?_
                      refine s_irem hK dX7_pass_429 (by decide) ?_
                      refine s_imul hK dX7_pass_430 ?_
                      refine s_iadd hK dX7_pass_431 ?_
                      refine s_istore hK dX7_pass_432 rfl ?_
                      exact fin _ mj.symm
                  refine s_iload hK dX7_pass_400 rfl ?_
                  refine s_bipush hK (v := 100) dX7_pass_402 (by decide) ?_
                  refine s_icmpne hK dX7_pass_404 410 (by decide) (fun c_404 => ?_) (fun c_404 => ?_)
                  · exact at410 _ (if_neg c_404).symm
                  · refine s_iconst hK (v := 0) dX7_pass_407 (by decide) ?_
                    refine s_istore hK dX7_pass_408 rfl ?_
                    exact at410 _ (if_pos c_404).symm
                · have e4 : ¬ thg (hrL S) (G k 0) = 4 := fun z => c_374 (by rw [z]; rfl)
                  have l4 : lb (hrL S 4) (G k 0) = false := bool_f (fun z => e4 ((thg4 T3 (G k 0)).mpr z))
                  have eh : hauF (hrL S) (am, G, cn) k = (am, G, cn) := by
                    unfold hauF
                    rw [if_neg (by rw [el]; decide), if_neg (by rw [l4]; decide)]
                  rw [eh] at next
                  refine s_goto hK dX7_pass_377 473 (by decide) ?_
                  exact next h3 _ M3 F3
            · exact absurd rfl c_327
    exact loop S.2.2.2.1 0 (by omega) h2 _ _ _ _ M2 (fun _ _ => rfl)
  sorry
