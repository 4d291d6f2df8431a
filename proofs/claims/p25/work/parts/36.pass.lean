/-! the law's own house: an hour -/
theorem steps_pace {s : LG} {g g' : Nat} : ∀ n, (stepsF s g n).2 g' 1 = s.2 g' 1
  | 0 => rfl
  | n + 1 => stepF_pace.trans (steps_pace n)
def hrL (S : CS) : Nat → Int64 := (hourL S.1 S.2.1 S.2.2.1 S.2.2.2.1).1
set_option maxHeartbeats 2000000 in
set_option maxRecDepth 10000 in
theorem c_passS (d : Nat) {m : Nat → Nat} {S : CS} (V : InvS S) {h : gH} (M : SimAt h m S) {mc ms : Nat} {Post : Option Value → gH → Prop} {X : String → gH → Prop} (hmc : 200 ≤ mc) (hms : 1500 ≤ ms) (hp : ∀ v h', SimAt h' m (hrS S) → sFr m (8 + S.2.2.2.1) h h' → Post (some (.int v)) h') : gSafe (d + 5) mX7_pass [.ref (m 0)] h mc ms Post X := by
  obtain ⟨⟨ok6, hG⟩, VL⟩ := V
  have V1 := bd_L VL
  refine ⟨Nat.le_of_ble_eq_true rfl, fun K hK => ?_⟩
  show K 0 [some (.ref (m 0)), none, none, none, none, none, none, none, none, none] [] _ _ _
  -- the end: the hauntings
  have phase3 : ∀ (h1 : gH) bc bs w2 w3 w4 w5 w6 w7 w8 w9, 10 ≤ bc → 72 ≤ bs → SimAt h1 m (hrL S, (bdN S.1 S.2.1 63).2, (hourL S.1 S.2.1 S.2.2.1 S.2.2.2.1).2, S.2.2.2) → sFr m (8 + S.2.2.2.1) h h1 → K 284 [some (.ref (m 0)), some (.int (nI (sumT S.2.2.1 6 S.2.2.2.1))), w2, w3, w4, w5, w6, w7, w8, w9] [] h1 bc bs := by
    intro h1 bc bs w2 w3 w4 w5 w6 w7 w8 w9 hbc hbs M1 F1
    have V2 : InvL (hrL S) (bdN S.1 S.2.1 63).2 := walkF_L V1 _
    have G2 : GOK (hourL S.1 S.2.1 S.2.2.1 S.2.2.2.1).2 := walkF_ok hG _ ok6
    have C0 := M1.c0
    refine s_aload_n hK dX7_pass_284 rfl ?_
    refine s_V0 hK (mc := 10) (ms := 72) dX7_pass_285 kV_X7_64 (by assumption) (by rfl) (by omega) (by omega) ?_
    refine c_litS _ M1 V2.1 (T_D V2.2.1) (by omega) (by omega) (fun q h2 ZZ hq F2 => ?_)
    have ZZ : Z2 h2 q (lb (hrL S 7)) := by rw [V2.2.2]; exact ZZ
    have O := oB_out M1 hq
    have M2 := M1.nw F2
    have F2 := F1.tr (sFr.nw (n := 8 + S.2.2.2.1) (m := m) F2)
    have C2 := M2.c0
    obtain ⟨fg, g1, g2⟩ := M2.c5
    generalize bc - 10 = bc
    generalize bs - 72 = bs
    refine s_astore_n hK dX7_pass_288 rfl ?_
    refine s_aload_n hK dX7_pass_289 rfl ?_
    refine s_getfield hK dX7_pass_290 kF_X7_29 (by assumption) (by rfl) ?_
    refine s_astore_n hK dX7_pass_293 rfl ?_
    refine s_aload_n hK dX7_pass_294 rfl ?_
    refine s_alen hK dX7_pass_295 g1 rfl rfl ?_
    refine s_istore hK dX7_pass_296 rfl ?_
    refine s_iconst hK (v := 0) dX7_pass_298 (by decide) ?_
    refine s_istore hK dX7_pass_299 rfl ?_
    clear C0 C2 g1 g2
    have loop : ∀ j k, k + j = S.2.2.2.1 → ∀ (h3 : gH) w6 w7 w8 w9, SimAt h3 m (hrL S, (hausF (hrL S) ((bdN S.1 S.2.1 63).2, (hourL S.1 S.2.1 S.2.2.1 S.2.2.2.1).2, 0) k).1, (hausF (hrL S) ((bdN S.1 S.2.1 63).2, (hourL S.1 S.2.1 S.2.2.1 S.2.2.2.1).2, 0) k).2.1, S.2.2.2) → (∀ p, ¬ sD m (8 + S.2.2.2.1) p → h3 p = h2 p) → K 301 [some (.ref (m 0)), some (.int (nI (sumT S.2.2.1 6 S.2.2.2.1))), some (.ref (q)), some (.ref (m 5)), some (.int (nI S.2.2.2.1)), some (.int (nI k)), w6, w7, w8, w9] [] h3 bc bs := by
      intro j
      induction j with
      | zero =>
        intro k hk h3 w6 w7 w8 w9 M3 F3
        obtain rfl : k = S.2.2.2.1 := by omega
        have C3 := M3.c0
        refine s_iload hK dX7_pass_301 rfl ?_
        refine s_iload hK dX7_pass_303 rfl ?_
        refine s_icmpge hK dX7_pass_305 479 (by decide) (fun c_305 => ?_) (fun c_305 => ?_)
        · refine s_aload_n hK dX7_pass_479 rfl ?_
          refine s_dup hK dX7_pass_480 rfl ?_
          refine s_getfield hK dX7_pass_481 kF_X7_45 (by assumption) (by rfl) ?_
          refine s_iconst hK (v := 1) dX7_pass_484 (by decide) ?_
          refine s_iadd hK dX7_pass_485 ?_
          refine s_putfield hK dX7_pass_486 kF_X7_45 C3 rfl rfl rfl ?_
          rw [nI_1]
          have B0 : inB m 0 (m 0) := ⟨Nat.le_refl _, by show _ < _ + 1; omega⟩
          have M4 : SimAt (gU h3 (m 0) (.inr (6, smF m (hrS S)))) m (hrS S) := by
            refine M3.put (i := 0) rfl (by omega) (fun p hp => ne_blk B0 hp) (gU_eq _ _ _) (fun j hj hj2 C => ?_)
            match j, hj, C with
            | 1, _, C => exact C
            | 2, _, C => exact C
            | 3, _, C => exact C
            | 4, _, C => exact C
            | 5, _, C => exact C
            | 6, _, C => exact C
            | 7, _, C => exact C
            | j + 8, _, C => exact C
          have F4 : ∀ p, ¬ sD m (8 + S.2.2.2.1) p → gU h3 (m 0) (.inr (6, smF m (hrS S))) p = h2 p := fun p hp => (gU_ne (fun z => hp (by rw [z]; exact sD_i (by omega)))).trans (F3 p hp)
          have e4 : gU h3 (m 0) (.inr (6, (smF m (hrL S, (hausF (hrL S) ((bdN S.1 S.2.1 63).2, (hourL S.1 S.2.1 S.2.2.1 S.2.2.2.1).2, 0) S.2.2.2.1).1, (hausF (hrL S) ((bdN S.1 S.2.1 63).2, (hourL S.1 S.2.1 S.2.2.1 S.2.2.2.1).2, 0) S.2.2.2.1).2.1, S.2.2.2)).set 5 (.int (nI (S.2.2.2.2 + 1))))) = gU h3 (m 0) (.inr (6, smF m (hrS S))) := rfl
          rw [e4]
          generalize gU h3 (m 0) (.inr (6, smF m (hrS S))) = h4 at M4 F4
          have C4 := M4.c0
          refine s_aload_n hK dX7_pass_489 rfl ?_
          refine s_getfield hK dX7_pass_490 kF_X7_88 (by assumption) (by rfl) ?_
          refine s_iload_n hK dX7_pass_493 rfl ?_
          refine s_isub hK dX7_pass_494 ?_
          refine s_ireturn hK dX7_pass_495 rfl (by first | rfl | exact b01_nar _) ?_
          exact hp _ h4 M4 (fun p hp hn => (F4 p hp).trans (F2 p hp hn))
        · exact absurd (Int32.le_refl _) c_305
      | succ j ih =>
        intro k hk h3 w6 w7 w8 w9 M3 F3
        have hkg : k < S.2.2.2.1 := by omega
        have ZK : ∀ {h4 : gH}, (∀ p, ¬ sD m (8 + S.2.2.2.1) p → h4 p = h2 p) → Z2 h4 q (lb (hrL S 7)) := fun {h4} F => ZZ.keep (fun p p1 p2 => F p (O p ⟨p1, p2⟩))
        have Zk := ZK F3
        have T3 : InvT (hrL S) (hausF (hrL S) ((bdN S.1 S.2.1 63).2, (hourL S.1 S.2.1 S.2.2.1 S.2.2.2.1).2, 0) k).1 := hausF_T V2.2.1 k
        have G3 : GOK (hausF (hrL S) ((bdN S.1 S.2.1 63).2, (hourL S.1 S.2.1 S.2.2.1 S.2.2.2.1).2, 0) k).2.1 := hausF_ok (s := ((bdN S.1 S.2.1 63).2, (hourL S.1 S.2.1 S.2.2.1 S.2.2.2.1).2, 0)) G2 k
        have es : hausF (hrL S) ((bdN S.1 S.2.1 63).2, (hourL S.1 S.2.1 S.2.2.1 S.2.2.2.1).2, 0) (k + 1) = hauF (hrL S) (hausF (hrL S) ((bdN S.1 S.2.1 63).2, (hourL S.1 S.2.1 S.2.2.1 S.2.2.2.1).2, 0) k) k := rfl
        have ih := ih (k + 1) (by omega)
        rw [es] at ih
        generalize hausF (hrL S) ((bdN S.1 S.2.1 63).2, (hourL S.1 S.2.1 S.2.2.1 S.2.2.2.1).2, 0) k = s at M3 T3 G3 ih
        obtain ⟨am, G, cn⟩ := s
        have M3 : SimAt h3 m (hrL S, am, G, S.2.2.2) := M3
        have T3 : InvT (hrL S) am := T3
        have G3 : GOK G := G3
        obtain ⟨g0, -⟩ := G3 k (by omega)
        have cx : G k 0 % 9 < 9 := Nat.mod_lt _ (by omega)
        have cy : G k 0 / 9 < 7 := by omega
        have ec : 9 * (G k 0 / 9) + G k 0 % 9 = G k 0 := by omega
        have C3 := M3.c0
        obtain ⟨fg, g1, g2⟩ := M3.c5
        have Gk := M3.c8 hkg
        have Bk : m (8 + k) ≠ m 0 := fun z => M3.2.out (i := 8 + k) (j := 0) (by show _ < 8 + S.2.2.2.1; omega) (by omega) (by omega) ⟨Nat.le_refl _, by unfold bk; split <;> omega⟩ ⟨by omega, by show _ < _ + 1; omega⟩
        have next : ∀ (h4 : gH) w7, SimAt h4 m (hrL S, (hauF (hrL S) (am, G, cn) k).1, (hauF (hrL S) (am, G, cn) k).2.1, S.2.2.2) → (∀ p, ¬ sD m (8 + S.2.2.2.1) p → h4 p = h2 p) → K 473 [some (.ref (m 0)), some (.int (nI (sumT S.2.2.1 6 S.2.2.2.1))), some (.ref (q)), some (.ref (m 5)), some (.int (nI S.2.2.2.1)), some (.int (nI k)), some (.ref (m (8 + k))), w7, w8, w9] [] h4 bc bs := by
          intro h4 w7 M4 F4
          refine s_iinck hK (v := 1) dX7_pass_473 rfl (by decide) rfl ?_
          refine s_goto hK dX7_pass_476 301 (by decide) ?_
          rw [nI_1]
          exact ih h4 _ _ _ _ M4 F4
        obtain ⟨fz, y1, y2⟩ := Zk.2 _ cx
        have y3 := y2 _ cy
        rw [ec] at y3
        refine s_iload hK dX7_pass_301 rfl ?_
        refine s_iload hK dX7_pass_303 rfl ?_
        refine s_icmpge hK dX7_pass_305 479 (by decide) (fun c_305 => ?_) (fun c_305 => ?_)
        · exact absurd c_305 (nI_ge (by omega) (by omega))
        · refine s_aload_n hK dX7_pass_308 rfl ?_
          refine s_iload hK dX7_pass_309 rfl ?_
          refine s_aaload hK dX7_pass_311 g1 rfl hkg (by show S.2.2.2.1 < _; omega) (g2 k hkg) ?_
          refine s_astore hK dX7_pass_312 rfl ?_
          refine s_aload_n hK dX7_pass_314 rfl ?_
          refine s_aload hK dX7_pass_315 rfl ?_
          refine s_getfield hK dX7_pass_317 kF_X7_68 (by assumption) (by rfl) ?_
          refine s_aaload hK dX7_pass_320 Zk.1 rfl cx (by omega) (if_pos cx) ?_
          refine s_aload hK dX7_pass_321 rfl ?_
          refine s_getfield hK dX7_pass_323 kF_X7_71 (by assumption) (by rfl) ?_
          refine s_baloadN hK dX7_pass_326 y1 cy (by omega) ?_
          rw [y3]
          cases el : lb (hrL S 7) (G k 0) with
          | true =>
            have eh : hauF (hrL S) (am, G, cn) k = (am, setG G k 5 (G k 5 + 1), cn) := by unfold hauF; rw [if_pos el]
            rw [eh] at next
            refine s_ifeq hK dX7_pass_327 341 (by decide) (fun c_327 => ?_) (fun c_327 => ?_)
            · exact absurd c_327 (by decide)
            · refine s_aload hK dX7_pass_330 rfl ?_
              refine s_dup hK dX7_pass_332 rfl ?_
              refine s_getfield hK dX7_pass_333 kF_X7_98 (by assumption) (by rfl) ?_
              refine s_iconst hK (v := 1) dX7_pass_336 (by decide) ?_
              refine s_iadd hK dX7_pass_337 ?_
              refine s_putfield hK dX7_pass_338 kF_X7_98 Gk rfl rfl rfl ?_
              rw [nI_1]
              have e4 : gU h3 (m (8 + k)) (.inr (5, (gV G k).set 7 (.int (nI (G k 5 + 1))))) = gU h3 (m (8 + k)) (.inr (5, gV (setG G k 5 (G k 5 + 1)) k)) := by
                unfold gV
                simp [setG]
              rw [e4]
              have M4 := M3.gho1 (G' := setG G k 5 (G k 5 + 1)) hkg (fun j hj => gV_set hj) (sumT_set (by decide) _)
              have F4 : ∀ p, ¬ sD m (8 + S.2.2.2.1) p → gU h3 (m (8 + k)) (.inr (5, gV (setG G k 5 (G k 5 + 1)) k)) p = h2 p := fun p hp => (gU_ne (fun z => hp (by rw [z]; exact sD_i (by omega)))).trans (F3 p hp)
              generalize gU h3 (m (8 + k)) (.inr (5, gV (setG G k 5 (G k 5 + 1)) k)) = h4 at M4 F4
              have Gk : h4 (m (8 + k)) = some (.inr (5, gV (setG G k 5 (G k 5 + 1)) k)) := M4.c8 hkg
              have ex : setG G k 5 (G k 5 + 1) k 0 = G k 0 := setG_ne _ _ (fun z => by cases z.2)
              have Z4 := ZK F4
              obtain ⟨fz, y1, y2⟩ := Z4.2 _ cx
              have y3 := y2 _ cy
              rw [ec, el] at y3
              have Gx : h4 (m (8 + k)) = some (.inr (5, [.int (nI (G k 0 % 9)), .int (nI (G k 0 / 9)), .int (nI (setG G k 5 (G k 5 + 1) k 1)), .int (nI (setG G k 5 (G k 5 + 1) k 2 % 9)), .int (nI (setG G k 5 (G k 5 + 1) k 2 / 9)), .int (nI (setG G k 5 (G k 5 + 1) k 3)), .int (nI (setG G k 5 (G k 5 + 1) k 4)), .int (nI (setG G k 5 (G k 5 + 1) k 5))])) := by
                rw [Gk]
                unfold gV
                rw [ex]
              clear Gk
              refine s_aload_n hK dX7_pass_341 rfl ?_
              refine s_aload hK dX7_pass_342 rfl ?_
              refine s_getfield hK dX7_pass_344 kF_X7_68 (by assumption) (by rfl) ?_
              refine s_aaload hK dX7_pass_347 Z4.1 rfl cx (by omega) (if_pos cx) ?_
              refine s_aload hK dX7_pass_348 rfl ?_
              refine s_getfield hK dX7_pass_350 kF_X7_71 (by assumption) (by rfl) ?_
              refine s_baloadN hK dX7_pass_353 y1 cy (by omega) ?_
              rw [y3]
              refine s_ifne hK dX7_pass_354 473 (by decide) (fun c_354 => ?_) (fun c_354 => ?_)
              · exact next h4 _ M4 F4
              · exact absurd c_354 (by decide)
          | false =>
            refine s_ifeq hK dX7_pass_327 341 (by decide) (fun c_327 => ?_) (fun c_327 => ?_)
            · have T := M3.c2
              obtain ⟨ft, t1, t2⟩ := T.2 _ cx
              have t2 : ∀ y, y < 7 → ft y = nI (thg (hrL S) (9 * y + G k 0 % 9)) := t2
              have t3 := t2 _ cy
              rw [ec] at t3
              have t5 := thg_lt (hrL S) (G k 0)
              refine s_aload_n hK dX7_pass_341 rfl ?_
              refine s_aload hK dX7_pass_342 rfl ?_
              refine s_getfield hK dX7_pass_344 kF_X7_68 (by assumption) (by rfl) ?_
              refine s_aaload hK dX7_pass_347 Zk.1 rfl cx (by omega) (if_pos cx) ?_
              refine s_aload hK dX7_pass_348 rfl ?_
              refine s_getfield hK dX7_pass_350 kF_X7_71 (by assumption) (by rfl) ?_
              refine s_baloadN hK dX7_pass_353 y1 cy (by omega) ?_
              rw [y3, el]
              refine s_ifne hK dX7_pass_354 473 (by decide) (fun c_354 => ?_) (fun c_354 => ?_)
              · exact absurd rfl c_354
              · refine s_aload_n hK dX7_pass_357 rfl ?_
                refine s_getfield hK dX7_pass_358 kF_X7_16 (by assumption) (by rfl) ?_
                refine s_aload hK dX7_pass_361 rfl ?_
                refine s_getfield hK dX7_pass_363 kF_X7_68 (by assumption) (by rfl) ?_
                refine s_aaload hK dX7_pass_366 T.1 rfl cx (by omega) (if_pos cx) ?_
                refine s_aload hK dX7_pass_367 rfl ?_
                refine s_getfield hK dX7_pass_369 kF_X7_71 (by assumption) (by rfl) ?_
                refine s_ialoadN hK dX7_pass_372 t1 cy (by omega) ?_
                rw [t3]
                refine s_iconst hK (v := 4) dX7_pass_373 (by decide) ?_
                refine s_icmpeq hK dX7_pass_374 380 (by decide) (fun c_374 => ?_) (fun c_374 => ?_)
                · have e4 : thg (hrL S) (G k 0) = 4 := (nI_eq (b := 4) (by omega) (by omega)).mp c_374
                  have l4 := (thg4 T3 (G k 0)).mp e4
                  obtain ⟨v, hv, ev, -⟩ := T3.2.2.2.2.2 _ g0
                  have eh : hauF (hrL S) (am, G, cn) k = (upd am (G k 0) (mkNext (am (G k 0))), setG G k 4 (G k 4 + 1), cn + 1) := by
                    unfold hauF
                    rw [if_neg (by rw [el]; decide), if_pos l4]
                  rw [eh] at next
                  have A := M3.c3
                  obtain ⟨fa, a1, a2⟩ := A.2 _ cx
                  have a3 : fa (G k 0 / 9) = nI v := by
                    rw [a2 _ cy]
                    show am (9 * (G k 0 / 9) + G k 0 % 9) = nI v
                    rw [ec, ev]
                  have fin : ∀ x : Int32, x = mkNext (nI v) → K 434 [some (.ref (m 0)), some (.int (nI (sumT S.2.2.1 6 S.2.2.2.1))), some (.ref (q)), some (.ref (m 5)), some (.int (nI S.2.2.2.1)), some (.int (nI k)), some (.ref (m (8 + k))), some (.int (x)), w8, w9] [] h3 bc bs := by
                    intro x hx
                    refine s_aload_n hK dX7_pass_434 rfl ?_
                    refine s_getfield hK dX7_pass_435 kF_X7_19 (by assumption) (by rfl) ?_
                    refine s_aload hK dX7_pass_438 rfl ?_
                    refine s_getfield hK dX7_pass_440 kF_X7_68 (by assumption) (by rfl) ?_
                    refine s_aaload hK dX7_pass_443 A.1 rfl cx (by omega) (if_pos cx) ?_
                    refine s_aload hK dX7_pass_444 rfl ?_
                    refine s_getfield hK dX7_pass_446 kF_X7_71 (by assumption) (by rfl) ?_
                    refine s_iload hK dX7_pass_449 rfl ?_
                    refine s_iastoreN hK dX7_pass_451 a1 cy (by omega) ?_
                    obtain ⟨M4, F4⟩ := M3.val (v := x) cx cy a1
                    rw [ec, hx, ← ev] at M4
                    have F4 : ∀ p, ¬ sD m (8 + S.2.2.2.1) p → gU h3 (m 3 + 1 + G k 0 % 9) (.inl (0, 7, .inl (upd fa (G k 0 / 9) x))) p = h2 p := fun p hp => (F4 p (fun z => hp ⟨3, by omega, z⟩)).trans (F3 p hp)
                    rw [← ev] at hx
                    rw [← hx] at M4
                    generalize gU h3 (m 3 + 1 + G k 0 % 9) (.inl (0, 7, .inl (upd fa (G k 0 / 9) x))) = h4 at M4 F4
                    rw [hx] at M4
                    have Gk := M4.c8 hkg
                    have Gk : h4 (m (8 + k)) = some (.inr (5, gV G k)) := Gk
                    have C4 := M4.c0
                    refine s_aload hK dX7_pass_452 rfl ?_
                    refine s_dup hK dX7_pass_454 rfl ?_
                    refine s_getfield hK dX7_pass_455 kF_X7_101 (by assumption) (by rfl) ?_
                    refine s_iconst hK (v := 1) dX7_pass_458 (by decide) ?_
                    refine s_iadd hK dX7_pass_459 ?_
                    refine s_putfield hK dX7_pass_460 kF_X7_101 Gk rfl rfl rfl ?_
                    rw [nI_1]
                    have e4 : gU h4 (m (8 + k)) (.inr (5, (gV G k).set 6 (.int (nI (G k 4 + 1))))) = gU h4 (m (8 + k)) (.inr (5, gV (setG G k 4 (G k 4 + 1)) k)) := by
                      unfold gV
                      simp [setG]
                    rw [e4]
                    have C5 : gU h4 (m (8 + k)) (.inr (5, gV (setG G k 4 (G k 4 + 1)) k)) (m 0) = _ := (gU_ne (Ne.symm Bk)).trans C4
                    refine s_aload_n hK dX7_pass_463 rfl ?_
                    refine s_dup hK dX7_pass_464 rfl ?_
                    refine s_getfield hK dX7_pass_465 kF_X7_88 (by assumption) (by rfl) ?_
                    refine s_iconst hK (v := 1) dX7_pass_468 (by decide) ?_
                    refine s_iadd hK dX7_pass_469 ?_
                    refine s_putfield hK dX7_pass_470 kF_X7_88 C5 rfl rfl rfl ?_
                    rw [nI_1]
                    have esum : sumT (setG G k 4 (G k 4 + 1)) 6 S.2.2.2.1 = sumT G 6 S.2.2.2.1 + 1 := sumT_inc _ hkg
                    have e5 : (smF m (hrL S, upd am (G k 0) (mkNext (am (G k 0))), G, S.2.2.2)).set 6 (.int (nI (sumT G 6 S.2.2.2.1 + 1))) = smF m (hrL S, upd am (G k 0) (mkNext (am (G k 0))), setG G k 4 (G k 4 + 1), S.2.2.2) := by
                      unfold smF
                      rw [← esum]
                      rfl
                    rw [e5]
                    exact next _ _ (M4.gho (G' := setG G k 4 (G k 4 + 1)) hkg (fun j hj => gV_set hj)) (fun p hp => (gU_ne (fun z => hp (by rw [z]; exact sD_i (by omega)))).trans ((gU_ne (fun z => hp (by rw [z]; exact sD_i (by omega)))).trans (F4 p hp)))
                  have mj := mk_J ⟨v, hv⟩
                  have mj : mkNext (nI v) = _ := mj
                  refine s_aload_n hK dX7_pass_380 rfl ?_
                  refine s_getfield hK dX7_pass_381 kF_X7_19 (by assumption) (by rfl) ?_
                  refine s_aload hK dX7_pass_384 rfl ?_
                  refine s_getfield hK dX7_pass_386 kF_X7_68 (by assumption) (by rfl) ?_
                  refine s_aaload hK dX7_pass_389 A.1 rfl cx (by omega) (if_pos cx) ?_
                  refine s_aload hK dX7_pass_390 rfl ?_
                  refine s_getfield hK dX7_pass_392 kF_X7_71 (by assumption) (by rfl) ?_
                  refine s_ialoadN hK dX7_pass_395 a1 cy (by omega) ?_
                  rw [a3]
                  refine s_iconst hK (v := 1) dX7_pass_396 (by decide) ?_
                  refine s_iadd hK dX7_pass_397 ?_
                  refine s_istore hK dX7_pass_398 rfl ?_
                  have at410 : ∀ b : Int32, b = (if nI v + 1 = 100 then (0 : Int32) else nI v + 1) → K 410 [some (.ref (m 0)), some (.int (nI (sumT S.2.2.1 6 S.2.2.2.1))), some (.ref (q)), some (.ref (m 5)), some (.int (nI S.2.2.2.1)), some (.int (nI k)), some (.ref (m (8 + k))), some (.int (b)), w8, w9] [] h3 bc bs := by
                    intro b hb
                    rw [← hb] at mj
                    refine s_iload hK dX7_pass_410 rfl ?_
                    refine s_bipush hK (v := 13) dX7_pass_412 (by decide) ?_
                    refine s_irem hK dX7_pass_414 (by decide) ?_
                    refine s_ifne hK dX7_pass_415 434 (by decide) (fun c_415 => ?_) (fun c_415 => ?_)
                    · rw [if_neg c_415] at mj
                      exact fin b mj.symm
                    · rw [if_pos c_415] at mj
                      refine s_iload hK dX7_pass_418 rfl ?_
                      refine s_bipush hK (v := 10) dX7_pass_420 (by decide) ?_
                      refine s_idiv hK dX7_pass_422 (by decide) ?_
                      refine s_bipush hK (v := 10) dX7_pass_423 (by decide) ?_
                      refine s_iload hK dX7_pass_425 rfl ?_
                      refine s_bipush hK (v := 10) dX7_pass_427 (by decide) ?_
                      refine s_irem hK dX7_pass_429 (by decide) ?_
                      refine s_imul hK dX7_pass_430 ?_
                      refine s_iadd hK dX7_pass_431 ?_
                      refine s_istore hK dX7_pass_432 rfl ?_
                      exact fin _ mj.symm
                  refine s_iload hK dX7_pass_400 rfl ?_
                  refine s_bipush hK (v := 100) dX7_pass_402 (by decide) ?_
                  refine s_icmpne hK dX7_pass_404 410 (by decide) (fun c_404 => ?_) (fun c_404 => ?_)
                  · exact at410 _ (if_neg c_404).symm
                  · refine s_iconst hK (v := 0) dX7_pass_407 (by decide) ?_
                    refine s_istore hK dX7_pass_408 rfl ?_
                    exact at410 _ (if_pos c_404).symm
                · have e4 : ¬ thg (hrL S) (G k 0) = 4 := fun z => c_374 (by rw [z]; rfl)
                  have l4 : lb (hrL S 4) (G k 0) = false := bool_f (fun z => e4 ((thg4 T3 (G k 0)).mpr z))
                  have eh : hauF (hrL S) (am, G, cn) k = (am, G, cn) := by
                    unfold hauF
                    rw [if_neg (by rw [el]; decide), if_neg (by rw [l4]; decide)]
                  rw [eh] at next
                  refine s_goto hK dX7_pass_377 473 (by decide) ?_
                  exact next h3 _ M3 F3
            · exact absurd rfl c_327
    exact loop S.2.2.2.1 0 (by omega) h2 _ _ _ _ M2 (fun _ _ => rfl)
  -- the ghosts' steps
  obtain ⟨s0, hs0⟩ : ∃ s0 : LG, s0 = (reL (bdN S.1 S.2.1 63).1, S.2.2.1) := ⟨_, rfl⟩
  obtain ⟨am, ham⟩ : ∃ am, am = (bdN S.1 S.2.1 63).2 := ⟨_, rfl⟩
  have V1 : InvL s0.1 am := by rw [hs0, ham]; exact V1
  have G0 : GOK s0.2 := by rw [hs0]; exact hG
  have eh : hourL S.1 S.2.1 S.2.2.1 S.2.2.2.1 = walkF s0 S.2.2.2.1 := by rw [hs0]; rfl
  have phase2 : ∀ (h1 : gH) bc bs w2 w3 w4 w5 w6 w7 w8 w9, 10 + 30 * S.2.2.2.1 ≤ bc → 72 + 216 * S.2.2.2.1 ≤ bs → SimAt h1 m (s0.1, am, s0.2, S.2.2.2) → sFr m (8 + S.2.2.2.1) h h1 → K 83 [some (.ref (m 0)), some (.int (nI (sumT S.2.2.1 6 S.2.2.2.1))), w2, w3, w4, w5, w6, w7, w8, w9] [] h1 bc bs := by
    intro h1 bc bs w2 w3 w4 w5 w6 w7 w8 w9 hbc hbs M1 F1
    have C0 := M1.c0
    obtain ⟨fg, g1, g2⟩ := M1.c5
    refine s_aload_n hK dX7_pass_83 rfl ?_
    refine s_getfield hK dX7_pass_84 kF_X7_29 (by assumption) (by rfl) ?_
    refine s_astore_n hK dX7_pass_87 rfl ?_
    refine s_aload_n hK dX7_pass_88 rfl ?_
    refine s_alen hK dX7_pass_89 g1 rfl rfl ?_
    refine s_istore_n hK dX7_pass_90 rfl ?_
    refine s_iconst hK (v := 0) dX7_pass_91 (by decide) ?_
    refine s_istore hK dX7_pass_92 rfl ?_
    clear g1 g2 C0
    have loopG : ∀ j k, k + j = S.2.2.2.1 → ∀ (h3 : gH) bc bs w5 w6 w7 w8 w9, 10 + 30 * j ≤ bc → 72 + 216 * j ≤ bs → SimAt h3 m ((walkF s0 k).1, am, (walkF s0 k).2, S.2.2.2) → sFr m (8 + S.2.2.2.1) h h3 → K 94 [some (.ref (m 0)), some (.int (nI (sumT S.2.2.1 6 S.2.2.2.1))), some (.ref (m 5)), some (.int (nI S.2.2.2.1)), some (.int (nI k)), w5, w6, w7, w8, w9] [] h3 bc bs := by
      intro j
      induction j with
      | zero =>
        intro k hk h3 bc bs w5 w6 w7 w8 w9 hbc hbs M3 F3
        obtain rfl : k = S.2.2.2.1 := by omega
        refine s_iload hK dX7_pass_94 rfl ?_
        refine s_iload_n hK dX7_pass_96 rfl ?_
        refine s_icmpge hK dX7_pass_97 284 (by decide) (fun c_97 => ?_) (fun c_97 => ?_)
        · refine phase3 h3 bc bs _ _ _ _ _ _ _ _ (by omega) (by omega) ?_ F3
          unfold hrL
          rw [eh, ← ham]
          exact M3
        · exact absurd (Int32.le_refl _) c_97
      | succ j ih =>
        intro k hk h3 bc bs w5 w6 w7 w8 w9 hbc hbs M3 F3
        have hkg : k < S.2.2.2.1 := by omega
        have Vk : InvL (walkF s0 k).1 am := walkF_L V1 k
        have Gk0 : GOK (walkF s0 k).2 := walkF_ok G0 k (by omega)
        have ew : walkF s0 (k + 1) = stepsF (walkF s0 k) k ((walkF s0 k).2 k 1) := rfl
        have ih := ih (k + 1) (by omega)
        rw [ew] at ih
        generalize walkF s0 k = sk at M3 Vk Gk0 ih
        obtain ⟨pc9, hpc⟩ : ∃ z, z = sk.2 k 1 := ⟨_, rfl⟩
        rw [← hpc] at ih
        have hp3 : pc9 ≤ 3 := by rw [hpc]; exact (Gk0 k (by omega)).2.1
        obtain ⟨fg, g1, g2⟩ := M3.c5
        refine s_iload hK dX7_pass_94 rfl ?_
        refine s_iload_n hK dX7_pass_96 rfl ?_
        refine s_icmpge hK dX7_pass_97 284 (by decide) (fun c_97 => ?_) (fun c_97 => ?_)
        · exact absurd c_97 (nI_ge (by omega) (by omega))
        · refine s_aload_n hK dX7_pass_100 rfl ?_
          refine s_iload hK dX7_pass_101 rfl ?_
          refine s_aaload hK dX7_pass_103 g1 rfl hkg (by show S.2.2.2.1 < _; omega) (g2 k hkg) ?_
          refine s_astore hK dX7_pass_104 rfl ?_
          refine s_iconst hK (v := 0) dX7_pass_106 (by decide) ?_
          refine s_istore hK dX7_pass_107 rfl ?_
          clear g1 g2
          have out : ∀ (h4 : gH) bc bs w6 w7 w8 w9, 10 + 30 * j ≤ bc → 72 + 216 * j ≤ bs → SimAt h4 m ((stepsF sk k pc9).1, am, (stepsF sk k pc9).2, S.2.2.2) → sFr m (8 + S.2.2.2.1) h h4 → K 278 [some (.ref (m 0)), some (.int (nI (sumT S.2.2.1 6 S.2.2.2.1))), some (.ref (m 5)), some (.int (nI S.2.2.2.1)), some (.int (nI k)), some (.ref (m (8 + k))), w6, w7, w8, w9] [] h4 bc bs := by
            intro h4 bc bs w6 w7 w8 w9 hbc hbs M4 F4
            refine s_iinck hK (v := 1) dX7_pass_278 rfl (by decide) rfl ?_
            refine s_goto hK dX7_pass_281 94 (by decide) ?_
            rw [nI_1]
            exact ih h4 bc bs _ _ _ _ _ hbc hbs M4 F4
          have steps : ∀ jj st, st + jj = pc9 → ∀ (h4 : gH) bc bs w7 w8 w9, 10 + 30 * j + 10 * jj ≤ bc → 72 + 216 * j + 72 * jj ≤ bs → SimAt h4 m ((stepsF sk k st).1, am, (stepsF sk k st).2, S.2.2.2) → sFr m (8 + S.2.2.2.1) h h4 → K 109 [some (.ref (m 0)), some (.int (nI (sumT S.2.2.1 6 S.2.2.2.1))), some (.ref (m 5)), some (.int (nI S.2.2.2.1)), some (.int (nI k)), some (.ref (m (8 + k))), some (.int (nI st)), w7, w8, w9] [] h4 bc bs := by
            intro jj
            induction jj with
            | zero =>
              intro st hst h4 bc bs w7 w8 w9 hbc hbs M4 F4
              obtain rfl : st = pc9 := by omega
              have Gk : h4 (m (8 + k)) = some (.inr (5, gV (stepsF sk k st).2 k)) := M4.c8 hkg
              have ep : (stepsF sk k st).2 k 1 = st := (steps_pace st).trans hpc.symm
              refine s_iload hK dX7_pass_109 rfl ?_
              refine s_aload hK dX7_pass_111 rfl ?_
              refine s_getfield hK dX7_pass_113 kF_X7_91 (by assumption) (by rfl) ?_
              rw [ep]
              refine s_icmpge hK dX7_pass_116 278 (by decide) (fun c_116 => ?_) (fun c_116 => ?_)
              · exact out h4 bc bs _ _ _ _ (by omega) (by omega) M4 F4
              · exact absurd (Int32.le_refl _) c_116
            | succ jj ihs =>
              intro st hst h4 bc bs w7 w8 w9 hbc hbs M4 F4
              have Gk : h4 (m (8 + k)) = some (.inr (5, gV (stepsF sk k st).2 k)) := M4.c8 hkg
              have ep : (stepsF sk k st).2 k 1 = pc9 := (steps_pace st).trans hpc.symm
              have Vs : InvL (stepsF sk k st).1 am := stepsF_L Vk st
              have Gs : GOK (stepsF sk k st).2 := stepsF_ok Gk0 (by omega) st
              have estop := steps_stop (s := sk) (g := k) (j := st)
              have esuc : stepsF sk k (st + 1) = stepF (stepsF sk k st) k := rfl
              have ihs := ihs (st + 1) (by omega)
              rw [esuc] at ihs
              refine s_iload hK dX7_pass_109 rfl ?_
              refine s_aload hK dX7_pass_111 rfl ?_
              refine s_getfield hK dX7_pass_113 kF_X7_91 (by assumption) (by rfl) ?_
              rw [ep]
              refine s_icmpge hK dX7_pass_116 278 (by decide) (fun c_116 => ?_) (fun c_116 => ?_)
              · exact absurd c_116 (nI_ge (by omega) (by omega))
              · generalize stepsF sk k st = s at M4 Gk ep Vs Gs estop ihs
                obtain ⟨L, G⟩ := s
                have M4 : SimAt h4 m (L, am, G, S.2.2.2) := M4
                have Gk : h4 (m (8 + k)) = some (.inr (5, gV G k)) := Gk
                have Vs : InvL L am := Vs
                have Gs : GOK G := Gs
                obtain ⟨g0, -, -, g3⟩ := Gs k (by omega)
                have C4 := M4.c0
                refine s_aload_n hK dX7_pass_119 rfl ?_
                refine s_aload hK dX7_pass_120 rfl ?_
                refine s_V1 hK (mc := 10) (ms := 72) dX7_pass_122 kV_X7_94 (by assumption) (by rfl) (by omega) (by omega) ?_
                refine c_nextS _ (S := (L, am, G, S.2.2.2)) (k := k) hkg ⟨ok6, Gs⟩ Vs M4 (by omega) (by omega) (fun h5 M5 F5 => ?_)
                have F5 : sFr m (8 + S.2.2.2.1) h h5 := F4.tr F5
                show K 125 _ [.int (oI (nxtF L (G k 0) (G k 2) (mpG G k)))] h5 (bc - 10) (bs - 72)
                cases en : nxtF L (G k 0) (G k 2) (mpG G k) with
                | none =>
                  have e1 : stepF (L, G) k = (L, G) := by unfold stepF; rw [en]
                  have e2 := estop e1 (pc9 - st)
                  rw [show st + (pc9 - st) = pc9 by omega] at e2
                  refine s_istore hK dX7_pass_125 rfl ?_
                  refine s_iload hK dX7_pass_127 rfl ?_
                  refine s_ifge hK dX7_pass_129 135 (by decide) (fun c_129 => ?_) (fun c_129 => ?_)
                  · exact absurd c_129 (by decide)
                  · refine s_goto hK dX7_pass_132 278 (by decide) ?_
                    refine out h5 _ _ _ _ _ _ (by omega) (by omega) ?_ F5
                    rw [e2]
                    exact M5
                | some dn =>
                  obtain ⟨hd, hno⟩ := nxtF_ok g0 en
                  have h9 := nb_lt g0 hd hno
                  obtain ⟨gx, gy⟩ := nbxy g0 hd hno
                  have estep : stepF (L, G) k = if lb (wCells L dn) (G k 0) then (reL (oBlow L (nbOf (G k 0) dn)), setG (setG G k 0 (nbOf (G k 0) dn)) k 3 0) else (L, setG G k 0 (nbOf (G k 0) dn)) := by unfold stepF; rw [en]
                  rw [estep] at ihs
                  have cx : G k 0 % 9 < 9 := Nat.mod_lt _ (by omega)
                  have cy : G k 0 / 9 < 7 := by omega
                  have ec : 9 * (G k 0 / 9) + G k 0 % 9 = G k 0 := by omega
                  have Gk : h5 (m (8 + k)) = some (.inr (5, gV G k)) := M5.c8 hkg
                  have C0 := M5.c0
                  have W := M5.c1
                  have W2 := (W.2 _ cx).1
                  obtain ⟨f1, x1, x2⟩ := (W.2 _ cx).2 _ cy
                  have x3 := x2 dn hd
                  rw [ec] at x3
                  refine s_istore hK dX7_pass_125 rfl ?_
                  refine s_iload hK dX7_pass_127 rfl ?_
                  refine s_ifge hK dX7_pass_129 135 (by decide) (fun c_129 => ?_) (fun c_129 => ?_)
                  · refine s_aload_n hK dX7_pass_135 rfl ?_
                    refine s_getfield hK dX7_pass_136 kF_X7_9 (by assumption) (by rfl) ?_
                    refine s_aload hK dX7_pass_139 rfl ?_
                    refine s_getfield hK dX7_pass_141 kF_X7_68 (by assumption) (by rfl) ?_
                    refine s_aaload hK dX7_pass_144 W.1 rfl cx (by omega) (if_pos cx) ?_
                    refine s_aload hK dX7_pass_145 rfl ?_
                    refine s_getfield hK dX7_pass_147 kF_X7_71 (by assumption) (by rfl) ?_
                    refine s_aaload hK dX7_pass_150 W2 rfl cy (by omega) (if_pos cy) ?_
                    refine s_iload hK dX7_pass_151 rfl ?_
                    refine s_baloadN hK dX7_pass_153 x1 hd (by omega) ?_
                    rw [x3]
                    refine s_istore hK dX7_pass_154 rfl ?_
                    refine s_aload hK dX7_pass_156 rfl ?_
                    refine s_dup hK dX7_pass_158 rfl ?_
                    refine s_getfield hK dX7_pass_159 kF_X7_68 (by assumption) (by rfl) ?_
                    refine s_iload hK dX7_pass_162 rfl ?_
                    refine s_S10 hK dX7_pass_164 kS_X7_49 (by rfl) ?_
                    refine c_goX _ hd ?_
                    refine s_iadd hK dX7_pass_167 ?_
                    rw [gx]
                    refine s_putfield hK dX7_pass_168 kF_X7_68 Gk rfl rfl rfl ?_
                    have Gk6 : gU h5 (m (8 + k)) (.inr (5, (gV G k).set 0 (.int (nI (nbOf (G k 0) dn % 9))))) (m (8 + k)) = some (.inr (5, (gV G k).set 0 (.int (nI (nbOf (G k 0) dn % 9))))) := gU_eq _ _ _
                    refine s_aload hK dX7_pass_171 rfl ?_
                    refine s_dup hK dX7_pass_173 rfl ?_
                    refine s_getfield hK dX7_pass_174 kF_X7_71 (by assumption) (by rfl) ?_
                    refine s_iload hK dX7_pass_177 rfl ?_
                    refine s_S10 hK dX7_pass_179 kS_X7_53 (by rfl) ?_
                    refine c_goY _ hd ?_
                    refine s_iadd hK dX7_pass_182 ?_
                    rw [gy]
                    refine s_putfield hK dX7_pass_183 kF_X7_71 Gk6 rfl rfl rfl ?_
                    rw [gU_gU]
                    have eg : ((gV G k).set 0 (.int (nI (nbOf (G k 0) dn % 9)))).set 1 (.int (nI (nbOf (G k 0) dn / 9))) = gV (setG G k 0 (nbOf (G k 0) dn)) k := by
                      unfold gV
                      simp [setG]
                    rw [eg]
                    have M6 := M5.gho1 (G' := setG G k 0 (nbOf (G k 0) dn)) hkg (fun j hj => gV_set hj) (sumT_set (by decide) _)
                    have F6 := F5.tr (sFr.U (n := 8 + S.2.2.2.1) (m := m) (i := 8 + k) (h := h5) (o := .inr (5, gV (setG G k 0 (nbOf (G k 0) dn)) k)) (by omega))
                    generalize gU h5 (m (8 + k)) (.inr (5, gV (setG G k 0 (nbOf (G k 0) dn)) k)) = h6 at M6 F6
                    have M6 : SimAt h6 m (L, am, setG G k 0 (nbOf (G k 0) dn), S.2.2.2) := M6
                    clear Gk Gk6 C0
                    refine s_iload hK dX7_pass_186 rfl ?_
                    refine s_ifne hK dX7_pass_188 194 (by decide) (fun c_188 => ?_) (fun c_188 => ?_)
                    · have ew : lb (wCells L dn) (G k 0) = true := by
                        cases ew : lb (wCells L dn) (G k 0) with
                        | true => rfl
                        | false => exact absurd (by show b01 (lb (wCells L dn) (G k 0)) = 0; rw [ew]; rfl) c_188
                      rw [if_pos ew] at ihs
                      have Gk : h6 (m (8 + k)) = some (.inr (5, gV (setG G k 0 (nbOf (G k 0) dn)) k)) := M6.c8 hkg
                      refine s_aload hK dX7_pass_194 rfl ?_
                      refine s_iconst hK (v := 0) dX7_pass_196 (by decide) ?_
                      refine s_putfield hK dX7_pass_197 kF_X7_74 Gk rfl rfl rfl ?_
                      generalize hnb : nbOf (G k 0) dn = nb at *
                      have eg : (gV (setG G k 0 nb) k).set 5 (.int 0) = gV (setG (setG G k 0 nb) k 3 0) k := by
                        unfold gV
                        simp [setG]
                        rfl
                      rw [eg]
                      have M7 := M6.gho1 (G' := setG (setG G k 0 nb) k 3 0) hkg (fun j hj => gV_set hj) (sumT_set (by decide) _)
                      have F7 := F6.tr (sFr.U (n := 8 + S.2.2.2.1) (m := m) (i := 8 + k) (h := h6) (o := .inr (5, gV (setG (setG G k 0 nb) k 3 0) k)) (by omega))
                      generalize gU h6 (m (8 + k)) (.inr (5, gV (setG (setG G k 0 nb) k 3 0) k)) = h7 at M7 F7
                      have M7 : SimAt h7 m (L, am, setG (setG G k 0 nb) k 3 0, S.2.2.2) := M7
                      clear Gk eg
                      have eg0 : setG (setG G k 0 nb) k 3 0 k 0 = nb := by simp [setG]
                      refine s_iconst hK (v := 0) dX7_pass_200 (by decide) ?_
                      refine s_istore hK dX7_pass_201 rfl ?_
                      have blow : ∀ j9 e, e + j9 = 4 → ∀ (h8 : gH), SimAt h8 m (vp_updL L 1 (blX L nb e), am, setG (setG G k 0 nb) k 3 0, S.2.2.2) → sFr m (8 + S.2.2.2.1) h h8 → K 203 [some (.ref (m 0)), some (.int (nI (sumT S.2.2.1 6 S.2.2.2.1))), some (.ref (m 5)), some (.int (nI S.2.2.2.1)), some (.int (nI k)), some (.ref (m (8 + k))), some (.int (nI st)), some (.int (nI dn)), some (.int (b01 (wl L (G k 0) dn))), some (.int (nI e))] [] h8 (bc - 10) (bs - 72) := by
                        intro j9
                        induction j9 with
                        | zero =>
                          intro e he h8 M8 F8
                          obtain rfl : e = 4 := by omega
                          refine s_iload hK dX7_pass_203 rfl ?_
                          refine s_iconst hK (v := 4) dX7_pass_205 (by decide) ?_
                          refine s_icmpge hK dX7_pass_206 272 (by decide) (fun c_206 => ?_) (fun c_206 => ?_)
                          · refine s_iinck hK (v := 1) dX7_pass_272 rfl (by decide) rfl ?_
                            refine s_goto hK dX7_pass_275 109 (by decide) ?_
                            rw [nI_1]
                            refine ihs h8 (bc - 10) (bs - 72) _ _ _ (by omega) (by omega) ?_ F8
                            exact M8.congL (L' := reL (oBlow L nb)) (fun c hc => (blow_lb Vs.1 h9 hc)) (fun i i1 i7 => by
                              show reL (oBlow L nb) i = vp_updL L 1 _ i
                              rw [blow_k i i1 i7]
                              exact (if_neg i1).symm)
                          · exact absurd (Int32.le_refl (nI 4)) c_206
                        | succ j9 ih9 =>
                          intro e he h8 M8 F8
                          have he4 : e < 4 := by omega
                          have Gk : h8 (m (8 + k)) = some (.inr (5, gV (setG (setG G k 0 nb) k 3 0) k)) := M8.c8 hkg
                          have Gx : h8 (m (8 + k)) = some (.inr (5, [.int (nI (nb % 9)), .int (nI (nb / 9)), .int (nI (setG (setG G k 0 nb) k 3 0 k 1)), .int (nI (setG (setG G k 0 nb) k 3 0 k 2 % 9)), .int (nI (setG (setG G k 0 nb) k 3 0 k 2 / 9)), .int (nI (setG (setG G k 0 nb) k 3 0 k 3)), .int (nI (setG (setG G k 0 nb) k 3 0 k 4)), .int (nI (setG (setG G k 0 nb) k 3 0 k 5))])) := by
                            rw [Gk]
                            unfold gV
                            rw [eg0]
                          clear Gk
                          have C0 := M8.c0
                          have after : ∀ (h9 : gH), SimAt h9 m (vp_updL L 1 (blX L nb (e + 1)), am, setG (setG G k 0 nb) k 3 0, S.2.2.2) → sFr m (8 + S.2.2.2.1) h h9 → K 266 [some (.ref (m 0)), some (.int (nI (sumT S.2.2.1 6 S.2.2.2.1))), some (.ref (m 5)), some (.int (nI S.2.2.2.1)), some (.int (nI k)), some (.ref (m (8 + k))), some (.int (nI st)), some (.int (nI dn)), some (.int (b01 (wl L (G k 0) dn))), some (.int (nI e))] [] h9 (bc - 10) (bs - 72) := by
                            intro h9 M9 F9
                            refine s_iinck hK (v := 1) dX7_pass_266 rfl (by decide) rfl ?_
                            refine s_goto hK dX7_pass_269 203 (by decide) ?_
                            rw [nI_1]
                            exact ih9 (e + 1) (by omega) h9 M9 F9
                          refine s_iload hK dX7_pass_203 rfl ?_
                          refine s_iconst hK (v := 4) dX7_pass_205 (by decide) ?_
                          refine s_icmpge hK dX7_pass_206 272 (by decide) (fun c_206 => ?_) (fun c_206 => ?_)
                          · exact absurd c_206 (nI_ge (b := 4) (by omega) (by omega))
                          · refine s_aload hK dX7_pass_209 rfl ?_
                            refine s_getfield hK dX7_pass_211 kF_X7_68 (by assumption) (by rfl) ?_
                            refine s_iload hK dX7_pass_214 rfl ?_
                            refine s_S10 hK dX7_pass_216 kS_X7_49 (by rfl) ?_
                            refine c_goX _ he4 ?_
                            refine s_iadd hK dX7_pass_219 ?_
                            refine s_aload hK dX7_pass_220 rfl ?_
                            refine s_getfield hK dX7_pass_222 kF_X7_71 (by assumption) (by rfl) ?_
                            refine s_iload hK dX7_pass_225 rfl ?_
                            refine s_S10 hK dX7_pass_227 kS_X7_53 (by rfl) ?_
                            refine c_goY _ he4 ?_
                            refine s_iadd hK dX7_pass_230 ?_
                            refine s_S20 hK dX7_pass_231 kS_X7_56 (by rfl) ?_
                            refine c_isInS _ ?_
                            rw [nbok h9 he4]
                            cases eo : nbOk nb e with
                            | false =>
                              refine s_ifeq hK dX7_pass_234 266 (by decide) (fun c_234 => ?_) (fun c_234 => ?_)
                              · refine after h8 ?_ F8
                                have ebl : blX L nb (e + 1) = blX L nb e := by
                                  show (if nbOk nb e then _ else _) = _
                                  rw [eo]
                                  rfl
                                rw [ebl]
                                exact M8
                              · exact absurd rfl c_234
                            | true =>
                              have h10 := nb_lt h9 he4 eo
                              obtain ⟨gx, gy⟩ := nbxy h9 he4 eo
                              have cx' : nbOf nb e % 9 < 9 := Nat.mod_lt _ (by omega)
                              have cy' : nbOf nb e / 9 < 7 := by omega
                              have ec' : 9 * (nbOf nb e / 9) + nbOf nb e % 9 = nbOf nb e := by omega
                              have B := M8.c4
                              obtain ⟨f4, y1, y2⟩ := B.2 _ cx'
                              refine s_ifeq hK dX7_pass_234 266 (by decide) (fun c_234 => ?_) (fun c_234 => ?_)
                              · exact absurd c_234 (by decide)
                              · refine s_aload_n hK dX7_pass_237 rfl ?_
                                refine s_getfield hK dX7_pass_238 kF_X7_24 (by assumption) (by rfl) ?_
                                refine s_aload hK dX7_pass_241 rfl ?_
                                refine s_getfield hK dX7_pass_243 kF_X7_68 (by assumption) (by rfl) ?_
                                refine s_iload hK dX7_pass_246 rfl ?_
                                refine s_S10 hK dX7_pass_248 kS_X7_49 (by rfl) ?_
                                refine c_goX _ he4 ?_
                                refine s_iadd hK dX7_pass_251 ?_
                                rw [gx]
                                refine s_aaload hK dX7_pass_252 B.1 rfl cx' (by omega) (if_pos cx') ?_
                                refine s_aload hK dX7_pass_253 rfl ?_
                                refine s_getfield hK dX7_pass_255 kF_X7_71 (by assumption) (by rfl) ?_
                                refine s_iload hK dX7_pass_258 rfl ?_
                                refine s_S10 hK dX7_pass_260 kS_X7_53 (by rfl) ?_
                                refine c_goY _ he4 ?_
                                refine s_iadd hK dX7_pass_263 ?_
                                rw [gy]
                                refine s_iconst hK (v := 0) dX7_pass_264 (by decide) ?_
                                refine s_bastoreN hK dX7_pass_265 y1 cy' (by omega) ?_
                                obtain ⟨M9, F9⟩ := M8.burn (v := 0) cx' cy' false rfl y1 (L' := vp_updL L 1 (blX L nb (e + 1))) (fun c hc => by
                                  show lb (blX L nb (e + 1)) c = if c = _ then false else lb (blX L nb e) c
                                  rw [blX_suc h9 he4 hc, eo, ec']
                                  by_cases q : c = nbOf nb e
                                  · rw [if_pos q, decide_eq_true q.symm]
                                    simp
                                  · rw [if_neg q, decide_eq_false (fun z => q z.symm)]
                                    simp) (fun i i1 i7 => (if_neg i1).trans (if_neg i1).symm)
                                exact after _ M9 (F8.tr (sFr.blk (i := 4) (by omega) F9))
                      exact blow 4 0 (by omega) h7 (M7.congL (L' := vp_updL L 1 (blX L nb 0)) (fun c hc => rfl) (fun i i1 i7 => if_neg i1)) F7
                    · have ew : lb (wCells L dn) (G k 0) = false := (b01_0 _).mp c_188
                      rw [if_neg (by rw [ew]; decide)] at ihs
                      refine s_goto hK dX7_pass_191 272 (by decide) ?_
                      refine s_iinck hK (v := 1) dX7_pass_272 rfl (by decide) rfl ?_
                      refine s_goto hK dX7_pass_275 109 (by decide) ?_
                      rw [nI_1]
                      exact ihs h6 (bc - 10) (bs - 72) _ _ _ (by omega) (by omega) M6 F6
                  · exact absurd (nI_pos' (by omega)) c_129
          exact steps pc9 0 (by omega) h3 bc bs _ _ _ (by omega) (by omega) M3 F3
    exact loopG S.2.2.2.1 0 (by omega) h1 bc bs _ _ _ _ _ (by omega) (by omega) M1 F1
  -- the candles burn down
  have C0 := M.c0
  refine s_aload_n hK dX7_pass_0 rfl ?_
  refine s_getfield hK dX7_pass_1 kF_X7_88 (by assumption) (by rfl) ?_
  refine s_istore_n hK dX7_pass_4 rfl ?_
  refine s_iconst hK (v := 0) dX7_pass_5 (by decide) ?_
  refine s_istore_n hK dX7_pass_6 rfl ?_
  have FC : ∀ {h1 : gH}, (∀ p, ¬ inB m 3 p → ¬ inB m 4 p → h1 p = h p) → h1 (m 0) = some (.inr (6, smF m S)) := fun {h1} F => (F _ (M.2.out (i := 0) (by omega) (by omega) (by decide) ⟨Nat.le_refl _, by show _ < _ + 1; omega⟩) (M.2.out (i := 0) (by omega) (by omega) (by decide) ⟨Nat.le_refl _, by show _ < _ + 1; omega⟩)).trans C0
  have loopX : ∀ k x, x + k = 9 → ∀ (h1 : gH) w3, I2 h1 (m 3) (amq S (7 * x)) → Z2 h1 (m 4) (buq S (7 * x)) → (∀ p, ¬ inB m 3 p → ¬ inB m 4 p → h1 p = h p) → K 7 [some (.ref (m 0)), some (.int (nI (sumT S.2.2.1 6 S.2.2.2.1))), some (.int (nI x)), w3, none, none, none, none, none, none] [] h1 mc ms := by
    intro k
    induction k with
    | zero =>
      intro x hx h1 w3 A1 B1 F1
      obtain rfl : x = 9 := by omega
      refine s_iload_n hK dX7_pass_7 rfl ?_
      refine s_bipush hK (v := 9) dX7_pass_8 (by decide) ?_
      refine s_icmpge hK dX7_pass_10 83 (by decide) (fun c_10 => ?_) (fun c_10 => ?_)
      · obtain ⟨b1, b2⟩ := bdN_at S.1 S.2.1 63 (Nat.le_refl _)
        refine phase2 h1 mc ms _ _ _ _ _ _ _ _ (by omega) (by omega) ?_ (fun p hp _ => F1 p (fun z => hp ⟨3, by omega, z⟩) (fun z => hp ⟨4, by omega, z⟩))
        rw [hs0, ham]
        show SimAt h1 m (reL (bdN S.1 S.2.1 63).1, (bdN S.1 S.2.1 63).2, S.2.2)
        have M1 : SimAt h1 m ((bdN S.1 S.2.1 63).1, (bdN S.1 S.2.1 63).2, S.2.2) := by
          refine ⟨fun i hi => ?_, M.2⟩
          by_cases e3 : i = 3
          · subst e3
            refine I2.cong A1 (fun c hc => ?_)
            have q := q7_lt hc
            show amq S 63 c = (bdN S.1 S.2.1 63).2 c
            rw [b2 c]
            unfold amq
            by_cases e : lb (S.1 1) c = true
            · rw [if_pos ⟨q, e⟩, if_pos ⟨hc, e⟩]
            · rw [if_neg (fun z => e z.2), if_neg (fun z => e z.2)]
          · by_cases e4 : i = 4
            · subst e4
              refine Z2.cong B1 (fun c hc => ?_)
              have q := q7_lt hc
              show buq S 63 c = lb ((bdN S.1 S.2.1 63).1 1) c
              rw [b1 c hc]
              unfold buq
              rw [if_pos q, if_pos hc]
            · have C := (M.1 i hi).keep (fun p hp => F1 p (M.2.out hi (j := 3) (by omega) e3 hp) (M.2.out hi (j := 4) (by omega) e4 hp))
              match i, e3, e4, C with
              | 0, _, _, C => exact C
              | 1, _, _, C => exact W3.cong (F := wl S.1) C (fun c d _ hd => wl_of (L := S.1) (L' := (bdN S.1 S.2.1 63).1) (bdN_k (by decide) 63) (bdN_k (by decide) 63) c hd)
              | 2, _, _, C => exact I2.cong (F := fun c => nI (thg S.1 c)) C (fun c _ => by
                  show nI (thg S.1 c) = nI (thg (bdN S.1 S.2.1 63).1 c)
                  rw [thg_of (L := S.1) (L' := (bdN S.1 S.2.1 63).1) (by rw [bdN_k (by decide)]) (by rw [bdN_k (by decide)]) (by rw [bdN_k (by decide)]) (by rw [bdN_k (by decide)])])
              | 3, e3, _, _ => exact absurd rfl e3
              | 4, _, e4, _ => exact absurd rfl e4
              | 5, _, _, C => exact C
              | 6, _, _, C => exact C
              | 7, _, _, C => exact C
              | i + 8, _, _, C => exact C
        exact M1.reL
      · exact absurd (Int32.le_refl (nI 9)) c_10
    | succ k ih =>
      intro x hx h1 w3 A1 B1 F1
      have hx9 : x < 9 := by omega
      refine s_iload_n hK dX7_pass_7 rfl ?_
      refine s_bipush hK (v := 9) dX7_pass_8 (by decide) ?_
      refine s_icmpge hK dX7_pass_10 83 (by decide) (fun c_10 => ?_) (fun c_10 => ?_)
      · exact absurd c_10 (nI_ge (b := 9) (by omega) (by omega))
      · refine s_iconst hK (v := 0) dX7_pass_13 (by decide) ?_
        refine s_istore_n hK dX7_pass_14 rfl ?_
        have loopY : ∀ j y, y + j = 7 → ∀ (h1 : gH), I2 h1 (m 3) (amq S (7 * x + y)) → Z2 h1 (m 4) (buq S (7 * x + y)) → (∀ p, ¬ inB m 3 p → ¬ inB m 4 p → h1 p = h p) → K 15 [some (.ref (m 0)), some (.int (nI (sumT S.2.2.1 6 S.2.2.2.1))), some (.int (nI x)), some (.int (nI y)), none, none, none, none, none, none] [] h1 mc ms := by
          intro j
          induction j with
          | zero =>
            intro y hy h1 A1 B1 F1
            obtain rfl : y = 7 := by omega
            refine s_iload_n hK dX7_pass_15 rfl ?_
            refine s_bipush hK (v := 7) dX7_pass_16 (by decide) ?_
            refine s_icmpge hK dX7_pass_18 77 (by decide) (fun c_18 => ?_) (fun c_18 => ?_)
            · refine s_iinck hK (v := 1) dX7_pass_77 rfl (by decide) rfl ?_
              refine s_goto hK dX7_pass_80 7 (by decide) ?_
              rw [nI_1]
              rw [show 7 * x + 7 = 7 * (x + 1) by omega] at A1 B1
              exact ih (x + 1) (by omega) h1 _ A1 B1 F1
            · exact absurd (Int32.le_refl (nI 7)) c_18
          | succ j ihj =>
            intro y hy h1 A1 B1 F1
            have hy7 : y < 7 := by omega
            have C0 := FC F1
            have eq7 := q7_xy (x := x) (y := y) hx9
            have ebu : buq S (7 * x + y) (9 * y + x) = lb (S.1 1) (9 * y + x) := by
              unfold buq
              rw [if_neg (by omega)]
            have eam : amq S (7 * x + y) (9 * y + x) = S.2.1 (9 * y + x) := by
              unfold amq
              rw [if_neg (by omega)]
            have next : ∀ (h2 : gH), I2 h2 (m 3) (amq S (7 * x + y + 1)) → Z2 h2 (m 4) (buq S (7 * x + y + 1)) → (∀ p, ¬ inB m 3 p → ¬ inB m 4 p → h2 p = h p) → K 71 [some (.ref (m 0)), some (.int (nI (sumT S.2.2.1 6 S.2.2.2.1))), some (.int (nI x)), some (.int (nI y)), none, none, none, none, none, none] [] h2 mc ms := by
              intro h2 A2 B2 F2
              refine s_iinck hK (v := 1) dX7_pass_71 rfl (by decide) rfl ?_
              refine s_goto hK dX7_pass_74 15 (by decide) ?_
              rw [nI_1]
              exact ihj (y + 1) (by omega) h2 A2 B2 F2
            have others : ∀ c, c < 63 → c ≠ 9 * y + x → (q7 c < 7 * x + y ↔ q7 c < 7 * x + y + 1) := fun c hc hne => by
              have := q7_ne hx9 hy7 hc hne
              omega
            obtain ⟨fb, b1, b2⟩ := B1.2 x hx9
            have b3 := b2 y hy7
            rw [ebu] at b3
            obtain ⟨fa, a1, a2⟩ := A1.2 x hx9
            have a3 := a2 y hy7
            rw [eam] at a3
            refine s_iload_n hK dX7_pass_15 rfl ?_
            refine s_bipush hK (v := 7) dX7_pass_16 (by decide) ?_
            refine s_icmpge hK dX7_pass_18 77 (by decide) (fun c_18 => ?_) (fun c_18 => ?_)
            · exact absurd c_18 (nI_ge (b := 7) (by omega) (by omega))
            · refine s_aload_n hK dX7_pass_21 rfl ?_
              refine s_getfield hK dX7_pass_22 kF_X7_24 (by assumption) (by rfl) ?_
              refine s_iload_n hK dX7_pass_25 rfl ?_
              refine s_aaload hK dX7_pass_26 B1.1 rfl hx9 (by omega) (if_pos hx9) ?_
              refine s_iload_n hK dX7_pass_27 rfl ?_
              refine s_baloadN hK dX7_pass_28 b1 hy7 (by omega) ?_
              rw [b3]
              refine s_ifne hK dX7_pass_29 35 (by decide) (fun c_29 => ?_) (fun c_29 => ?_)
              · have eb : lb (S.1 1) (9 * y + x) = true := by
                  cases eb : lb (S.1 1) (9 * y + x) with
                  | true => rfl
                  | false => exact absurd (by rw [eb]; rfl) c_29
                refine s_aload_n hK dX7_pass_35 rfl ?_
                refine s_getfield hK dX7_pass_36 kF_X7_19 (by assumption) (by rfl) ?_
                refine s_iload_n hK dX7_pass_39 rfl ?_
                refine s_aaload hK dX7_pass_40 A1.1 rfl hx9 (by omega) (if_pos hx9) ?_
                refine s_iload_n hK dX7_pass_41 rfl ?_
                refine s_dup2 hK dX7_pass_42 rfl rfl ?_
                refine s_ialoadN hK dX7_pass_43 a1 hy7 (by omega) ?_
                rw [a3]
                refine s_iconst hK (v := 1) dX7_pass_44 (by decide) ?_
                refine s_isub hK dX7_pass_45 ?_
                refine s_iastoreN hK dX7_pass_46 a1 hy7 (by omega) ?_
                have A2 := A1.put hx9 hy7 (S.2.1 (9 * y + x) - 1) a1
                have B3 : inB m 3 (m 3 + 1 + x) := ⟨by omega, by show _ < m 3 + 10; omega⟩
                have B2 : Z2 (gU h1 (m 3 + 1 + x) (.inl (0, 7, .inl (upd fa y (S.2.1 (9 * y + x) - 1))))) (m 4) (buq S (7 * x + y)) := B1.keep (fun p p1 p2 => ne_blk B3 (M.2.out (i := 4) (by omega) (by omega) (by decide) ⟨p1, p2⟩))
                have F2 : ∀ p, ¬ inB m 3 p → ¬ inB m 4 p → gU h1 (m 3 + 1 + x) (.inl (0, 7, .inl (upd fa y (S.2.1 (9 * y + x) - 1)))) p = h p := fun p p3 p4 => (ne_blk B3 p3).trans (F1 p p3 p4)
                generalize gU h1 (m 3 + 1 + x) (.inl (0, 7, .inl (upd fa y (S.2.1 (9 * y + x) - 1)))) = h2 at A2 B2 F2
                clear C0 a1 a2 a3 b1 b2 b3
                have C0 := FC F2
                obtain ⟨fb, b1, b2⟩ := B2.2 x hx9
                obtain ⟨fa, a1, a2⟩ := A2.2 x hx9
                have a3 : fa y = S.2.1 (9 * y + x) - 1 := (a2 y hy7).trans (if_pos rfl)
                have done : ∀ v, v = b01 (decide (0 < S.2.1 (9 * y + x) - 1)) → K 70 [some (.ref (m 0)), some (.int (nI (sumT S.2.2.1 6 S.2.2.2.1))), some (.int (nI x)), some (.int (nI y)), none, none, none, none, none, none] [.int v, .int (nI y), .ref (m 4 + 1 + x)] h2 mc ms := by
                  intro v hv
                  refine s_bastoreN hK dX7_pass_70 b1 hy7 (by omega) ?_
                  have B5 := B2.put hx9 hy7 _ hv b1
                  have B4 : inB m 4 (m 4 + 1 + x) := ⟨by omega, by show _ < m 4 + 10; omega⟩
                  refine next _ (I2.cong (I2.keep A2 (fun p p1 p2 => ne_blk B4 (M.2.out (i := 3) (by omega) (by omega) (by decide) ⟨p1, p2⟩))) (fun c hc => ?_)) (Z2.cong B5 (fun c hc => ?_)) (fun p p3 p4 => (ne_blk B4 p4).trans (F2 p p3 p4))
                  · show (if c = 9 * y + x then _ else amq S (7 * x + y) c) = amq S (7 * x + y + 1) c
                    by_cases q : c = 9 * y + x
                    · rw [if_pos q]
                      unfold amq
                      rw [q, if_pos ⟨by omega, eb⟩]
                    · rw [if_neg q]
                      unfold amq
                      by_cases q2 : q7 c < 7 * x + y ∧ lb (S.1 1) c = true
                      · rw [if_pos q2, if_pos ⟨(others c hc q).mp q2.1, q2.2⟩]
                      · rw [if_neg q2, if_neg (fun z => q2 ⟨(others c hc q).mpr z.1, z.2⟩)]
                  · show (if c = 9 * y + x then _ else buq S (7 * x + y) c) = buq S (7 * x + y + 1) c
                    by_cases q : c = 9 * y + x
                    · rw [if_pos q]
                      unfold buq
                      rw [q, if_pos (by omega), eb]
                      rfl
                    · rw [if_neg q]
                      unfold buq
                      by_cases q2 : q7 c < 7 * x + y
                      · rw [if_pos q2, if_pos ((others c hc q).mp q2)]
                      · rw [if_neg q2, if_neg (fun z => q2 ((others c hc q).mpr z))]
                refine s_aload_n hK dX7_pass_47 rfl ?_
                refine s_getfield hK dX7_pass_48 kF_X7_24 (by assumption) (by rfl) ?_
                refine s_iload_n hK dX7_pass_51 rfl ?_
                refine s_aaload hK dX7_pass_52 B2.1 rfl hx9 (by omega) (if_pos hx9) ?_
                refine s_iload_n hK dX7_pass_53 rfl ?_
                refine s_aload_n hK dX7_pass_54 rfl ?_
                refine s_getfield hK dX7_pass_55 kF_X7_19 (by assumption) (by rfl) ?_
                refine s_iload_n hK dX7_pass_58 rfl ?_
                refine s_aaload hK dX7_pass_59 A2.1 rfl hx9 (by omega) (if_pos hx9) ?_
                refine s_iload_n hK dX7_pass_60 rfl ?_
                refine s_ialoadN hK dX7_pass_61 a1 hy7 (by omega) ?_
                rw [a3]
                refine s_ifle hK dX7_pass_62 69 (by decide) (fun c_62 => ?_) (fun c_62 => ?_)
                · refine s_iconst hK (v := 0) dX7_pass_69 (by decide) ?_
                  exact done 0 (by rw [decide_eq_false (Int32.not_lt.mpr c_62)]; rfl)
                · refine s_iconst hK (v := 1) dX7_pass_65 (by decide) ?_
                  refine s_goto hK dX7_pass_66 70 (by decide) ?_
                  exact done 1 (by rw [decide_eq_true (Int32.not_le.mp c_62)]; rfl)
              · have eb := (b01_0 _).mp c_29
                refine s_goto hK dX7_pass_32 71 (by decide) ?_
                refine next h1 (I2.cong A1 (fun c hc => ?_)) (Z2.cong B1 (fun c hc => ?_)) F1
                · unfold amq
                  by_cases q : c = 9 * y + x
                  · rw [q, eb, if_neg (fun z => by cases z.2), if_neg (fun z => by cases z.2)]
                  · by_cases q2 : q7 c < 7 * x + y ∧ lb (S.1 1) c = true
                    · rw [if_pos q2, if_pos ⟨(others c hc q).mp q2.1, q2.2⟩]
                    · rw [if_neg q2, if_neg (fun z => q2 ⟨(others c hc q).mpr z.1, z.2⟩)]
                · unfold buq
                  by_cases q : c = 9 * y + x
                  · rw [q, if_neg (by omega), if_pos (by omega), eb]
                    rfl
                  · by_cases q2 : q7 c < 7 * x + y
                    · rw [if_pos q2, if_pos ((others c hc q).mp q2)]
                    · rw [if_neg q2, if_neg (fun z => q2 ((others c hc q).mpr z))]
        exact loopY 7 0 (by omega) h1 A1 B1 F1
  exact loopX 9 0 (by omega) h _ (M.c3.cong (fun c _ => by unfold amq; rw [if_neg (fun z => Nat.not_lt_zero _ z.1)])) (M.c4.cong (fun c _ => by unfold buq; rw [if_neg (Nat.not_lt_zero _)])) (fun _ _ _ => rfl)
