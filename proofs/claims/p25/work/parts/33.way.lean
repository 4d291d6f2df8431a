/-! the law's own house: way -/
def wI (v : Int32) : Int32 := if v = -1 then 1000 else v
theorem wI_n {k : Nat} (h : k < 1000) : wI (nI k) = nI k := if_neg (nI_m1 (by omega))
def faF (ds : Nat → Bool) (vN : Nat → Nat) (j : Nat) : Int32 := if ds j then nI (vN j) else 1000
theorem q7_I : ∀ c : Fin 63, (0 : Int32) + 7 * nI (c.val % 9) + nI (c.val / 9) = nI (q7 c.val) ∧ (63 : Int32) + 7 * nI (c.val % 9) + nI (c.val / 9) = nI (63 + q7 c.val) := by decide +kernel
theorem sT_I : ∀ c : Fin 63, ∀ p : Fin 2, (63 : Int32) * nI p.val + 7 * nI (c.val % 9) + nI (c.val / 9) = nI (63 * p.val + q7 c.val) := by decide +kernel
theorem rw_I : ∀ s : Fin 126, nI s.val / 63 = nI (s.val / 63) ∧ (nI s.val - nI s.val / 63 * 63) / 7 = nI (cl7 (s.val % 63) % 9) ∧ nI s.val - nI s.val / 7 * 7 = nI (cl7 (s.val % 63) / 9) := by decide +kernel
theorem SimAt.scr {h h1 : gH} {m : Nat → Nat} {S : CS} (M : SimAt h m S) (F : ∀ p, p ≠ m 6 → p ≠ m 7 → h1 p = h p) (h6 : ∃ f : Nat → Int32, h1 (m 6) = some (.inl (0, 126, .inl f))) (h7 : ∃ f : Nat → Int32, h1 (m 7) = some (.inl (0, 126, .inl f))) : SimAt h1 m S := by
  refine ⟨fun i hi => ?_, M.2⟩
  by_cases e6 : i = 6
  · subst e6; exact h6
  · by_cases e7 : i = 7
    · subst e7; exact h7
    · refine Cmp.keep (M.1 i hi) (fun p hp => F p (fun z => ?_) (fun z => ?_))
      · exact M.2.out hi (j := 6) (by omega) e6 hp ⟨by omega, by show _ < _ + 1; omega⟩
      · exact M.2.out hi (j := 7) (by omega) e7 hp ⟨by omega, by show _ < _ + 1; omega⟩
theorem SimAt.n67 {h : gH} {m : Nat → Nat} {S : CS} (M : SimAt h m S) {i : Nat} (hi : i < 8 + S.2.2.2.1) (e6 : i ≠ 6) (e7 : i ≠ 7) : m i ≠ m 6 ∧ m i ≠ m 7 := by
  have B : inB m i (m i) := ⟨Nat.le_refl _, by unfold bk; split <;> omega⟩
  exact ⟨fun z => M.2.out hi (j := 6) (by omega) e6 B ⟨by omega, by show _ < _ + 1; omega⟩, fun z => M.2.out hi (j := 7) (by omega) e7 B ⟨by omega, by show _ < _ + 1; omega⟩⟩
theorem sD_i {m : Nat → Nat} {n i : Nat} (hi : i < n) : sD m n (m i) := ⟨i, hi, Nat.le_refl _, by unfold bk; split <;> omega⟩
theorem bool_f {b : Bool} (h : ¬ b = true) : b = false := by cases b with | false => rfl | true => exact absurd rfl h
set_option maxHeartbeats 1000000 in
set_option maxRecDepth 10000 in
theorem c_way7 (d : Nat) {m : Nat → Nat} {S : CS} {q fr go : Nat} {lt : Nat → Bool} {mp : Bool} (hfr : fr < 63) (hgo : go < 63) {h : gH} (M : SimAt h m S) (Z : Z2 h q lt) (hq : ∀ p, oB q p → ¬ sD m (8 + S.2.2.2.1) p) {mc ms : Nat} {Post : Option Value → gH → Prop} {X : String → gH → Prop} (hp : ∀ v h', IsD (fun n => wF S.1 lt go mp n fr) v → SimAt h' m S → (∀ p, p ≠ m 6 → p ≠ m 7 → h' p = h p) → Post (some (.int (wI v))) h') : gSafe (d + 2) mX7_way [.ref (m 0), .ref q, .int (nI (fr % 9)), .int (nI (fr / 9)), .int (b01 mp), .int (nI (go % 9)), .int (nI (go / 9))] h mc ms Post X := by
  have hF := fun n => fG_F (L := S.1) (lt := lt) hgo hfr mp n
  have M0 := M.c0
  obtain ⟨f6, e6⟩ := M.c6
  obtain ⟨f7, e7⟩ := M.c7
  have n67 : m 6 ≠ m 7 := fun z => M.2.out (i := 6) (j := 7) (by omega) (by omega) (by decide) ⟨Nat.le_refl _, by show _ < _ + 1; omega⟩ ⟨by omega, by show _ < _ + 1; omega⟩
  refine ⟨Nat.le_of_ble_eq_true rfl, fun K hK => ?_⟩
  show K 0 [some (.ref (m 0)), some (.ref q), some (.int (nI (fr % 9))), some (.int (nI (fr / 9))), some (.int (b01 mp)), some (.int (nI (go % 9))), some (.int (nI (go / 9))), none, none, none, none, none, none, none, none, none] [] _ _ _
  have far0 : fr ≠ go → K 14 [some (.ref (m 0)), some (.ref q), some (.int (nI (fr % 9))), some (.int (nI (fr / 9))), some (.int (b01 mp)), some (.int (nI (go % 9))), some (.int (nI (go / 9))), none, none, none, none, none, none, none, none, none] [] h mc ms := by
    intro hne
    have ZK : ∀ {h1 : gH}, (∀ p, p ≠ m 6 → p ≠ m 7 → h1 p = h p) → Z2 h1 q lt := fun {h1} F => Z.keep (fun p p1 p2 => F p (fun z => hq p ⟨p1, p2⟩ (by rw [z]; exact sD_i (by omega))) (fun z => hq p ⟨p1, p2⟩ (by rw [z]; exact sD_i (by omega))))
    have hs0 : st0 fr mp < 126 := by
      have := q7_lt hfr
      unfold st0
      split <;> omega
    have sm0 : cl7 (st0 fr mp % 63) = fr := by
      have := q7_lt hfr
      unfold st0
      split
      · rw [show (0 + q7 fr) % 63 = q7 fr by omega]; exact cl_q7 hfr
      · rw [show (63 + q7 fr) % 63 = q7 fr by omega]; exact cl_q7 hfr
    -- the search
    have main : ∀ (ds0 : Nat → Bool) (vN0 rN0 : Nat → Nat) (h1 : gH) (WV : Option Value), fI (sOk S.1 lt) (sTo S.1) (st0 fr mp) (fun s => decide (s % 63 = q7 go)) ds0 vN0 rN0 0 1 → (∃ f, h1 (m 6) = some (.inl (0, 126, .inl f)) ∧ ∀ j, j < 126 → f j = faF ds0 vN0 j) → (∃ g, h1 (m 7) = some (.inl (0, 126, .inl g)) ∧ ∀ i, i < 1 → g i = nI (rN0 i)) → (∀ p, p ≠ m 6 → p ≠ m 7 → h1 p = h p) → K 82 [some (.ref (m 0)), some (.ref q), some (.int (nI (fr % 9))), some (.int (nI (fr / 9))), some (.int (b01 mp)), some (.int (nI (go % 9))), some (.int (nI (go / 9))), some (.int (nI 1)), some (.int (nI 0)), none, none, none, none, none, none, none] [] h1 mc ms := by
      intro ds0 vN0 rN0 h1 WV J0 X6 X7 F1
      have loop : ∀ mm : Nat, ∀ (ds : Nat → Bool) (vN rN : Nat → Nat) (k n : Nat) (h1 : gH) w9 w10 w11 w12 w13 w14 w15, k + mm = 127 → fI (sOk S.1 lt) (sTo S.1) (st0 fr mp) (fun s => decide (s % 63 = q7 go)) ds vN rN k n → (∃ f, h1 (m 6) = some (.inl (0, 126, .inl f)) ∧ ∀ j, j < 126 → f j = faF ds vN j) → (∃ g, h1 (m 7) = some (.inl (0, 126, .inl g)) ∧ ∀ i, i < n → g i = nI (rN i)) → (∀ p, p ≠ m 6 → p ≠ m 7 → h1 p = h p) → K 82 [some (.ref (m 0)), some (.ref q), some (.int (nI (fr % 9))), some (.int (nI (fr / 9))), some (.int (b01 mp)), some (.int (nI (go % 9))), some (.int (nI (go / 9))), some (.int (nI n)), some (.int (nI k)), w9, w10, w11, w12, w13, w14, w15] [] h1 mc ms := by
        intro mm
        induction mm with
        | zero =>
          intro ds vN rN k n h1 w9 w10 w11 w12 w13 w14 w15 hm J X6 X7 F1
          have := J.1
          have := J.2.1
          have := cnt_le ds 126
          omega
        | succ mm ih =>
          intro ds vN rN k n h1 w9 w10 w11 w12 w13 w14 w15 hm J X6 X7 F1
          have hkn := J.1
          have hn126 : n ≤ 126 := by
            have := J.2.1
            have := cnt_le ds 126
            omega
          refine s_iload hK dX7_way_82 rfl ?_
          refine s_iload hK dX7_way_84 rfl ?_
          refine s_icmpge hK dX7_way_86 322 (by decide) (fun c_86 => ?_) (fun c_86 => ?_)
          · have ek : k = n := by
              have := (nI_leI (by omega) (by omega)).mp c_86
              omega
            subst ek
            obtain ⟨g6, x6, -⟩ := X6
            obtain ⟨g7, x7, -⟩ := X7
            refine s_sipush hK (v := 1000) dX7_way_322 (by decide) ?_
            refine s_ireturn hK dX7_way_325 rfl (by first | rfl | exact b01_nar _) ?_
            have r := hp (-1) h1 (Or.inr ⟨rfl, fun w => bool_f (fun z => ?_)⟩) (M.scr F1 ⟨_, x6⟩ ⟨_, x7⟩) F1
            · exact r
            · obtain ⟨s, s1, s2, s3⟩ := (hF w).mp z
              have hd := fI_all (fun t e ht he hok => sTo_lt ht he hok) J w s s3 s1
              have := J.2.2.2.2.2.2.2.2 s s1 hd
              exact absurd s2 (of_decide_eq_false this)
          · have hk : k < n := (nI_ltI (by omega) (by omega)).mp (Int32.not_le.mp c_86)
            obtain ⟨hs, hds⟩ := J.2.2.1 k hk
            obtain ⟨g7, x7, y7⟩ := X7
            have C0 : h1 (m 0) = some (.inr (6, smF m S)) := by
              obtain ⟨a, b⟩ := M.n67 (i := 0) (by omega) (by decide) (by decide)
              rw [F1 _ a b]; exact M0
            obtain ⟨r1, r2, r3⟩ := rw_I ⟨rN k, hs⟩
            have r1 : nI (rN k) / 63 = nI (rN k / 63) := r1
            have r2 : (nI (rN k) - nI (rN k) / 63 * 63) / 7 = nI (cl7 (rN k % 63) % 9) := r2
            have r3 : nI (rN k) - nI (rN k) / 7 * 7 = nI (cl7 (rN k % 63) / 9) := r3
            refine s_aload_n hK dX7_way_89 rfl ?_
            refine s_getfield hK dX7_way_90 kF_X7_37 (by first | assumption | exact H.1 | exact H.2.1) (by rfl) ?_
            refine s_iload hK dX7_way_93 rfl ?_
            refine s_ialoadN hK dX7_way_95 x7 (show k < 126 by omega) (by omega) ?_
            rw [y7 k hk]
            refine s_bipush hK (v := 63) dX7_way_96 (by decide) ?_
            refine s_idiv hK dX7_way_98 (by decide) ?_
            rw [r1]
            refine s_istore hK dX7_way_99 rfl ?_
            refine s_aload_n hK dX7_way_101 rfl ?_
            refine s_getfield hK dX7_way_102 kF_X7_37 (by first | assumption | exact H.1 | exact H.2.1) (by rfl) ?_
            refine s_iload hK dX7_way_105 rfl ?_
            refine s_ialoadN hK dX7_way_107 x7 (show k < 126 by omega) (by omega) ?_
            rw [y7 k hk]
            refine s_bipush hK (v := 63) dX7_way_108 (by decide) ?_
            refine s_irem hK dX7_way_110 (by decide) ?_
            refine s_bipush hK (v := 7) dX7_way_111 (by decide) ?_
            refine s_idiv hK dX7_way_113 (by decide) ?_
            rw [r2]
            refine s_istore hK dX7_way_114 rfl ?_
            refine s_aload_n hK dX7_way_116 rfl ?_
            refine s_getfield hK dX7_way_117 kF_X7_37 (by first | assumption | exact H.1 | exact H.2.1) (by rfl) ?_
            refine s_iload hK dX7_way_120 rfl ?_
            refine s_ialoadN hK dX7_way_122 x7 (show k < 126 by omega) (by omega) ?_
            rw [y7 k hk]
            refine s_bipush hK (v := 7) dX7_way_123 (by decide) ?_
            refine s_irem hK dX7_way_125 (by decide) ?_
            rw [r3]
            refine s_istore hK dX7_way_126 rfl ?_
            refine s_iconst hK (v := 0) dX7_way_128 (by decide) ?_
            refine s_istore hK dX7_way_129 rfl ?_
            have hcc : cl7 (rN k % 63) < 63 := cl7_lt (Nat.mod_lt _ (by omega))
            have hpp : rN k / 63 ≤ 1 := by omega
            -- the four directions
            have dirs : ∀ jj e, e + jj = 4 → ∀ (ds : Nat → Bool) (vN rN' : Nat → Nat) (n : Nat) (h1 : gH) w13 w14 w15, rN' k = rN k → k < n → fI (sOk S.1 lt) (sTo S.1) (st0 fr mp) (fun s => decide (s % 63 = q7 go)) ds vN rN' k n → (∀ e', e' < e → sOk S.1 lt (rN k) e' = true → ds (sTo S.1 (rN k) e') = true) → (∃ f, h1 (m 6) = some (.inl (0, 126, .inl f)) ∧ ∀ j, j < 126 → f j = faF ds vN j) → (∃ g, h1 (m 7) = some (.inl (0, 126, .inl g)) ∧ ∀ i, i < n → g i = nI (rN' i)) → (∀ p, p ≠ m 6 → p ≠ m 7 → h1 p = h p) → K 131 [some (.ref (m 0)), some (.ref q), some (.int (nI (fr % 9))), some (.int (nI (fr / 9))), some (.int (b01 mp)), some (.int (nI (go % 9))), some (.int (nI (go / 9))), some (.int (nI n)), some (.int (nI k)), some (.int (nI (rN k / 63))), some (.int (nI (cl7 (rN k % 63) % 9))), some (.int (nI (cl7 (rN k % 63) / 9))), some (.int (nI e)), w13, w14, w15] [] h1 mc ms := by
              intro jj
              induction jj with
              | zero =>
                intro e he ds vN rN' n h1 w13 w14 w15 hrk hk J hx X6 X7 F1
                obtain rfl : e = 4 := by omega
                refine s_iload hK dX7_way_131 rfl ?_
                refine s_iconst hK (v := 4) dX7_way_133 (by decide) ?_
                refine s_icmpge hK dX7_way_134 316 (by decide) (fun c_134 => ?_) (fun c_134 => ?_)
                · refine s_iinck hK (v := 1) dX7_way_316 rfl (by decide) rfl ?_
                  refine s_goto hK dX7_way_319 82 (by decide) ?_
                  rw [nI_1]
                  exact ih ds vN rN' (k + 1) n h1 _ _ _ _ _ _ _ (by omega) (fI_next J hk (fun e' he' => by rw [hrk]; exact hx e' he')) X6 X7 F1
                · exact absurd (Int32.le_refl (nI 4)) c_134
              | succ jj ihe =>
                intro e he ds vN rN' n h1 w13 w14 w15 hrk hk J hx X6 X7 F1
                have he4 : e < 4 := by omega
                have hn126 : n ≤ 126 := by
                  have := J.2.1
                  have := cnt_le ds 126
                  omega
                have hds : ds (rN k) = true := by rw [← hrk]; exact (J.2.2.1 k hk).2
                refine s_iload hK dX7_way_131 rfl ?_
                refine s_iconst hK (v := 4) dX7_way_133 (by decide) ?_
                refine s_icmpge hK dX7_way_134 316 (by decide) (fun c_134 => ?_) (fun c_134 => ?_)
                · exact absurd c_134 (nI_ge (b := 4) (by omega) (by omega))
                · have skip : ∀ (ds : Nat → Bool) (vN rN' : Nat → Nat) (n : Nat) (h1 : gH) w13 w14 w15, rN' k = rN k → k < n → fI (sOk S.1 lt) (sTo S.1) (st0 fr mp) (fun s => decide (s % 63 = q7 go)) ds vN rN' k n → (∀ e', e' < e → sOk S.1 lt (rN k) e' = true → ds (sTo S.1 (rN k) e') = true) → (sOk S.1 lt (rN k) e = true → ds (sTo S.1 (rN k) e) = true) → (∃ f, h1 (m 6) = some (.inl (0, 126, .inl f)) ∧ ∀ j, j < 126 → f j = faF ds vN j) → (∃ g, h1 (m 7) = some (.inl (0, 126, .inl g)) ∧ ∀ i, i < n → g i = nI (rN' i)) → (∀ p, p ≠ m 6 → p ≠ m 7 → h1 p = h p) → K 310 [some (.ref (m 0)), some (.ref q), some (.int (nI (fr % 9))), some (.int (nI (fr / 9))), some (.int (b01 mp)), some (.int (nI (go % 9))), some (.int (nI (go / 9))), some (.int (nI n)), some (.int (nI k)), some (.int (nI (rN k / 63))), some (.int (nI (cl7 (rN k % 63) % 9))), some (.int (nI (cl7 (rN k % 63) / 9))), some (.int (nI e)), w13, w14, w15] [] h1 mc ms := by
                    intro ds vN rN' n h1 w13 w14 w15 hrk hk J hx hxe X6 X7 F1
                    refine s_iinck hK (v := 1) dX7_way_310 rfl (by decide) rfl ?_
                    refine s_goto hK dX7_way_313 131 (by decide) ?_
                    rw [nI_1]
                    refine ihe (e + 1) (by omega) ds vN rN' n h1 _ _ _ hrk hk J (fun e' he' hok => ?_) X6 X7 F1
                    by_cases q9 : e' = e
                    · rw [q9] at hok ⊢; exact hxe hok
                    · exact hx e' (by omega) hok
                  have cx : cl7 (rN k % 63) % 9 < 9 := Nat.mod_lt _ (by omega)
                  have cy : cl7 (rN k % 63) / 9 < 7 := by omega
                  have ec : 9 * (cl7 (rN k % 63) / 9) + cl7 (rN k % 63) % 9 = cl7 (rN k % 63) := by omega
                  have C0 : h1 (m 0) = some (.inr (6, smF m S)) := by
                    obtain ⟨a, b⟩ := M.n67 (i := 0) (by omega) (by decide) (by decide)
                    rw [F1 _ a b]; exact M0
                  refine s_iload hK dX7_way_137 rfl ?_
                  refine s_iload hK dX7_way_139 rfl ?_
                  refine s_S10 hK dX7_way_141 kS_X7_49 (by rfl) ?_
                  refine c_goX _ he4 ?_
                  refine s_iadd hK dX7_way_144 ?_
                  refine s_istore hK dX7_way_145 rfl ?_
                  refine s_iload hK dX7_way_147 rfl ?_
                  refine s_iload hK dX7_way_149 rfl ?_
                  refine s_S10 hK dX7_way_151 kS_X7_53 (by rfl) ?_
                  refine c_goY _ he4 ?_
                  refine s_iadd hK dX7_way_154 ?_
                  refine s_istore hK dX7_way_155 rfl ?_
                  refine s_iload hK dX7_way_157 rfl ?_
                  refine s_iload hK dX7_way_159 rfl ?_
                  refine s_S20 hK dX7_way_161 kS_X7_56 (by rfl) ?_
                  refine c_isInS _ ?_
                  rw [nbok hcc he4]
                  cases eo : nbOk (cl7 (rN k % 63)) e with
                  | false =>
                    refine s_ifeq hK dX7_way_164 310 (by decide) (fun c_164 => ?_) (fun c_164 => ?_)
                    · exact skip ds vN rN' n h1 _ _ _ hrk hk J hx (fun hok => by unfold sOk at hok; rw [eo] at hok; cases hok) X6 X7 F1
                    · exact absurd rfl c_164
                  | true =>
                    have h9 := nb_lt hcc he4 eo
                    obtain ⟨gx, gy⟩ := nbxy hcc he4 eo
                    rw [gx, gy]
                    generalize hc' : nbOf (cl7 (rN k % 63)) e = c' at *
                    have cx' : c' % 9 < 9 := Nat.mod_lt _ (by omega)
                    have cy' : c' / 9 < 7 := by omega
                    have ec' : 9 * (c' / 9) + c' % 9 = c' := by omega
                    have Zk := ZK F1
                    obtain ⟨f4, g1, g2⟩ := Zk.2 _ cx'
                    have g3 := g2 _ cy'
                    rw [ec'] at g3
                    refine s_ifeq hK dX7_way_164 310 (by decide) (fun c_164 => ?_) (fun c_164 => ?_)
                    · exact absurd c_164 (by decide)
                    · refine s_aload_n hK dX7_way_167 rfl ?_
                      refine s_iload hK dX7_way_168 rfl ?_
                      refine s_aaload hK dX7_way_170 Zk.1 rfl cx' (by omega) (if_pos cx') ?_
                      refine s_iload hK dX7_way_171 rfl ?_
                      refine s_baloadN hK dX7_way_173 g1 cy' (by omega) ?_
                      rw [g3]
                      cases el : lt c' with
                      | true =>
                        refine s_ifne hK dX7_way_174 310 (by decide) (fun c_174 => ?_) (fun c_174 => ?_)
                        · exact skip ds vN rN' n h1 _ _ _ hrk hk J hx (fun hok => by unfold sOk at hok; rw [eo, hc', el] at hok; cases hok) X6 X7 F1
                        · exact absurd c_174 (by decide)
                      | false =>
                        obtain ⟨g6, x6, y6⟩ := X6
                        obtain ⟨g7, x7, y7⟩ := X7
                        have W : W3 h1 (m 1) (wl S.1) := (M.scr F1 ⟨_, x6⟩ ⟨_, x7⟩).c1
                        have W2 := (W.2 _ cx).1
                        obtain ⟨f1, e1, e2⟩ := (W.2 _ cx).2 _ cy
                        have e3 := e2 e he4
                        rw [ec] at e3
                        refine s_ifne hK dX7_way_174 310 (by decide) (fun c_174 => ?_) (fun c_174 => ?_)
                        · exact absurd rfl c_174
                        · refine s_aload_n hK dX7_way_177 rfl ?_
                          refine s_getfield hK dX7_way_178 kF_X7_9 (by first | assumption | exact H.1 | exact H.2.1) (by rfl) ?_
                          refine s_iload hK dX7_way_181 rfl ?_
                          refine s_aaload hK dX7_way_183 W.1 rfl cx (by omega) (if_pos cx) ?_
                          refine s_iload hK dX7_way_184 rfl ?_
                          refine s_aaload hK dX7_way_186 W2 rfl cy (by omega) (if_pos cy) ?_
                          refine s_iload hK dX7_way_187 rfl ?_
                          refine s_baloadN hK dX7_way_189 e1 he4 (by omega) ?_
                          rw [e3]
                          have at202 : sOk S.1 lt (rN k) e = true → K 202 [some (.ref (m 0)), some (.ref q), some (.int (nI (fr % 9))), some (.int (nI (fr / 9))), some (.int (b01 mp)), some (.int (nI (go % 9))), some (.int (nI (go / 9))), some (.int (nI n)), some (.int (nI k)), some (.int (nI (rN k / 63))), some (.int (nI (cl7 (rN k % 63) % 9))), some (.int (nI (cl7 (rN k % 63) / 9))), some (.int (nI e)), some (.int (nI (c' % 9))), some (.int (nI (c' / 9))), w15] [] h1 mc ms := by
                            intro hok
                            have hto := sTo_lt hs he4 hok
                            have eto : sTo S.1 (rN k) e = (if wl S.1 (cl7 (rN k % 63)) e then 63 else 63 * (rN k / 63)) + q7 c' := by unfold sTo; rw [hc']
                            have hq9 := q7_lt h9
                            have emod : sTo S.1 (rN k) e % 63 = q7 c' := by
                              rw [eto]
                              split <;> omega
                            refine s_aload_n hK dX7_way_202 rfl ?_
                            refine s_getfield hK dX7_way_203 kF_X7_9 (by first | assumption | exact H.1 | exact H.2.1) (by rfl) ?_
                            refine s_iload hK dX7_way_206 rfl ?_
                            refine s_aaload hK dX7_way_208 W.1 rfl cx (by omega) (if_pos cx) ?_
                            refine s_iload hK dX7_way_209 rfl ?_
                            refine s_aaload hK dX7_way_211 W2 rfl cy (by omega) (if_pos cy) ?_
                            refine s_iload hK dX7_way_212 rfl ?_
                            refine s_baloadN hK dX7_way_214 e1 he4 (by omega) ?_
                            rw [e3]
                            have at239 : K 239 [some (.ref (m 0)), some (.ref q), some (.int (nI (fr % 9))), some (.int (nI (fr / 9))), some (.int (b01 mp)), some (.int (nI (go % 9))), some (.int (nI (go / 9))), some (.int (nI n)), some (.int (nI k)), some (.int (nI (rN k / 63))), some (.int (nI (cl7 (rN k % 63) % 9))), some (.int (nI (cl7 (rN k % 63) / 9))), some (.int (nI e)), some (.int (nI (c' % 9))), some (.int (nI (c' / 9))), some (.int (nI (sTo S.1 (rN k) e)))] [] h1 mc ms := by
                              refine s_aload_n hK dX7_way_239 rfl ?_
                              refine s_getfield hK dX7_way_240 kF_X7_33 (by first | assumption | exact H.1 | exact H.2.1) (by rfl) ?_
                              refine s_iload hK dX7_way_243 rfl ?_
                              refine s_ialoadN hK dX7_way_245 x6 hto (by omega) ?_
                              rw [y6 _ hto]
                              refine s_sipush hK (v := 1000) dX7_way_246 (by decide) ?_
                              cases ed : ds (sTo S.1 (rN k) e) with
                              | true =>
                                have hv : vN (sTo S.1 (rN k) e) ≤ n := (J.2.2.2.1 _ hto ed).2.1
                                have ef : faF ds vN (sTo S.1 (rN k) e) = nI (vN (sTo S.1 (rN k) e)) := by unfold faF; rw [ed]; rfl
                                rw [ef]
                                refine s_icmpge hK dX7_way_249 255 (by decide) (fun c_249 => ?_) (fun c_249 => ?_)
                                · exact absurd c_249 (nI_ge (b := 1000) (by omega) (by omega))
                                · refine s_goto hK dX7_way_252 310 (by decide) ?_
                                  exact skip ds vN rN' n h1 _ _ _ hrk hk J hx (fun _ => ed) ⟨_, x6, y6⟩ ⟨_, x7, y7⟩ F1
                              | false =>
                                have ef : faF ds vN (sTo S.1 (rN k) e) = 1000 := by unfold faF; rw [ed]; rfl
                                have hvk : vN (rN k) ≤ n := (J.2.2.2.1 _ hs hds).2.1
                                have efk : g6 (rN k) = nI (vN (rN k)) := by rw [y6 _ hs]; unfold faF; rw [hds]; rfl
                                rw [ef]
                                refine s_icmpge hK dX7_way_249 255 (by decide) (fun c_249 => ?_) (fun c_249 => ?_)
                                · refine s_aload_n hK dX7_way_255 rfl ?_
                                  refine s_getfield hK dX7_way_256 kF_X7_33 (by first | assumption | exact H.1 | exact H.2.1) (by rfl) ?_
                                  refine s_iload hK dX7_way_259 rfl ?_
                                  refine s_aload_n hK dX7_way_261 rfl ?_
                                  refine s_getfield hK dX7_way_262 kF_X7_33 (by first | assumption | exact H.1 | exact H.2.1) (by rfl) ?_
                                  refine s_aload_n hK dX7_way_265 rfl ?_
                                  refine s_getfield hK dX7_way_266 kF_X7_37 (by first | assumption | exact H.1 | exact H.2.1) (by rfl) ?_
                                  refine s_iload hK dX7_way_269 rfl ?_
                                  refine s_ialoadN hK dX7_way_271 x7 (show k < 126 by omega) (by omega) ?_
                                  rw [y7 k hk, hrk]
                                  refine s_ialoadN hK dX7_way_272 x6 hs (by omega) ?_
                                  rw [efk]
                                  refine s_iconst hK (v := 1) dX7_way_273 (by decide) ?_
                                  refine s_iadd hK dX7_way_274 ?_
                                  rw [nI_1]
                                  refine s_iastoreN hK dX7_way_275 x6 hto (by omega) ?_
                                  have y8 : ∀ j, j < 126 → upd g6 (sTo S.1 (rN k) e) (nI (vN (rN k) + 1)) j = faF (fun j => if j = sTo S.1 (rN k) e then true else ds j) (fun j => if j = sTo S.1 (rN k) e then vN (rN k) + 1 else vN j) j := by
                                    intro j hj
                                    unfold faF upd
                                    by_cases qj : j = sTo S.1 (rN k) e
                                    · simp [qj]
                                    · simp only [if_neg qj]
                                      exact y6 j hj
                                  have x8 : gU h1 (m 6) (.inl (0, 126, .inl (upd g6 (sTo S.1 (rN k) e) (nI (vN (rN k) + 1))))) (m 6) = some (.inl (0, 126, .inl (upd g6 (sTo S.1 (rN k) e) (nI (vN (rN k) + 1))))) := gU_eq _ _ _
                                  have x9 : gU h1 (m 6) (.inl (0, 126, .inl (upd g6 (sTo S.1 (rN k) e) (nI (vN (rN k) + 1))))) (m 7) = some (.inl (0, 126, .inl g7)) := (gU_ne (Ne.symm n67)).trans x7
                                  have F2 : ∀ p, p ≠ m 6 → p ≠ m 7 → gU h1 (m 6) (.inl (0, 126, .inl (upd g6 (sTo S.1 (rN k) e) (nI (vN (rN k) + 1))))) p = h p := fun p p6 p7 => (gU_ne p6).trans (F1 p p6 p7)
                                  generalize gU h1 (m 6) (.inl (0, 126, .inl (upd g6 (sTo S.1 (rN k) e) (nI (vN (rN k) + 1))))) = h2 at x8 x9 F2
                                  have C2 : h2 (m 0) = some (.inr (6, smF m S)) := by
                                    obtain ⟨a, b⟩ := M.n67 (i := 0) (by omega) (by decide) (by decide)
                                    rw [F2 _ a b]; exact M0
                                  have hrk2 : (sOk S.1 lt (rN' k) e = true) := by rw [hrk]; exact hok
                                  have put : c' ≠ go → K 298 [some (.ref (m 0)), some (.ref q), some (.int (nI (fr % 9))), some (.int (nI (fr / 9))), some (.int (b01 mp)), some (.int (nI (go % 9))), some (.int (nI (go / 9))), some (.int (nI n)), some (.int (nI k)), some (.int (nI (rN k / 63))), some (.int (nI (cl7 (rN k % 63) % 9))), some (.int (nI (cl7 (rN k % 63) / 9))), some (.int (nI e)), some (.int (nI (c' % 9))), some (.int (nI (c' / 9))), some (.int (nI (sTo S.1 (rN k) e)))] [] h2 mc ms := by
                                    intro hng
                                    have hgl : decide (sTo S.1 (rN k) e % 63 = q7 go) = false := decide_eq_false (fun z => hng (q7_inj h9 hgo (by rw [← emod, z])))
                                    obtain ⟨hn9, J2⟩ := fI_push hs0 J hk he4 hrk2 (p := sTo S.1 (rN k) e) (by rw [hrk]) hto ed hgl
                                    rw [hrk] at J2
                                    refine s_aload_n hK dX7_way_298 rfl ?_
                                    refine s_getfield hK dX7_way_299 kF_X7_37 (by first | assumption | exact H.1 | exact H.2.1) (by rfl) ?_
                                    refine s_iload hK dX7_way_302 rfl ?_
                                    refine s_iload hK dX7_way_304 rfl ?_
                                    refine s_iastoreN hK dX7_way_306 x9 hn9 (by omega) ?_
                                    have x10 : gU h2 (m 7) (.inl (0, 126, .inl (upd g7 n (nI (sTo S.1 (rN k) e))))) (m 6) = _ := (gU_ne n67).trans x8
                                    have F3 : ∀ p, p ≠ m 6 → p ≠ m 7 → gU h2 (m 7) (.inl (0, 126, .inl (upd g7 n (nI (sTo S.1 (rN k) e))))) p = h p := fun p p6 p7 => (gU_ne p7).trans (F2 p p6 p7)
                                    refine s_iinck hK (v := 1) dX7_way_307 rfl (by decide) rfl ?_
                                    rw [nI_1]
                                    refine skip _ _ _ (n + 1) _ _ _ _ ?_ (by omega) J2 (fun e' he' hok' => ?_) (fun _ => if_pos rfl) ⟨_, x10, y8⟩ ⟨_, gU_eq _ _ _, fun i hi => ?_⟩ F3
                                    · show (if k = n then _ else rN' k) = rN k
                                      rw [if_neg (by omega), hrk]
                                    · have := hx e' he' hok'
                                      show (if _ then true else _) = true
                                      rw [this]
                                      split <;> rfl
                                    · show upd g7 n (nI (sTo S.1 (rN k) e)) i = nI (if i = n then sTo S.1 (rN k) e else rN' i)
                                      unfold upd
                                      by_cases qi : i = n
                                      · rw [if_pos qi, if_pos qi]
                                      · rw [if_neg qi, if_neg qi]
                                        exact y7 i (by omega)
                                  refine s_iload hK dX7_way_276 rfl ?_
                                  refine s_iload hK dX7_way_278 rfl ?_
                                  refine s_icmpne hK dX7_way_280 298 (by decide) (fun c_280 => ?_) (fun c_280 => ?_)
                                  · exact put (fun z => c_280 (by rw [z]))
                                  · refine s_iload hK dX7_way_283 rfl ?_
                                    refine s_iload hK dX7_way_285 rfl ?_
                                    refine s_icmpne hK dX7_way_287 298 (by decide) (fun c_287 => ?_) (fun c_287 => ?_)
                                    · exact put (fun z => c_287 (by rw [z]))
                                    · have z1 : c' % 9 = go % 9 := (nI_eq (by omega) (by omega)).mp c_280
                                      have z2 : c' / 9 = go / 9 := (nI_eq (by omega) (by omega)).mp c_287
                                      have z3 : c' = go := by omega
                                      refine s_aload_n hK dX7_way_290 rfl ?_
                                      refine s_getfield hK dX7_way_291 kF_X7_33 (by first | assumption | exact H.1 | exact H.2.1) (by rfl) ?_
                                      refine s_iload hK dX7_way_294 rfl ?_
                                      refine s_ialoadN hK dX7_way_296 x8 hto (by omega) ?_
                                      have ev : upd g6 (sTo S.1 (rN k) e) (nI (vN (rN k) + 1)) (sTo S.1 (rN k) e) = wI (nI (vN (rN k) + 1)) := by
                                        rw [wI_n (by omega)]
                                        exact if_pos rfl
                                      rw [ev]
                                      refine s_ireturn hK dX7_way_297 rfl (by first | rfl | exact b01_nar _) ?_
                                      refine hp _ h2 (Or.inl ⟨vN (rN k) + 1, by omega, rfl, ?_, fun u hu => bool_f (fun z => ?_)⟩) (M.scr F2 ⟨_, x8⟩ ⟨_, x9⟩) F2
                                      · refine (hF _).mpr ⟨sTo S.1 (rN k) e, hto, by rw [emod, z3], fR_edge hs he4 hok ?_⟩
                                        exact (J.2.2.2.1 _ hs hds).2.2.1
                                      · obtain ⟨s, s1, s2, s3⟩ := (hF u).mp z
                                        cases ed2 : ds s with
                                        | true =>
                                          have := J.2.2.2.2.2.2.2.2 s s1 ed2
                                          exact absurd s2 (of_decide_eq_false this)
                                        | false =>
                                          exact fI_far hs0 J hk s1 ed2 u (by rw [hrk]; exact hu) s3
                                · exact absurd (Int32.le_refl 1000) c_249
                            cases ew : wl S.1 (cl7 (rN k % 63)) e with
                            | true =>
                              rw [ew, if_pos rfl] at eto
                              have es := (q7_I ⟨c', h9⟩).2
                              refine s_ifeq hK dX7_way_215 223 (by decide) (fun c_215 => ?_) (fun c_215 => ?_)
                              · exact absurd c_215 (by decide)
                              · refine s_bipush hK (v := 63) dX7_way_218 (by decide) ?_
                                refine s_goto hK dX7_way_220 228 (by decide) ?_
                                refine s_bipush hK (v := 7) dX7_way_228 (by decide) ?_
                                refine s_iload hK dX7_way_230 rfl ?_
                                refine s_imul hK dX7_way_232 ?_
                                refine s_iadd hK dX7_way_233 ?_
                                refine s_iload hK dX7_way_234 rfl ?_
                                refine s_iadd hK dX7_way_236 ?_
                                rw [es, ← eto]
                                refine s_istore hK dX7_way_237 rfl ?_
                                exact at239
                            | false =>
                              rw [ew, if_neg (by decide)] at eto
                              have es := sT_I ⟨c', h9⟩ ⟨rN k / 63, by omega⟩
                              refine s_ifeq hK dX7_way_215 223 (by decide) (fun c_215 => ?_) (fun c_215 => ?_)
                              · refine s_bipush hK (v := 63) dX7_way_223 (by decide) ?_
                                refine s_iload hK dX7_way_225 rfl ?_
                                refine s_imul hK dX7_way_227 ?_
                                refine s_bipush hK (v := 7) dX7_way_228 (by decide) ?_
                                refine s_iload hK dX7_way_230 rfl ?_
                                refine s_imul hK dX7_way_232 ?_
                                refine s_iadd hK dX7_way_233 ?_
                                refine s_iload hK dX7_way_234 rfl ?_
                                refine s_iadd hK dX7_way_236 ?_
                                rw [es, ← eto]
                                refine s_istore hK dX7_way_237 rfl ?_
                                exact at239
                              · exact absurd rfl c_215
                          cases ew : wl S.1 (cl7 (rN k % 63)) e with
                          | false =>
                            refine s_ifeq hK dX7_way_190 202 (by decide) (fun c_190 => ?_) (fun c_190 => ?_)
                            · exact at202 (by unfold sOk; rw [eo, hc', el, ew]; rfl)
                            · exact absurd rfl c_190
                          | true =>
                            refine s_ifeq hK dX7_way_190 202 (by decide) (fun c_190 => ?_) (fun c_190 => ?_)
                            · exact absurd c_190 (by decide)
                            · refine s_iload hK dX7_way_193 rfl ?_
                              refine s_iconst hK (v := 1) dX7_way_195 (by decide) ?_
                              refine s_icmpne hK dX7_way_196 202 (by decide) (fun c_196 => ?_) (fun c_196 => ?_)
                              · refine at202 ?_
                                have n1 : ¬ rN k / 63 = 1 := fun z => c_196 (by rw [z]; rfl)
                                unfold sOk
                                rw [eo, hc', el, ew, decide_eq_false n1]
                                rfl
                              · have n1 : rN k / 63 = 1 := (nI_eq (b := 1) (by omega) (by omega)).mp c_196
                                refine s_goto hK dX7_way_199 310 (by decide) ?_
                                exact skip ds vN rN' n h1 _ _ _ hrk hk J hx (fun hok => by unfold sOk at hok; rw [eo, hc', el, ew, decide_eq_true n1] at hok; cases hok) ⟨_, x6, y6⟩ ⟨_, x7, y7⟩ F1
            exact dirs 4 0 (by omega) ds vN rN n h1 _ _ _ rfl hk J (fun e' he' => absurd he' (Nat.not_lt_zero _)) X6 ⟨_, x7, y7⟩ F1
      exact loop 127 ds0 vN0 rN0 0 1 h1 none none none none none none none (by omega) J0 X6 X7 F1
    refine s_iconst hK (v := 0) dX7_way_14 (by decide) ?_
    refine s_istore hK dX7_way_15 rfl ?_
    have fill : ∀ k i, i + k = 126 → ∀ h1, (∃ f, h1 (m 6) = some (.inl (0, 126, .inl f)) ∧ ∀ j, j < i → f j = 1000) → h1 (m 7) = some (.inl (0, 126, .inl f7)) → (∀ p, p ≠ m 6 → p ≠ m 7 → h1 p = h p) → K 17 [some (.ref (m 0)), some (.ref q), some (.int (nI (fr % 9))), some (.int (nI (fr / 9))), some (.int (b01 mp)), some (.int (nI (go % 9))), some (.int (nI (go / 9))), some (.int (nI i)), none, none, none, none, none, none, none, none] [] h1 mc ms := by
      intro k
      induction k with
      | zero =>
        intro i hi h1 X6 x7 F1
        obtain rfl : i = 126 := by omega
        obtain ⟨g6, x6, y6⟩ := X6
        have C0 : h1 (m 0) = some (.inr (6, smF m S)) := by
          obtain ⟨a, b⟩ := M.n67 (i := 0) (by omega) (by decide) (by decide)
          rw [F1 _ a b]; exact M0
        refine s_iload hK dX7_way_17 rfl ?_
        refine s_bipush hK (v := 126) dX7_way_19 (by decide) ?_
        refine s_icmpge hK dX7_way_21 40 (by decide) (fun c_21 => ?_) (fun c_21 => ?_)
        · have rest : ∀ v : Int32, v + 7 * nI (fr % 9) + nI (fr / 9) = nI (st0 fr mp) → K 56 [some (.ref (m 0)), some (.ref q), some (.int (nI (fr % 9))), some (.int (nI (fr / 9))), some (.int (b01 mp)), some (.int (nI (go % 9))), some (.int (nI (go / 9))), some (.int (nI 126)), none, none, none, none, none, none, none, none] [.int v, .int 0, .ref (m 7)] h1 mc ms := by
            intro v hv
            refine s_bipush hK (v := 7) dX7_way_56 (by decide) ?_
            refine s_iload_n hK dX7_way_58 rfl ?_
            refine s_imul hK dX7_way_59 ?_
            refine s_iadd hK dX7_way_60 ?_
            refine s_iload_n hK dX7_way_61 rfl ?_
            refine s_iadd hK dX7_way_62 ?_
            rw [hv]
            refine s_iastoreN (j := 0) hK dX7_way_63 x7 (by omega) (by omega) ?_
            have x8 : gU h1 (m 7) (.inl (0, 126, .inl (upd f7 0 (nI (st0 fr mp))))) (m 7) = some (.inl (0, 126, .inl (upd f7 0 (nI (st0 fr mp))))) := gU_eq _ _ _
            have x9 : gU h1 (m 7) (.inl (0, 126, .inl (upd f7 0 (nI (st0 fr mp))))) (m 6) = some (.inl (0, 126, .inl g6)) := (gU_ne n67).trans x6
            have F2 : ∀ p, p ≠ m 6 → p ≠ m 7 → gU h1 (m 7) (.inl (0, 126, .inl (upd f7 0 (nI (st0 fr mp))))) p = h p := fun p p6 p7 => (gU_ne p7).trans (F1 p p6 p7)
            generalize gU h1 (m 7) (.inl (0, 126, .inl (upd f7 0 (nI (st0 fr mp))))) = h2 at x8 x9 F2
            have C2 : h2 (m 0) = some (.inr (6, smF m S)) := by
              obtain ⟨a, b⟩ := M.n67 (i := 0) (by omega) (by decide) (by decide)
              rw [F2 _ a b]; exact M0
            refine s_aload_n hK dX7_way_64 rfl ?_
            refine s_getfield hK dX7_way_65 kF_X7_33 (by first | assumption | exact H.1 | exact H.2.1) (by rfl) ?_
            refine s_aload_n hK dX7_way_68 rfl ?_
            refine s_getfield hK dX7_way_69 kF_X7_37 (by first | assumption | exact H.1 | exact H.2.1) (by rfl) ?_
            refine s_iconst hK (v := 0) dX7_way_72 (by decide) ?_
            refine s_ialoadN (j := 0) hK dX7_way_73 x8 (by omega) (by omega) ?_
            have e0 : upd f7 0 (nI (st0 fr mp)) 0 = nI (st0 fr mp) := if_pos rfl
            rw [e0]
            refine s_iconst hK (v := 0) dX7_way_74 (by decide) ?_
            refine s_iastoreN hK dX7_way_75 x9 hs0 (by omega) ?_
            have x10 : gU h2 (m 6) (.inl (0, 126, .inl (upd g6 (st0 fr mp) 0))) (m 6) = some (.inl (0, 126, .inl (upd g6 (st0 fr mp) 0))) := gU_eq _ _ _
            have x11 : gU h2 (m 6) (.inl (0, 126, .inl (upd g6 (st0 fr mp) 0))) (m 7) = _ := (gU_ne (Ne.symm n67)).trans x8
            have F3 : ∀ p, p ≠ m 6 → p ≠ m 7 → gU h2 (m 6) (.inl (0, 126, .inl (upd g6 (st0 fr mp) 0))) p = h p := fun p p6 p7 => (gU_ne p6).trans (F2 p p6 p7)
            refine s_iconst hK (v := 1) dX7_way_76 (by decide) ?_
            refine s_istore hK dX7_way_77 rfl ?_
            refine s_iconst hK (v := 0) dX7_way_79 (by decide) ?_
            refine s_istore hK dX7_way_80 rfl ?_
            have J0 := fI_init (ok := sOk S.1 lt) (to := sTo S.1) (gl := fun s => decide (s % 63 = q7 go)) hs0 (decide_eq_false (fun z => hne (by
              have := congrArg cl7 z
              rw [sm0, cl_q7 hgo] at this
              exact this)))
            refine main _ _ _ _ none J0 ⟨_, x10, fun j hj => ?_⟩ ⟨_, x11, fun i hi => ?_⟩ F3
            · unfold upd faF
              by_cases qj : j = st0 fr mp
              · simp [qj]; rfl
              · simp only [if_neg qj]
                exact y6 j hj
            · obtain rfl : i = 0 := by omega
              exact e0
          have es := q7_I ⟨fr, hfr⟩
          cases mp with
          | true =>
            refine s_aload_n hK dX7_way_40 rfl ?_
            refine s_getfield hK dX7_way_41 kF_X7_37 (by first | assumption | exact H.1 | exact H.2.1) (by rfl) ?_
            refine s_iconst hK (v := 0) dX7_way_44 (by decide) ?_
            refine s_iload hK dX7_way_45 rfl ?_
            refine s_ifeq hK dX7_way_47 54 (by decide) (fun c_47 => ?_) (fun c_47 => ?_)
            · exact absurd c_47 (by decide)
            · refine s_iconst hK (v := 0) dX7_way_50 (by decide) ?_
              refine s_goto hK dX7_way_51 56 (by decide) ?_
              exact rest 0 (by rw [es.1]; unfold st0; simp)
          | false =>
            refine s_aload_n hK dX7_way_40 rfl ?_
            refine s_getfield hK dX7_way_41 kF_X7_37 (by first | assumption | exact H.1 | exact H.2.1) (by rfl) ?_
            refine s_iconst hK (v := 0) dX7_way_44 (by decide) ?_
            refine s_iload hK dX7_way_45 rfl ?_
            refine s_ifeq hK dX7_way_47 54 (by decide) (fun c_47 => ?_) (fun c_47 => ?_)
            · refine s_bipush hK (v := 63) dX7_way_54 (by decide) ?_
              exact rest 63 (by rw [es.2]; unfold st0; simp)
            · exact absurd rfl c_47
        · exact absurd (Int32.le_refl (nI 126)) c_21
      | succ k ihk =>
        intro i hi h1 X6 x7 F1
        obtain ⟨g6, x6, y6⟩ := X6
        have C0 : h1 (m 0) = some (.inr (6, smF m S)) := by
          obtain ⟨a, b⟩ := M.n67 (i := 0) (by omega) (by decide) (by decide)
          rw [F1 _ a b]; exact M0
        refine s_iload hK dX7_way_17 rfl ?_
        refine s_bipush hK (v := 126) dX7_way_19 (by decide) ?_
        refine s_icmpge hK dX7_way_21 40 (by decide) (fun c_21 => ?_) (fun c_21 => ?_)
        · exact absurd c_21 (nI_ge (b := 126) (by omega) (by omega))
        · refine s_aload_n hK dX7_way_24 rfl ?_
          refine s_getfield hK dX7_way_25 kF_X7_33 (by first | assumption | exact H.1 | exact H.2.1) (by rfl) ?_
          refine s_iload hK dX7_way_28 rfl ?_
          refine s_sipush hK (v := 1000) dX7_way_30 (by decide) ?_
          refine s_iastoreN hK dX7_way_33 x6 (show i < 126 by omega) (by omega) ?_
          refine s_iinck hK (v := 1) dX7_way_34 rfl (by decide) rfl ?_
          refine s_goto hK dX7_way_37 17 (by decide) ?_
          rw [nI_1]
          refine ihk (i + 1) (by omega) _ ⟨_, gU_eq _ _ _, fun j hj => ?_⟩ ((gU_ne (Ne.symm n67)).trans x7) (fun p p6 p7 => (gU_ne p6).trans (F1 p p6 p7))
          unfold upd
          by_cases qj : j = i
          · rw [if_pos qj]
          · rw [if_neg qj]
            exact y6 j (by omega)
    exact fill 126 0 (by omega) h ⟨f6, e6, fun j hj => absurd hj (Nat.not_lt_zero _)⟩ e7 (fun _ _ _ => rfl)
  refine s_iload_n hK dX7_way_0 rfl ?_
  refine s_iload hK dX7_way_1 rfl ?_
  refine s_icmpne hK dX7_way_3 14 (by decide) (fun c_3 => ?_) (fun c_3 => ?_)
  · exact far0 (fun z => c_3 (by rw [z]))
  · refine s_iload_n hK dX7_way_6 rfl ?_
    refine s_iload hK dX7_way_7 rfl ?_
    refine s_icmpne hK dX7_way_9 14 (by decide) (fun c_9 => ?_) (fun c_9 => ?_)
    · exact far0 (fun z => c_9 (by rw [z]))
    · have z1 : fr % 9 = go % 9 := (nI_eq (by omega) (by omega)).mp c_3
      have z2 : fr / 9 = go / 9 := (nI_eq (by omega) (by omega)).mp c_9
      have z3 : fr = go := by omega
      refine s_iconst hK (v := 0) dX7_way_12 (by decide) ?_
      refine s_ireturn hK dX7_way_13 rfl (by first | rfl | exact b01_nar _) ?_
      refine hp 0 h (Or.inl ⟨0, by omega, rfl, ?_, fun u hu => absurd hu (Nat.not_lt_zero _)⟩) M (fun _ _ _ => rfl)
      show wF S.1 lt go mp 0 fr = true
      unfold wF
      split <;> exact decide_eq_true z3
