/-! the model's search, walked -/
theorem mC_st {S : CS} {lt : Nat → Bool} {st st' rw : Nat → Int32} {k j : Nat} (h : k ≠ 9) : mC S lt st rw k j = mC S lt st' rw k j := by
  unfold mC
  split
  all_goals first | rfl | exact absurd rfl h
theorem mC_rw {S : CS} {lt : Nat → Bool} {st rw rw' : Nat → Int32} {k j : Nat} (h1 : 1 ≤ k) (h2 : k < 11) (h : k ≠ 10) : mC S lt st rw k j = mC S lt st rw' k j := by
  rcases (show k = 1 ∨ k = 2 ∨ k = 3 ∨ k = 4 ∨ k = 5 ∨ k = 6 ∨ k = 7 ∨ k = 8 ∨ k = 9 by omega) with rfl | rfl | rfl | rfl | rfl | rfl | rfl | rfl | rfl <;> rfl
theorem MdlAt.stc {h : gH} {m : Nat → Nat} {thr : Int32} {S : CS} {lt : Nat → Bool} {st st' rw : Nat → Int32} (M : MdlAt h m thr S lt st rw) (e : ∀ j, j < 126 → st j = st' j) : MdlAt h m thr S lt st' rw := by
  refine RawM.cong M (fun k j h1 h2 hj => ?_)
  by_cases ek : k = 9
  · subst ek
    exact e j hj
  · exact mC_st ek
theorem MdlAt.stp {h : gH} {m : Nat → Nat} {thr : Int32} {S : CS} {lt : Nat → Bool} {st rw : Nat → Int32} (M : MdlAt h m thr S lt st rw) {i : Nat} {x : Int32} {f' : Nat → Int32} (e : ∀ j, j < 126 → f' j = st j) : MdlAt (gU h (m 9) (.inl (0, 126, .inl (upd f' i x)))) m thr S lt (fun j => if j = i then x else st j) rw := by
  refine RawM.cong (RawM.set (k := 9) (i := i) (x := x) M (by omega) (by omega) e) (fun k j h1 h2 hj => ?_)
  unfold updC
  by_cases ek : k = 9
  · subst ek
    rw [if_pos rfl]
    rfl
  · rw [if_neg ek]
    exact mC_st ek
theorem MdlAt.rwp {h : gH} {m : Nat → Nat} {thr : Int32} {S : CS} {lt : Nat → Bool} {st rw : Nat → Int32} (M : MdlAt h m thr S lt st rw) {i : Nat} {x : Int32} {f' : Nat → Int32} (e : ∀ j, j < 126 → f' j = rw j) : MdlAt (gU h (m 10) (.inl (0, 126, .inl (upd f' i x)))) m thr S lt st (fun j => if j = i then x else rw j) := by
  refine RawM.cong (RawM.set (k := 10) (i := i) (x := x) M (by omega) (by omega) e) (fun k j h1 h2 hj => ?_)
  unfold updC
  by_cases ek : k = 10
  · subst ek
    rw [if_pos rfl]
    rfl
  · rw [if_neg ek]
    exact mC_rw h1 h2 ek
theorem nI_m1 {n : Nat} (h : n < 2 ^ 31) : ¬ nI n = -1 := fun z => by
  have q := nI_pos (n := n) h
  rw [z] at q
  exact absurd (by decide) q
theorem st_push {ds : Nat → Bool} {vN : Nat → Nat} {p v : Nat} : ∀ j, (if j = p then nI v else stF ds vN j) = stF (fun j => if j = p then true else ds j) (fun j => if j = p then v else vN j) j := by
  intro j
  unfold stF
  by_cases e : j = p
  · simp [e]
  · simp [e]
theorem st_init {go : Nat} : ∀ j, (if j = 2 * go + 1 then 0 else if j = 2 * go then 0 else -1) = stF (ds0 go) (fun _ => 0) j := by
  intro j
  unfold stF ds0
  by_cases e : j = 2 * go + 1
  · rw [if_pos e, if_pos e]
    rfl
  · rw [if_neg e, if_neg e]
    by_cases e2 : j = 2 * go
    · rw [if_pos e2, if_pos e2]
      rfl
    · rw [if_neg e2, if_neg e2]
      rfl
set_option maxHeartbeats 1000000 in
set_option maxRecDepth 10000 in
theorem c_reckonWays (d : Nat) {m : Nat → Nat} {thr : Int32} {S : CS} {lt : Nat → Bool} {st rw : Nat → Int32} {go : Nat} (hgo : go < 63) {h : gH} (M : MdlAt h m thr S lt st rw) (I : InvW S.1) {mc ms : Nat} {Post : Option Value → gH → Prop} {X : String → gH → Prop} (hp : ∀ h' ds vN rw', MdlAt h' m thr S lt (stF ds vN) rw' → gFr (mS m) h h' → FinW S.1 lt go ds vN → Post none h') : gSafe (d + 5) mX6_reckonWays [.ref (m 0), .int (nI go)] h mc ms Post X := by
  refine ⟨Nat.le_of_ble_eq_true rfl, fun K hK => ?_⟩
  show K 0 [some (.ref (m 0)), some (.int (nI go)), none, none, none, none, none, none, none, none] [] _ _ _
  refine s_iconst hK (v := 0) dX6_reckonWays_0 (by decide) ?_
  refine s_istore_n hK dX6_reckonWays_1 rfl ?_
  have main : ∀ t k n, k + t = 126 → ∀ ds vN rN rw1 h1 w4 w5 w6 w7 w8 w9, bI S.1 lt go ds vN rN k n → (∀ i, i < n → rw1 i = nI (rN i)) → MdlAt h1 m thr S lt (stF ds vN) rw1 → gFr (mS m) h h1 → K 76 [some (.ref (m 0)), some (.int (nI go)), some (.int (nI n)), some (.int (nI k)), w4, w5, w6, w7, w8, w9] [] h1 mc ms := by
    intro t
    induction t with
    | zero =>
      intro k n hk ds vN rN rw1 h1 w4 w5 w6 w7 w8 w9 B er M1 F1
      have n126 := cnt_le ds 126
      have e2 := B.2.1
      have k1 := B.1
      obtain rfl : k = n := by omega
      refine s_iload_n hK dX6_reckonWays_76 rfl ?_
      refine s_iload_n hK dX6_reckonWays_77 rfl ?_
      refine s_icmpge hK dX6_reckonWays_78 240 (by decide) (fun c_78 => ?_) (fun c_78 => ?_)
      · refine s_return hK dX6_reckonWays_240 rfl ?_
        exact hp h1 ds vN rw1 M1 F1 (bI_fin I B)
      · exact absurd (Int32.le_refl (nI k)) c_78
    | succ t ih =>
      intro k n hk ds vN rN rw1 h1 w4 w5 w6 w7 w8 w9 B er M1 F1
      have n126 := cnt_le ds 126
      have e2 := B.2.1
      have k1 := B.1
      refine s_iload_n hK dX6_reckonWays_76 rfl ?_
      refine s_iload_n hK dX6_reckonWays_77 rfl ?_
      refine s_icmpge hK dX6_reckonWays_78 240 (by decide) (fun c_78 => ?_) (fun c_78 => ?_)
      · have := (nI_leI (by omega) (by omega)).mp c_78
        obtain rfl : k = n := by omega
        refine s_return hK dX6_reckonWays_240 rfl ?_
        exact hp h1 ds vN rw1 M1 F1 (bI_fin I B)
      · have hkn : k < n := by
          by_cases q : k < n
          · exact q
          · exact absurd (nI_le (by omega) (by omega)) c_78
        have M0 := M1.own0
        obtain ⟨f8, e8, k8⟩ := M1.a8
        obtain ⟨f10, e10, k10⟩ := M1.a10
        have r126 := (B.2.2.1 k hkn).1
        have fr : f10 k = nI (rN k) := (k10 k (by omega)).trans (er k hkn)
        obtain ⟨r, hr⟩ : ∃ r, r = rN k := ⟨_, rfl⟩
        rw [← hr] at fr r126
        refine s_aload_n hK dX6_reckonWays_81 rfl ?_
        refine s_getfield hK dX6_reckonWays_82 kF_X6_38 (by first | assumption | exact H.1 | exact H.2.1) (by rfl) ?_
        refine s_iload_n hK dX6_reckonWays_85 rfl ?_
        refine s_ialoadN hK dX6_reckonWays_86 (by assumption) (by omega) (by omega) ?_
        rw [fr]
        refine s_iconst hK (v := 2) dX6_reckonWays_87 (by decide) ?_
        refine s_idiv hK dX6_reckonWays_88 (by decide) ?_
        rw [show (2 : Int32) = nI 2 from rfl, pk_div (by omega) (by omega) (by omega)]
        refine s_istore hK dX6_reckonWays_89 rfl ?_
        refine s_aload_n hK dX6_reckonWays_91 rfl ?_
        refine s_getfield hK dX6_reckonWays_92 kF_X6_38 (by first | assumption | exact H.1 | exact H.2.1) (by rfl) ?_
        refine s_iload_n hK dX6_reckonWays_95 rfl ?_
        refine s_ialoadN hK dX6_reckonWays_96 (by assumption) (by omega) (by omega) ?_
        rw [fr]
        refine s_iconst hK (v := 2) dX6_reckonWays_97 (by decide) ?_
        refine s_irem hK dX6_reckonWays_98 (by decide) ?_
        rw [show (2 : Int32) = nI 2 from rfl, pk_rem (by omega) (by omega) (by omega)]
        refine s_istore hK dX6_reckonWays_99 rfl ?_
        refine s_aload_n hK dX6_reckonWays_101 rfl ?_
        refine s_getfield hK dX6_reckonWays_102 kF_X6_32 (by first | assumption | exact H.1 | exact H.2.1) (by rfl) ?_
        refine s_iload hK dX6_reckonWays_105 rfl ?_
        refine s_baloadN hK dX6_reckonWays_107 (by assumption) (by omega) (by omega) ?_
        rw [k8 _ (by omega)]
        have out : ∀ n ds vN rN rw1 h1 w6 w7 w8 w9, bI S.1 lt go ds vN rN (k + 1) n → (∀ i, i < n → rw1 i = nI (rN i)) → MdlAt h1 m thr S lt (stF ds vN) rw1 → gFr (mS m) h h1 → K 234 [some (.ref (m 0)), some (.int (nI go)), some (.int (nI n)), some (.int (nI k)), some (.int (nI (r / 2))), some (.int (nI (r % 2))), w6, w7, w8, w9] [] h1 mc ms := by
          intro n ds vN rN rw1 h1 w6 w7 w8 w9 B er M1 F1
          refine s_iinck hK (v := 1) dX6_reckonWays_234 rfl (by decide) rfl ?_
          refine s_goto hK dX6_reckonWays_237 76 (by decide) ?_
          rw [nI_1]
          exact ih (k + 1) n (by omega) ds vN rN rw1 h1 _ _ _ _ _ _ B er M1 F1
        cases el : lt (r / 2) with
        | true =>
          refine s_ifeq hK dX6_reckonWays_108 114 (by decide) (fun c_108 => ?_) (fun c_108 => ?_)
          · exact absurd c_108 (by decide)
          · refine s_goto hK dX6_reckonWays_111 234 (by decide) ?_
            exact out n ds vN rN rw1 h1 _ _ _ _ (bI_next B hkn (fun z => by rw [← hr, el] at z; cases z)) er M1 F1
        | false =>
          refine s_ifeq hK dX6_reckonWays_108 114 (by decide) (fun c_108 => ?_) (fun c_108 => ?_)
          · refine s_iconst hK (v := 0) dX6_reckonWays_114 (by decide) ?_
            refine s_istore hK dX6_reckonWays_115 rfl ?_
            clear e8 k8 e10 k10 M0 fr
            have inner : ∀ t2 e, e + t2 = 4 → ∀ n ds vN rN rw2 h2 w7 w8 w9, k < n → rN k = r → bI S.1 lt go ds vN rN k n → (∀ e', e' < e → eOk S.1 r e' = true → ds (eTo S.1 r e') = true) → (∀ i, i < n → rw2 i = nI (rN i)) → MdlAt h2 m thr S lt (stF ds vN) rw2 → gFr (mS m) h h2 → K 117 [some (.ref (m 0)), some (.int (nI go)), some (.int (nI n)), some (.int (nI k)), some (.int (nI (r / 2))), some (.int (nI (r % 2))), some (.int (nI e)), w7, w8, w9] [] h2 mc ms := by
              intro t2
              induction t2 with
              | zero =>
                intro e he n ds vN rN rw2 h2 w7 w8 w9 hkn er9 B hx er M2 F2
                obtain rfl : e = 4 := by omega
                refine s_iload hK dX6_reckonWays_117 rfl ?_
                refine s_iconst hK (v := 4) dX6_reckonWays_119 (by decide) ?_
                refine s_icmpge hK dX6_reckonWays_120 234 (by decide) (fun c_120 => ?_) (fun c_120 => ?_)
                · exact out n ds vN rN rw2 h2 _ _ _ _ (bI_next B hkn (fun _ => by rw [er9]; exact hx)) er M2 F2
                · exact absurd (Int32.le_refl (nI 4)) c_120
              | succ t2 ih2 =>
                intro e he n ds vN rN rw2 h2 w7 w8 w9 hkn er9 B hx er M2 F2
                have n126 := cnt_le ds 126
                have e2 := B.2.1
                have M0 := M2.own0
                obtain ⟨f9, e9, k9⟩ := M2.a9
                obtain ⟨f10, e10, k10⟩ := M2.a10
                have skip : (eOk S.1 r e = true → ds (eTo S.1 r e) = true) → ∀ w7 w8 w9, K 228 [some (.ref (m 0)), some (.int (nI go)), some (.int (nI n)), some (.int (nI k)), some (.int (nI (r / 2))), some (.int (nI (r % 2))), some (.int (nI e)), w7, w8, w9] [] h2 mc ms := by
                  intro hy w7 w8 w9
                  refine s_iinck hK (v := 1) dX6_reckonWays_228 rfl (by decide) rfl ?_
                  refine s_goto hK dX6_reckonWays_231 117 (by decide) ?_
                  rw [nI_1]
                  refine ih2 (e + 1) (by omega) n ds vN rN rw2 h2 _ _ _ hkn er9 B (fun e' he' ok => ?_) er M2 F2
                  by_cases q : e' = e
                  · rw [q] at ok ⊢
                    exact hy ok
                  · exact hx e' (by omega) ok
                have tail : eOk S.1 r e = true → ∀ w7 w8, K 183 [some (.ref (m 0)), some (.int (nI go)), some (.int (nI n)), some (.int (nI k)), some (.int (nI (r / 2))), some (.int (nI (r % 2))), some (.int (nI e)), w7, w8, some (.int (nI (eTo S.1 r e)))] [] h2 mc ms := by
                  intro ok w7 w8
                  have p126 := eTo_lt (s := r) (by omega) (by omega) ok
                  refine s_aload_n hK dX6_reckonWays_183 rfl ?_
                  refine s_getfield hK dX6_reckonWays_184 kF_X6_35 (by first | assumption | exact H.1 | exact H.2.1) (by rfl) ?_
                  refine s_iload hK dX6_reckonWays_187 rfl ?_
                  refine s_ialoadN hK dX6_reckonWays_189 (by assumption) (by omega) (by omega) ?_
                  rw [k9 _ p126]
                  cases ed : ds (eTo S.1 r e) with
                  | true =>
                    have es : stF ds vN (eTo S.1 r e) = nI (vN (eTo S.1 r e)) := by unfold stF; rw [ed]; rfl
                    have vb := (B.2.2.2.1 _ p126 ed).2.1
                    rw [es]
                    refine s_iconst hK (v := (-1)) dX6_reckonWays_190 (by decide) ?_
                    refine s_icmpeq hK dX6_reckonWays_191 197 (by decide) (fun c_191 => ?_) (fun c_191 => ?_)
                    · exact absurd c_191 (nI_m1 (by omega))
                    · refine s_goto hK dX6_reckonWays_194 228 (by decide) ?_
                      exact skip (fun _ => ed) _ _ _
                  | false =>
                    have es : stF ds vN (eTo S.1 r e) = -1 := by unfold stF; rw [ed]; rfl
                    rw [es]
                    have dr := (B.2.2.1 k hkn).2
                    rw [er9] at dr
                    have sr : stF ds vN r = nI (vN r) := by unfold stF; rw [dr]; rfl
                    obtain ⟨q1, q2, B2⟩ := bI_push I B hkn (e := e) (by omega) (by rw [er9]; exact ok) (by rw [er9]; exact el) (by rw [er9]) ed
                    rw [er9] at B2
                    refine s_iconst hK (v := (-1)) dX6_reckonWays_190 (by decide) ?_
                    refine s_icmpeq hK dX6_reckonWays_191 197 (by decide) (fun c_191 => ?_) (fun c_191 => ?_)
                    · refine s_aload_n hK dX6_reckonWays_197 rfl ?_
                      refine s_getfield hK dX6_reckonWays_198 kF_X6_35 (by first | assumption | exact H.1 | exact H.2.1) (by rfl) ?_
                      refine s_iload hK dX6_reckonWays_201 rfl ?_
                      refine s_aload_n hK dX6_reckonWays_203 rfl ?_
                      refine s_getfield hK dX6_reckonWays_204 kF_X6_35 (by first | assumption | exact H.1 | exact H.2.1) (by rfl) ?_
                      refine s_aload_n hK dX6_reckonWays_207 rfl ?_
                      refine s_getfield hK dX6_reckonWays_208 kF_X6_38 (by first | assumption | exact H.1 | exact H.2.1) (by rfl) ?_
                      refine s_iload_n hK dX6_reckonWays_211 rfl ?_
                      refine s_ialoadN hK dX6_reckonWays_212 (by assumption) (by omega) (by omega) ?_
                      rw [k10 _ (by omega), er k hkn, er9]
                      refine s_ialoadN hK dX6_reckonWays_213 (by assumption) (by omega) (by omega) ?_
                      rw [k9 _ r126, sr]
                      refine s_iconst hK (v := 1) dX6_reckonWays_214 (by decide) ?_
                      refine s_iadd hK dX6_reckonWays_215 ?_
                      rw [nI_1]
                      refine s_iastoreN hK dX6_reckonWays_216 (by assumption) (by omega) (by omega) ?_
                      have M3 := (M2.stp (i := eTo S.1 r e) (x := nI (vN r + 1)) k9).stc (fun j _ => st_push j)
                      have F3 : gFr (mS m) h (gU h2 (m 9) (.inl (0, 126, .inl (upd f9 (eTo S.1 r e) (nI (vN r + 1)))))) := F2.tr (gFr.mdl (k := 9) (gFr_U _ _ _) (by omega))
                      generalize gU h2 (m 9) (.inl (0, 126, .inl (upd f9 (eTo S.1 r e) (nI (vN r + 1))))) = h3 at M3 F3
                      clear M0 e9 k9 e10 k10
                      have M0 := M3.own0
                      obtain ⟨f10, e10, k10⟩ := M3.a10
                      refine s_aload_n hK dX6_reckonWays_217 rfl ?_
                      refine s_getfield hK dX6_reckonWays_218 kF_X6_38 (by first | assumption | exact H.1 | exact H.2.1) (by rfl) ?_
                      refine s_iload_n hK dX6_reckonWays_221 rfl ?_
                      refine s_iload hK dX6_reckonWays_222 rfl ?_
                      refine s_iastoreN hK dX6_reckonWays_224 (by assumption) (by omega) (by omega) ?_
                      have M4 := M3.rwp (i := n) (x := nI (eTo S.1 r e)) k10
                      have F4 : gFr (mS m) h (gU h3 (m 10) (.inl (0, 126, .inl (upd f10 n (nI (eTo S.1 r e)))))) := F3.tr (gFr.mdl (k := 10) (gFr_U _ _ _) (by omega))
                      generalize gU h3 (m 10) (.inl (0, 126, .inl (upd f10 n (nI (eTo S.1 r e))))) = h4 at M4 F4
                      refine s_iinck hK (v := 1) dX6_reckonWays_225 rfl (by decide) rfl ?_
                      refine s_iinck hK (v := 1) dX6_reckonWays_228 rfl (by decide) rfl ?_
                      refine s_goto hK dX6_reckonWays_231 117 (by decide) ?_
                      rw [nI_1, nI_1]
                      refine ih2 (e + 1) (by omega) (n + 1) _ _ _ _ h4 _ _ _ (by omega) ?_ B2 (fun e' he' ok' => ?_) (fun i hi => ?_) M4 F4
                      · show (if k = n then eTo S.1 r e else rN k) = r
                        rw [if_neg (by omega), er9]
                      · show (if eTo S.1 r e' = eTo S.1 r e then true else ds (eTo S.1 r e')) = true
                        by_cases q : e' = e
                        · rw [q, if_pos rfl]
                        · have := hx e' (by omega) ok'
                          split
                          · rfl
                          · exact this
                      · show (if i = n then nI (eTo S.1 r e) else rw2 i) = nI (if i = n then eTo S.1 r e else rN i)
                        by_cases q : i = n
                        · rw [if_pos q, if_pos q]
                        · rw [if_neg q, if_neg q]
                          exact er i (by omega)
                    · exact absurd rfl c_191
                refine s_iload hK dX6_reckonWays_117 rfl ?_
                refine s_iconst hK (v := 4) dX6_reckonWays_119 (by decide) ?_
                refine s_icmpge hK dX6_reckonWays_120 234 (by decide) (fun c_120 => ?_) (fun c_120 => ?_)
                · exact absurd c_120 (nI_ge (b := 4) (by omega) (by omega))
                · refine s_iload hK dX6_reckonWays_123 rfl ?_
                  refine s_iload hK dX6_reckonWays_125 rfl ?_
                  refine s_S20 hK dX6_reckonWays_127 kS_X6_56 (by rfl) ?_
                  refine c_beside _ (by omega) (by omega) ?_
                  unfold bsI
                  cases eo : nbOk (r / 2) e with
                  | false =>
                    rw [if_neg (by simp)]
                    refine s_istore hK dX6_reckonWays_130 rfl ?_
                    refine s_iload hK dX6_reckonWays_132 rfl ?_
                    refine s_iconst hK (v := (-1)) dX6_reckonWays_134 (by decide) ?_
                    refine s_icmpne hK dX6_reckonWays_135 141 (by decide) (fun c_135 => ?_) (fun c_135 => ?_)
                    · exact absurd rfl c_135
                    · refine s_goto hK dX6_reckonWays_138 228 (by decide) ?_
                      exact skip (fun z => by unfold eOk at z; rw [eo] at z; cases z) _ _ _
                  | true =>
                    have hn63 := nb_lt (show r / 2 < 63 by omega) (show e < 4 by omega) eo
                    rw [if_pos rfl]
                    refine s_istore hK dX6_reckonWays_130 rfl ?_
                    refine s_iload hK dX6_reckonWays_132 rfl ?_
                    refine s_iconst hK (v := (-1)) dX6_reckonWays_134 (by decide) ?_
                    refine s_icmpne hK dX6_reckonWays_135 141 (by decide) (fun c_135 => ?_) (fun c_135 => ?_)
                    · refine s_aload_n hK dX6_reckonWays_141 rfl ?_
                      refine s_iload hK dX6_reckonWays_142 rfl ?_
                      refine s_iload hK dX6_reckonWays_144 rfl ?_
                      refine s_V20 hK dX6_reckonWays_146 kV_X6_70 (by first | assumption | exact H.1 | exact H.2.1) (by rfl) ?_
                      refine c_hasWallM _ (by omega) (by omega) M2 I ?_
                      refine s_istore hK dX6_reckonWays_149 rfl ?_
                      refine s_iload hK dX6_reckonWays_151 rfl ?_
                      cases ew : lb (wCells S.1 e) (r / 2) with
                      | false =>
                        have ok : eOk S.1 r e = true := by unfold eOk; rw [eo, ew]; rfl
                        have et : eTo S.1 r e = 2 * nbOf (r / 2) e + r % 2 := by unfold eTo; rw [ew]; rfl
                        have tl := tail ok (some (.int (nI (nbOf (r / 2) e)))) (some (.int (b01 false)))
                        rw [et] at tl
                        refine s_ifeq hK dX6_reckonWays_153 165 (by decide) (fun c_153 => ?_) (fun c_153 => ?_)
                        · refine s_iconst hK (v := 2) dX6_reckonWays_165 (by decide) ?_
                          refine s_iload hK dX6_reckonWays_166 rfl ?_
                          refine s_imul hK dX6_reckonWays_168 ?_
                          refine s_iload hK dX6_reckonWays_169 rfl ?_
                          refine s_ifeq hK dX6_reckonWays_171 178 (by decide) (fun c_171 => ?_) (fun c_171 => ?_)
                          · refine s_iload hK dX6_reckonWays_178 rfl ?_
                            refine s_iadd hK dX6_reckonWays_180 ?_
                            refine s_istore hK dX6_reckonWays_181 rfl ?_
                            rw [show (2 : Int32) = nI 2 from rfl, pk_mul, nI_add]
                            exact tl
                          · exact absurd rfl c_171
                        · exact absurd rfl c_153
                      | true =>
                        refine s_ifeq hK dX6_reckonWays_153 165 (by decide) (fun c_153 => ?_) (fun c_153 => ?_)
                        · exact absurd c_153 (by decide)
                        · refine s_iload hK dX6_reckonWays_156 rfl ?_
                          refine s_iconst hK (v := 1) dX6_reckonWays_158 (by decide) ?_
                          refine s_icmpne hK dX6_reckonWays_159 165 (by decide) (fun c_159 => ?_) (fun c_159 => ?_)
                          · have q : r % 2 = 0 := by
                              have : ¬ r % 2 = 1 := fun z => c_159 (by rw [z]; rfl)
                              omega
                            have ok : eOk S.1 r e = true := by unfold eOk; rw [eo, ew, q]; rfl
                            have et : eTo S.1 r e = 2 * nbOf (r / 2) e + 1 := by unfold eTo; rw [ew]; rfl
                            have tl := tail ok (some (.int (nI (nbOf (r / 2) e)))) (some (.int (b01 true)))
                            rw [et] at tl
                            refine s_iconst hK (v := 2) dX6_reckonWays_165 (by decide) ?_
                            refine s_iload hK dX6_reckonWays_166 rfl ?_
                            refine s_imul hK dX6_reckonWays_168 ?_
                            refine s_iload hK dX6_reckonWays_169 rfl ?_
                            refine s_ifeq hK dX6_reckonWays_171 178 (by decide) (fun c_171 => ?_) (fun c_171 => ?_)
                            · exact absurd c_171 (by decide)
                            · refine s_iconst hK (v := 1) dX6_reckonWays_174 (by decide) ?_
                              refine s_goto hK dX6_reckonWays_175 180 (by decide) ?_
                              refine s_iadd hK dX6_reckonWays_180 ?_
                              refine s_istore hK dX6_reckonWays_181 rfl ?_
                              rw [show (2 : Int32) = nI 2 from rfl, pk_mul, nI_1]
                              exact tl
                          · have q : r % 2 = 1 := (nI_eq (b := 1) (by omega) (by omega)).mp c_159
                            refine s_goto hK dX6_reckonWays_162 228 (by decide) ?_
                            exact skip (fun z => by unfold eOk at z; rw [eo, ew, q] at z; cases z) _ _ _
                    · exact absurd c_135 (nI_m1 (by omega))
            exact inner 4 0 (by omega) n ds vN rN rw1 h1 _ _ _ hkn hr.symm B (fun e' he' => absurd he' (Nat.not_lt_zero _)) er M1 F1
          · exact absurd rfl c_108
  have loop1 : ∀ t i, i + t = 126 → ∀ h1, MdlAt h1 m thr S lt (fun j => if j < i then -1 else st j) rw → gFr (mS m) h h1 → K 2 [some (.ref (m 0)), some (.int (nI go)), some (.int (nI i)), none, none, none, none, none, none, none] [] h1 mc ms := by
    intro t
    induction t with
    | zero =>
      intro i hi h1 M1 F1
      obtain rfl : i = 126 := by omega
      have M1 : MdlAt h1 m thr S lt (fun _ => -1) rw := M1.stc (fun j hj => if_pos hj)
      have M0 := M1.own0
      obtain ⟨f9, e9, k9⟩ := M1.a9
      refine s_iload_n hK dX6_reckonWays_2 rfl ?_
      refine s_bipush hK (v := 126) dX6_reckonWays_3 (by decide) ?_
      refine s_icmpge hK dX6_reckonWays_5 21 (by decide) (fun c_5 => ?_) (fun c_5 => ?_)
      · refine s_aload_n hK dX6_reckonWays_21 rfl ?_
        refine s_getfield hK dX6_reckonWays_22 kF_X6_35 (by first | assumption | exact H.1 | exact H.2.1) (by rfl) ?_
        refine s_iconst hK (v := 2) dX6_reckonWays_25 (by decide) ?_
        refine s_iload_n hK dX6_reckonWays_26 rfl ?_
        refine s_imul hK dX6_reckonWays_27 ?_
        rw [show (2 : Int32) = nI 2 from rfl, pk_mul]
        refine s_iconst hK (v := 0) dX6_reckonWays_28 (by decide) ?_
        refine s_iastoreN hK dX6_reckonWays_29 (by assumption) (by omega) (by omega) ?_
        have M2 := M1.stp (i := 2 * go) (x := 0) k9
        have F2 : gFr (mS m) h (gU h1 (m 9) (.inl (0, 126, .inl (upd f9 (2 * go) 0)))) := F1.tr (gFr.mdl (k := 9) (gFr_U _ _ _) (by omega))
        generalize gU h1 (m 9) (.inl (0, 126, .inl (upd f9 (2 * go) 0))) = h2 at M2 F2
        clear M0 e9 k9
        have M0 := M2.own0
        obtain ⟨f9, e9, k9⟩ := M2.a9
        refine s_aload_n hK dX6_reckonWays_30 rfl ?_
        refine s_getfield hK dX6_reckonWays_31 kF_X6_35 (by first | assumption | exact H.1 | exact H.2.1) (by rfl) ?_
        refine s_iconst hK (v := 2) dX6_reckonWays_34 (by decide) ?_
        refine s_iload_n hK dX6_reckonWays_35 rfl ?_
        refine s_imul hK dX6_reckonWays_36 ?_
        rw [show (2 : Int32) = nI 2 from rfl, pk_mul]
        refine s_iconst hK (v := 1) dX6_reckonWays_37 (by decide) ?_
        refine s_iadd hK dX6_reckonWays_38 ?_
        rw [nI_1]
        refine s_iconst hK (v := 0) dX6_reckonWays_39 (by decide) ?_
        refine s_iastoreN hK dX6_reckonWays_40 (by assumption) (by omega) (by omega) ?_
        have M3 : MdlAt _ m thr S lt (stF (ds0 go) (fun _ => 0)) rw := (M2.stp (i := 2 * go + 1) (x := 0) k9).stc (fun j _ => st_init j)
        have F3 : gFr (mS m) h (gU h2 (m 9) (.inl (0, 126, .inl (upd f9 (2 * go + 1) 0)))) := F2.tr (gFr.mdl (k := 9) (gFr_U _ _ _) (by omega))
        generalize gU h2 (m 9) (.inl (0, 126, .inl (upd f9 (2 * go + 1) 0))) = h3 at M3 F3
        clear M0 e9 k9
        have M0 := M3.own0
        obtain ⟨f8, e8, k8⟩ := M3.a8
        obtain ⟨f10, e10, k10⟩ := M3.a10
        refine s_iconst hK (v := 0) dX6_reckonWays_41 (by decide) ?_
        refine s_istore_n hK dX6_reckonWays_42 rfl ?_
        refine s_aload_n hK dX6_reckonWays_43 rfl ?_
        refine s_getfield hK dX6_reckonWays_44 kF_X6_32 (by first | assumption | exact H.1 | exact H.2.1) (by rfl) ?_
        refine s_iload_n hK dX6_reckonWays_47 rfl ?_
        refine s_baloadN hK dX6_reckonWays_48 (by assumption) (by omega) (by omega) ?_
        rw [k8 _ hgo]
        cases el : lt go with
        | true =>
          refine s_ifne hK dX6_reckonWays_49 74 (by decide) (fun c_49 => ?_) (fun c_49 => ?_)
          · refine s_iconst hK (v := 0) dX6_reckonWays_74 (by decide) ?_
            refine s_istore_n hK dX6_reckonWays_75 rfl ?_
            refine s_iload_n hK dX6_reckonWays_76 rfl ?_
            refine s_iload_n hK dX6_reckonWays_77 rfl ?_
            refine s_icmpge hK dX6_reckonWays_78 240 (by decide) (fun c_78 => ?_) (fun c_78 => ?_)
            · refine s_return hK dX6_reckonWays_240 rfl ?_
              exact hp h3 _ _ rw M3 F3 (lit_fin I hgo el)
            · exact absurd (Int32.le_refl 0) c_78
          · exact absurd c_49 (by decide)
        | false =>
          refine s_ifne hK dX6_reckonWays_49 74 (by decide) (fun c_49 => ?_) (fun c_49 => ?_)
          · exact absurd rfl c_49
          · refine s_aload_n hK dX6_reckonWays_52 rfl ?_
            refine s_getfield hK dX6_reckonWays_53 kF_X6_38 (by first | assumption | exact H.1 | exact H.2.1) (by rfl) ?_
            refine s_iconst hK (v := 0) dX6_reckonWays_56 (by decide) ?_
            refine s_iconst hK (v := 2) dX6_reckonWays_57 (by decide) ?_
            refine s_iload_n hK dX6_reckonWays_58 rfl ?_
            refine s_imul hK dX6_reckonWays_59 ?_
            rw [show (2 : Int32) = nI 2 from rfl, pk_mul]
            refine s_iastoreN hK (j := 0) dX6_reckonWays_60 (by assumption) (by omega) (by omega) ?_
            have M4 := M3.rwp (i := 0) (x := nI (2 * go)) k10
            have F4 : gFr (mS m) h (gU h3 (m 10) (.inl (0, 126, .inl (upd f10 0 (nI (2 * go)))))) := F3.tr (gFr.mdl (k := 10) (gFr_U _ _ _) (by omega))
            generalize gU h3 (m 10) (.inl (0, 126, .inl (upd f10 0 (nI (2 * go))))) = h4 at M4 F4
            clear M0 e8 k8 e10 k10
            have M0 := M4.own0
            obtain ⟨f10, e10, k10⟩ := M4.a10
            refine s_aload_n hK dX6_reckonWays_61 rfl ?_
            refine s_getfield hK dX6_reckonWays_62 kF_X6_38 (by first | assumption | exact H.1 | exact H.2.1) (by rfl) ?_
            refine s_iconst hK (v := 1) dX6_reckonWays_65 (by decide) ?_
            refine s_iconst hK (v := 2) dX6_reckonWays_66 (by decide) ?_
            refine s_iload_n hK dX6_reckonWays_67 rfl ?_
            refine s_imul hK dX6_reckonWays_68 ?_
            rw [show (2 : Int32) = nI 2 from rfl, pk_mul]
            refine s_iconst hK (v := 1) dX6_reckonWays_69 (by decide) ?_
            refine s_iadd hK dX6_reckonWays_70 ?_
            rw [nI_1]
            refine s_iastoreN hK (j := 1) dX6_reckonWays_71 (by assumption) (by omega) (by omega) ?_
            have M5 := M4.rwp (i := 1) (x := nI (2 * go + 1)) k10
            have F5 : gFr (mS m) h (gU h4 (m 10) (.inl (0, 126, .inl (upd f10 1 (nI (2 * go + 1)))))) := F4.tr (gFr.mdl (k := 10) (gFr_U _ _ _) (by omega))
            generalize gU h4 (m 10) (.inl (0, 126, .inl (upd f10 1 (nI (2 * go + 1))))) = h5 at M5 F5
            refine s_iconst hK (v := 2) dX6_reckonWays_72 (by decide) ?_
            refine s_istore_n hK dX6_reckonWays_73 rfl ?_
            refine s_iconst hK (v := 0) dX6_reckonWays_74 (by decide) ?_
            refine s_istore_n hK dX6_reckonWays_75 rfl ?_
            refine main 126 0 2 (by omega) _ _ _ _ h5 _ _ _ _ _ _ (bI_init hgo) (fun i hi => ?_) M5 F5
            show (if i = 1 then nI (2 * go + 1) else if i = 0 then nI (2 * go) else rw i) = nI (if i = 1 then 2 * go + 1 else 2 * go)
            by_cases q : i = 1
            · rw [if_pos q, if_pos q]
            · rw [if_neg q, if_neg q, if_pos (by omega)]
      · exact absurd (Int32.le_refl (nI 126)) c_5
    | succ t ih =>
      intro i hi h1 M1 F1
      have M0 := M1.own0
      obtain ⟨f9, e9, k9⟩ := M1.a9
      refine s_iload_n hK dX6_reckonWays_2 rfl ?_
      refine s_bipush hK (v := 126) dX6_reckonWays_3 (by decide) ?_
      refine s_icmpge hK dX6_reckonWays_5 21 (by decide) (fun c_5 => ?_) (fun c_5 => ?_)
      · exact absurd c_5 (nI_ge (b := 126) (by omega) (by omega))
      · refine s_aload_n hK dX6_reckonWays_8 rfl ?_
        refine s_getfield hK dX6_reckonWays_9 kF_X6_35 (by first | assumption | exact H.1 | exact H.2.1) (by rfl) ?_
        refine s_iload_n hK dX6_reckonWays_12 rfl ?_
        refine s_iconst hK (v := (-1)) dX6_reckonWays_13 (by decide) ?_
        refine s_iastoreN hK dX6_reckonWays_14 (by assumption) (by omega) (by omega) ?_
        refine s_iinck hK (v := 1) dX6_reckonWays_15 rfl (by decide) rfl ?_
        refine s_goto hK dX6_reckonWays_18 2 (by decide) ?_
        rw [nI_1]
        refine ih (i + 1) (by omega) _ ((M1.stp (i := i) (x := -1) k9).stc (fun j hj => ?_)) (F1.tr (gFr.mdl (k := 9) (gFr_U _ _ _) (by omega)))
        by_cases q : j = i
        · simp [q]
        · have e : j < i + 1 ↔ j < i := by omega
          simp [q, e]
  exact loop1 126 0 (by omega) h (M.stc (fun j _ => by simp)) (gFr_rf _ _)
