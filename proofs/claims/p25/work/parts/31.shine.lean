/-! the law's own house: shine, lit -/
theorem par_0 : ∀ d : Fin 4, nI d.val - nI d.val / 2 * 2 = 0 → nI d.val + 1 = nI (d.val ^^^ 1) := by decide +kernel
theorem par_1 : ∀ d : Fin 4, ¬ nI d.val - nI d.val / 2 * 2 = 0 → nI d.val - 1 = nI (d.val ^^^ 1) := by decide +kernel
def oB (q p : Nat) : Prop := q ≤ p ∧ p < q + 10
theorem lit_ne {h : gH} {q x p : Nat} {o : gO} (hx : x < 9) (hp : ¬ oB q p) : gU h (q + 1 + x) o p = h p := gU_ne (fun e => hp ⟨by omega, by omega⟩)
set_option maxHeartbeats 1000000 in
set_option maxRecDepth 10000 in
theorem c_shineS (d : Nat) {m : Nat → Nat} {S : CS} {q o : Nat} {lt : Nat → Bool} (ho : o < 63) {h : gH} (M : SimAt h m S) (Z : Z2 h q lt) (hq : ∀ p, oB q p → ¬ sD m (8 + S.2.2.2.1) p) (I : InvW S.1) (D : InvD S.1) {mc ms : Nat} {Post : Option Value → gH → Prop} {X : String → gH → Prop} (hp : ∀ h', Z2 h' q (fun j => lt j || lb (litFrom S.1 o) j) → (∀ p, ¬ oB q p → h' p = h p) → Post none h') : gSafe (d + 2) mX7_shine [.ref (m 0), .ref q, .int (nI (o % 9)), .int (nI (o / 9))] h mc ms Post X := by
  have ox : o % 9 < 9 := Nat.mod_lt _ (by omega)
  have oy : o / 9 < 7 := by omega
  have eo9 : 9 * (o / 9) + o % 9 = o := by omega
  obtain ⟨f, e1, e2⟩ := Z.2 _ ox
  refine ⟨Nat.le_of_ble_eq_true rfl, fun K hK => ?_⟩
  show K 0 [some (.ref (m 0)), some (.ref q), some (.int (nI (o % 9))), some (.int (nI (o / 9))), none, none, none, none, none, none, none] [] _ _ _
  refine s_aload_n hK dX7_shine_0 rfl ?_
  refine s_iload_n hK dX7_shine_1 rfl ?_
  refine s_aaload hK dX7_shine_2 Z.1 rfl ox (by omega) (if_pos ox) ?_
  refine s_iload_n hK dX7_shine_3 rfl ?_
  refine s_iconst hK (v := 1) dX7_shine_4 (by decide) ?_
  refine s_bastoreN hK dX7_shine_5 e1 oy (by omega) ?_
  have Z1 : Z2 (gU h (q + 1 + o % 9) (.inl (1, 7, .inl (upd f (o / 9) (vp_nar .boolean 1))))) q (fun j => lt j || lb (bOnly o) j) := by
    refine (Z.put ox oy true (by decide) e1).cong (fun j hj => ?_)
    rw [eo9]
    have := lb_add (lt := lt) (X := 0) ho j hj
    simp only [lb_0, Bool.or_false, Int64.zero_or] at this
    exact this
  have F1 : ∀ p, ¬ oB q p → gU h (q + 1 + o % 9) (.inl (1, 7, .inl (upd f (o / 9) (vp_nar .boolean 1)))) p = h p := fun p hp => lit_ne ox hp
  generalize gU h (q + 1 + o % 9) (.inl (1, 7, .inl (upd f (o / 9) (vp_nar .boolean 1)))) = h1 at Z1 F1
  clear e1 e2
  have MK : ∀ {h1 : gH}, (∀ p, ¬ oB q p → h1 p = h p) → SimAt h1 m S := fun {h1} F => M.keep (fun p hp => F p (fun z => hq p z hp))
  refine s_iconst hK (v := 0) dX7_shine_6 (by decide) ?_
  refine s_istore hK dX7_shine_7 rfl ?_
  have loop : ∀ t f, f + t = 4 → ∀ h1 w5 w6 w7 w8 w9 w10, Z2 h1 q (fun j => lt j || lb (litF S.1 (bOnly o) f) j) → (∀ p, ¬ oB q p → h1 p = h p) → K 9 [some (.ref (m 0)), some (.ref q), some (.int (nI (o % 9))), some (.int (nI (o / 9))), some (.int (nI f)), w5, w6, w7, w8, w9, w10] [] h1 mc ms := by
    intro t
    induction t with
    | zero =>
      intro f hf h1 w5 w6 w7 w8 w9 w10 Z1 F1
      obtain rfl : f = 4 := by omega
      refine s_iload hK dX7_shine_9 rfl ?_
      refine s_iconst hK (v := 4) dX7_shine_11 (by decide) ?_
      refine s_icmpge hK dX7_shine_12 213 (by decide) (fun c_12 => ?_) (fun c_12 => ?_)
      · refine s_return hK dX7_shine_213 rfl ?_
        exact hp h1 Z1 F1
      · exact absurd (Int32.le_refl (nI 4)) c_12
    | succ t ih =>
      intro f hf h1 w5 w6 w7 w8 w9 w10 Z1 F1
      refine s_iload hK dX7_shine_9 rfl ?_
      refine s_iconst hK (v := 4) dX7_shine_11 (by decide) ?_
      refine s_icmpge hK dX7_shine_12 213 (by decide) (fun c_12 => ?_) (fun c_12 => ?_)
      · exact absurd c_12 (nI_ge (b := 4) (by omega) (by omega))
      · refine s_iload_n hK dX7_shine_15 rfl ?_
        refine s_istore hK dX7_shine_16 rfl ?_
        refine s_iload_n hK dX7_shine_18 rfl ?_
        refine s_istore hK dX7_shine_19 rfl ?_
        refine s_iload hK dX7_shine_21 rfl ?_
        refine s_istore hK dX7_shine_23 rfl ?_
        refine s_iconst hK (v := 0) dX7_shine_25 (by decide) ?_
        refine s_istore hK dX7_shine_26 rfl ?_
        have out : ∀ h2 w5 w6 w7 w8 w9 w10 Y, Y = (beamI S.1 (bOnly o) (litF S.1 (bOnly o) f) f 6).2.2 → Z2 h2 q (fun j => lt j || lb Y j) → (∀ p, ¬ oB q p → h2 p = h p) → K 207 [some (.ref (m 0)), some (.ref q), some (.int (nI (o % 9))), some (.int (nI (o / 9))), some (.int (nI f)), w5, w6, w7, w8, w9, w10] [] h2 mc ms := by
          intro h2 w5 w6 w7 w8 w9 w10 Y eY ZZ F2
          refine s_iinck hK (v := 1) dX7_shine_207 rfl (by decide) rfl ?_
          refine s_goto hK dX7_shine_210 9 (by decide) ?_
          rw [nI_1]
          refine ih (f + 1) (by omega) h2 _ _ _ _ _ _ ?_ F2
          subst eY
          exact ZZ
        have inner : ∀ t2 n, n + t2 = 6 → ∀ h2 c dn Y w9 w10, c < 63 → dn < 4 → beamI S.1 (bOnly o) (litF S.1 (bOnly o) f) f n = (bOnly c, dn, Y) → Z2 h2 q (fun j => lt j || lb Y j) → (∀ p, ¬ oB q p → h2 p = h p) → K 28 [some (.ref (m 0)), some (.ref q), some (.int (nI (o % 9))), some (.int (nI (o / 9))), some (.int (nI f)), some (.int (nI (c % 9))), some (.int (nI (c / 9))), some (.int (nI dn)), some (.int (nI n)), w9, w10] [] h2 mc ms := by
          intro t2
          induction t2 with
          | zero =>
            intro n hn h2 c dn Y w9 w10 hc hd eb ZZ F2
            obtain rfl : n = 6 := by omega
            refine s_iload hK dX7_shine_28 rfl ?_
            refine s_bipush hK (v := 6) dX7_shine_30 (by decide) ?_
            refine s_icmpge hK dX7_shine_32 207 (by decide) (fun c_32 => ?_) (fun c_32 => ?_)
            · exact out h2 _ _ _ _ _ _ Y (by rw [eb]) ZZ F2
            · exact absurd (Int32.le_refl (nI 6)) c_32
          | succ t2 ih2 =>
            intro n hn h2 c dn Y w9 w10 hc hd eb ZZ F2
            have cx : c % 9 < 9 := Nat.mod_lt _ (by omega)
            have cy : c / 9 < 7 := by omega
            have ec : 9 * (c / 9) + c % 9 = c := by omega
            have M2 := MK F2
            have M0 := M2.c0
            have W := M2.c1
            have W2 := (W.2 _ cx).1
            obtain ⟨f1, e1, e2⟩ := (W.2 _ cx).2 _ cy
            rw [ec] at e2
            refine s_iload hK dX7_shine_28 rfl ?_
            refine s_bipush hK (v := 6) dX7_shine_30 (by decide) ?_
            refine s_icmpge hK dX7_shine_32 207 (by decide) (fun c_32 => ?_) (fun c_32 => ?_)
            · exact absurd c_32 (nI_ge (b := 6) (by omega) (by omega))
            · refine s_aload_n hK dX7_shine_35 rfl ?_
              refine s_getfield hK dX7_shine_36 kF_X7_9 (by first | assumption | exact H.1 | exact H.2.1) (by rfl) ?_
              refine s_iload hK dX7_shine_39 rfl ?_
              refine s_aaload hK dX7_shine_41 W.1 rfl cx (by omega) (if_pos cx) ?_
              refine s_iload hK dX7_shine_42 rfl ?_
              refine s_aaload hK dX7_shine_44 W2 rfl cy (by omega) (if_pos cy) ?_
              refine s_iload hK dX7_shine_45 rfl ?_
              refine s_baloadN hK dX7_shine_47 e1 hd (by omega) ?_
              rw [e2 dn hd]
              cases ew : wl S.1 c dn with
              | true =>
                refine s_ifne hK dX7_shine_48 207 (by decide) (fun c_48 => ?_) (fun c_48 => ?_)
                · exact out h2 _ _ _ _ _ _ Y (beam_stop hc hd eb (Or.inl ew) (by omega)).symm ZZ F2
                · exact absurd c_48 (by decide)
              | false =>
                refine s_ifne hK dX7_shine_48 207 (by decide) (fun c_48 => ?_) (fun c_48 => ?_)
                · exact absurd rfl c_48
                · refine s_iload hK dX7_shine_51 rfl ?_
                  refine s_iload hK dX7_shine_53 rfl ?_
                  refine s_S10 hK dX7_shine_55 kS_X7_49 (by rfl) ?_
                  refine c_goX _ hd ?_
                  refine s_iadd hK dX7_shine_58 ?_
                  refine s_iload hK dX7_shine_59 rfl ?_
                  refine s_iload hK dX7_shine_61 rfl ?_
                  refine s_S10 hK dX7_shine_63 kS_X7_53 (by rfl) ?_
                  refine c_goY _ hd ?_
                  refine s_iadd hK dX7_shine_66 ?_
                  refine s_S20 hK dX7_shine_67 kS_X7_56 (by rfl) ?_
                  refine c_isInS _ ?_
                  rw [nbok hc hd]
                  cases eo : nbOk c dn with
                  | false =>
                    refine s_ifeq hK dX7_shine_70 207 (by decide) (fun c_70 => ?_) (fun c_70 => ?_)
                    · exact out h2 _ _ _ _ _ _ Y (beam_stop hc hd eb (Or.inr eo) (by omega)).symm ZZ F2
                    · exact absurd rfl c_70
                  | true =>
                    have h9 := nb_lt hc hd eo
                    obtain ⟨gx, gy⟩ := nbxy hc hd eo
                    have eb2 := beam_go D ho hc hd eb ew eo
                    refine s_ifeq hK dX7_shine_70 207 (by decide) (fun c_70 => ?_) (fun c_70 => ?_)
                    · exact absurd c_70 (by decide)
                    · refine s_iload hK dX7_shine_73 rfl ?_
                      refine s_istore hK dX7_shine_75 rfl ?_
                      refine s_iload hK dX7_shine_77 rfl ?_
                      refine s_iload hK dX7_shine_79 rfl ?_
                      refine s_S10 hK dX7_shine_81 kS_X7_49 (by rfl) ?_
                      refine c_goX _ hd ?_
                      refine s_iadd hK dX7_shine_84 ?_
                      rw [gx]
                      refine s_istore hK dX7_shine_85 rfl ?_
                      refine s_iload hK dX7_shine_87 rfl ?_
                      refine s_iload hK dX7_shine_89 rfl ?_
                      refine s_S10 hK dX7_shine_91 kS_X7_53 (by rfl) ?_
                      refine c_goY _ hd ?_
                      refine s_iadd hK dX7_shine_94 ?_
                      rw [gy]
                      generalize hc' : nbOf c dn = c' at *
                      have cx' : c' % 9 < 9 := Nat.mod_lt _ (by omega)
                      have cy' : c' / 9 < 7 := by omega
                      have ec' : 9 * (c' / 9) + c' % 9 = c' := by omega
                      obtain ⟨f4, g1, g2⟩ := ZZ.2 _ cx'
                      refine s_istore hK dX7_shine_95 rfl ?_
                      refine s_aload_n hK dX7_shine_97 rfl ?_
                      refine s_iload hK dX7_shine_98 rfl ?_
                      refine s_aaload hK dX7_shine_100 ZZ.1 rfl cx' (by omega) (if_pos cx') ?_
                      refine s_iload hK dX7_shine_101 rfl ?_
                      refine s_iconst hK (v := 1) dX7_shine_103 (by decide) ?_
                      refine s_bastoreN hK dX7_shine_104 g1 cy' (by omega) ?_
                      have Z3 : Z2 (gU h2 (q + 1 + c' % 9) (.inl (1, 7, .inl (upd f4 (c' / 9) (vp_nar .boolean 1))))) q (fun j => lt j || lb (Y ||| bOnly c') j) := by
                        refine (ZZ.put cx' cy' true (by decide) g1).cong (fun j hj => ?_)
                        rw [ec']
                        exact lb_add h9 j hj
                      have F3 : ∀ p, ¬ oB q p → gU h2 (q + 1 + c' % 9) (.inl (1, 7, .inl (upd f4 (c' / 9) (vp_nar .boolean 1)))) p = h p := fun p hp => (lit_ne cx' hp).trans (F2 p hp)
                      generalize gU h2 (q + 1 + c' % 9) (.inl (1, 7, .inl (upd f4 (c' / 9) (vp_nar .boolean 1)))) = h3 at Z3 F3
                      clear g1 g2 M0 W W2 e1 e2 M2
                      have M3 := MK F3
                      have M0 := M3.c0
                      have T := M3.c2
                      obtain ⟨f5, g1, g2⟩ := T.2 _ cx'
                      have g2 : ∀ y, y < 7 → f5 y = nI (thg S.1 (9 * y + c' % 9)) := g2
                      have g3 := g2 _ cy'
                      rw [ec'] at g3
                      have t5 := thg_lt S.1 c'
                      have nx : ∀ dn' w10, dn' < 4 → beamI S.1 (bOnly o) (litF S.1 (bOnly o) f) f (n + 1) = (bOnly c', dn', Y ||| bOnly c') → K 201 [some (.ref (m 0)), some (.ref q), some (.int (nI (o % 9))), some (.int (nI (o / 9))), some (.int (nI f)), some (.int (nI (c' % 9))), some (.int (nI (c' / 9))), some (.int (nI dn')), some (.int (nI n)), some (.int (nI dn)), w10] [] h3 mc ms := by
                        intro dn' w10 hd' eb3
                        refine s_iinck hK (v := 1) dX7_shine_201 rfl (by decide) rfl ?_
                        refine s_goto hK dX7_shine_204 28 (by decide) ?_
                        rw [nI_1]
                        exact ih2 (n + 1) (by omega) h3 c' dn' _ _ _ h9 hd' eb3 Z3 F3
                      have no : ∀ w10, beamI S.1 (bOnly o) (litF S.1 (bOnly o) f) f (n + 1) = (bOnly c', dn, Y ||| bOnly c') → K 149 [some (.ref (m 0)), some (.ref q), some (.int (nI (o % 9))), some (.int (nI (o / 9))), some (.int (nI f)), some (.int (nI (c' % 9))), some (.int (nI (c' / 9))), some (.int (nI dn)), some (.int (nI n)), some (.int (nI dn)), w10] [] h3 mc ms := by
                        intro w10 eb3
                        refine s_iconst hK (v := 0) dX7_shine_149 (by decide) ?_
                        refine s_istore hK dX7_shine_150 rfl ?_
                        refine s_iload hK dX7_shine_152 rfl ?_
                        refine s_ifne hK dX7_shine_154 160 (by decide) (fun c_154 => ?_) (fun c_154 => ?_)
                        · exact absurd rfl c_154
                        · refine s_goto hK dX7_shine_157 201 (by decide) ?_
                          exact nx dn _ hd eb3
                      have far : c' ≠ o → K 117 [some (.ref (m 0)), some (.ref q), some (.int (nI (o % 9))), some (.int (nI (o / 9))), some (.int (nI f)), some (.int (nI (c' % 9))), some (.int (nI (c' / 9))), some (.int (nI dn)), some (.int (nI n)), some (.int (nI dn)), w10] [] h3 mc ms := by
                        intro hne
                        rw [if_neg hne] at eb2
                        have yes : ∀ w10, (thg S.1 c' = 2 ∨ thg S.1 c' = 3) → K 145 [some (.ref (m 0)), some (.ref q), some (.int (nI (o % 9))), some (.int (nI (o / 9))), some (.int (nI f)), some (.int (nI (c' % 9))), some (.int (nI (c' / 9))), some (.int (nI dn)), some (.int (nI n)), some (.int (nI dn)), w10] [] h3 mc ms := by
                          intro w10 h23
                          refine s_iconst hK (v := 1) dX7_shine_145 (by decide) ?_
                          refine s_goto hK dX7_shine_146 150 (by decide) ?_
                          refine s_istore hK dX7_shine_150 rfl ?_
                          refine s_iload hK dX7_shine_152 rfl ?_
                          refine s_ifne hK dX7_shine_154 160 (by decide) (fun c_154 => ?_) (fun c_154 => ?_)
                          · refine s_aload_n hK dX7_shine_160 rfl ?_
                            refine s_getfield hK dX7_shine_161 kF_X7_16 (by first | assumption | exact H.1 | exact H.2.1) (by rfl) ?_
                            refine s_iload hK dX7_shine_164 rfl ?_
                            refine s_aaload hK dX7_shine_166 T.1 rfl cx' (by omega) (if_pos cx') ?_
                            refine s_iload hK dX7_shine_167 rfl ?_
                            refine s_ialoadN hK dX7_shine_169 g1 cy' (by omega) ?_
                            rw [g3]
                            refine s_iconst hK (v := 3) dX7_shine_170 (by decide) ?_
                            refine s_icmpne hK dX7_shine_171 181 (by decide) (fun c_171 => ?_) (fun c_171 => ?_)
                            · have e3 : ¬ thg S.1 c' = 3 := fun z => c_171 (by rw [z]; rfl)
                              have e2 : thg S.1 c' = 2 := by omega
                              have et : trT dn (thg S.1 c') = dn ^^^ 1 := by rw [e2]; rfl
                              rw [et] at eb2
                              have hx1 : dn ^^^ 1 < 4 := by rw [← et]; exact trT_lt hd
                              refine s_iload hK dX7_shine_181 rfl ?_
                              refine s_iconst hK (v := 2) dX7_shine_183 (by decide) ?_
                              refine s_irem hK dX7_shine_184 (by decide) ?_
                              refine s_ifne hK dX7_shine_185 195 (by decide) (fun c_185 => ?_) (fun c_185 => ?_)
                              · refine s_iload hK dX7_shine_195 rfl ?_
                                refine s_iconst hK (v := 1) dX7_shine_197 (by decide) ?_
                                refine s_isub hK dX7_shine_198 ?_
                                rw [par_1 ⟨dn, hd⟩ c_185]
                                refine s_istore hK dX7_shine_199 rfl ?_
                                exact nx _ _ hx1 eb2
                              · refine s_iload hK dX7_shine_188 rfl ?_
                                refine s_iconst hK (v := 1) dX7_shine_190 (by decide) ?_
                                refine s_iadd hK dX7_shine_191 ?_
                                rw [par_0 ⟨dn, hd⟩ c_185]
                                refine s_goto hK dX7_shine_192 199 (by decide) ?_
                                refine s_istore hK dX7_shine_199 rfl ?_
                                exact nx _ _ hx1 eb2
                            · have e3 : thg S.1 c' = 3 := (nI_eq (b := 3) (by omega) (by omega)).mp c_171
                              have et : trT dn (thg S.1 c') = 3 - dn := by rw [e3]; rfl
                              rw [et] at eb2
                              refine s_iconst hK (v := 3) dX7_shine_174 (by decide) ?_
                              refine s_iload hK dX7_shine_175 rfl ?_
                              refine s_isub hK dX7_shine_177 ?_
                              rw [nI_3sub ⟨dn, hd⟩]
                              refine s_goto hK dX7_shine_178 199 (by decide) ?_
                              refine s_istore hK dX7_shine_199 rfl ?_
                              exact nx _ _ (by omega) eb2
                          · exact absurd c_154 (by decide)
                        refine s_aload_n hK dX7_shine_117 rfl ?_
                        refine s_getfield hK dX7_shine_118 kF_X7_16 (by first | assumption | exact H.1 | exact H.2.1) (by rfl) ?_
                        refine s_iload hK dX7_shine_121 rfl ?_
                        refine s_aaload hK dX7_shine_123 T.1 rfl cx' (by omega) (if_pos cx') ?_
                        refine s_iload hK dX7_shine_124 rfl ?_
                        refine s_ialoadN hK dX7_shine_126 g1 cy' (by omega) ?_
                        rw [g3]
                        refine s_iconst hK (v := 2) dX7_shine_127 (by decide) ?_
                        refine s_icmpeq hK dX7_shine_128 145 (by decide) (fun c_128 => ?_) (fun c_128 => ?_)
                        · exact yes _ (Or.inl ((nI_eq (b := 2) (by omega) (by omega)).mp c_128))
                        · refine s_aload_n hK dX7_shine_131 rfl ?_
                          refine s_getfield hK dX7_shine_132 kF_X7_16 (by first | assumption | exact H.1 | exact H.2.1) (by rfl) ?_
                          refine s_iload hK dX7_shine_135 rfl ?_
                          refine s_aaload hK dX7_shine_137 T.1 rfl cx' (by omega) (if_pos cx') ?_
                          refine s_iload hK dX7_shine_138 rfl ?_
                          refine s_ialoadN hK dX7_shine_140 g1 cy' (by omega) ?_
                          rw [g3]
                          refine s_iconst hK (v := 3) dX7_shine_141 (by decide) ?_
                          refine s_icmpne hK dX7_shine_142 149 (by decide) (fun c_142 => ?_) (fun c_142 => ?_)
                          · refine no _ ?_
                            have n2 : ¬ thg S.1 c' = 2 := fun z => c_128 (by rw [z]; rfl)
                            have n3 : ¬ thg S.1 c' = 3 := fun z => c_142 (by rw [z]; rfl)
                            rw [eb2]
                            unfold trT
                            rw [if_neg n2, if_neg n3]
                          · exact yes _ (Or.inr ((nI_eq (b := 3) (by omega) (by omega)).mp c_142))
                      refine s_iload hK dX7_shine_105 rfl ?_
                      refine s_iload_n hK dX7_shine_107 rfl ?_
                      refine s_icmpne hK dX7_shine_108 117 (by decide) (fun c_108 => ?_) (fun c_108 => ?_)
                      · exact far (fun z => c_108 (by rw [z]))
                      · refine s_iload hK dX7_shine_111 rfl ?_
                        refine s_iload_n hK dX7_shine_113 rfl ?_
                        refine s_icmpeq hK dX7_shine_114 149 (by decide) (fun c_114 => ?_) (fun c_114 => ?_)
                        · have e9 : c' % 9 = o % 9 := (nI_eq (by omega) (by omega)).mp c_108
                          have e8 : c' / 9 = o / 9 := (nI_eq (by omega) (by omega)).mp c_114
                          have e7 : c' = o := by omega
                          rw [if_pos e7] at eb2
                          exact no _ eb2
                        · exact far (fun z => c_114 (by rw [z]))
        exact inner 6 0 (by omega) h1 o f _ _ _ ho (by omega) rfl Z1 F1
  exact loop 4 0 (by omega) h1 none none none none none none Z1 F1
/-- light by candles in the law's order -/
def rl7 (L : Nat → Int64) (j : Nat) : Nat → Bool
  | 0 => false
  | k + 1 => rl7 L j k || (lb (L 1) (cl7 k) && lb (litFrom L (cl7 k)) j)
theorem rl7_iff (L : Nat → Int64) (j : Nat) : ∀ n, rl7 L j n = true ↔ ∃ k, k < n ∧ lb (L 1) (cl7 k) = true ∧ lb (litFrom L (cl7 k)) j = true
  | 0 => ⟨fun z => (by cases z), fun ⟨k, h, _⟩ => absurd h (Nat.not_lt_zero k)⟩
  | n + 1 => by
    show (rl7 L j n || _) = true ↔ _
    rw [Bool.or_eq_true, rl7_iff L j n, Bool.and_eq_true]
    constructor
    · rintro (⟨k, h1, h2⟩ | h)
      · exact ⟨k, by omega, h2⟩
      · exact ⟨n, by omega, h⟩
    · rintro ⟨k, h1, h2⟩
      by_cases e : k = n
      · subst e
        exact Or.inr h2
      · exact Or.inl ⟨k, by omega, h2⟩
theorem relitN_iff (L : Nat → Int64) (j : Nat) : ∀ n, lb (relitN L n) j = true ↔ ∃ k, k < n ∧ lb (L 1) k = true ∧ lb (litFrom L k) j = true
  | 0 => ⟨fun z => (by rw [show relitN L 0 = 0 from rfl, lb_0] at z; cases z), fun ⟨k, h, _⟩ => absurd h (Nat.not_lt_zero k)⟩
  | n + 1 => by
    have ih := relitN_iff L j n
    have e : relitN L (n + 1) = if lb (L 1) n then relitN L n ||| litFrom L n else relitN L n := rfl
    rw [e]
    cases eb : lb (L 1) n with
    | false =>
      rw [if_neg (by decide), ih]
      constructor
      · rintro ⟨k, h1, h2⟩
        exact ⟨k, by omega, h2⟩
      · rintro ⟨k, h1, h2, h3⟩
        by_cases ek : k = n
        · subst ek
          rw [eb] at h2
          cases h2
        · exact ⟨k, by omega, h2, h3⟩
    | true =>
      rw [if_pos rfl, lb_or, Bool.or_eq_true, ih]
      constructor
      · rintro (⟨k, h1, h2⟩ | h)
        · exact ⟨k, by omega, h2⟩
        · exact ⟨n, by omega, eb, h⟩
      · rintro ⟨k, h1, h2, h3⟩
        by_cases ek : k = n
        · subst ek
          exact Or.inr h3
        · exact Or.inl ⟨k, by omega, h2, h3⟩
theorem cl7_lt {q : Nat} (h : q < 63) : cl7 q < 63 := by
  unfold cl7
  omega
theorem cl7_of {c : Nat} (h : c < 63) : 7 * (c % 9) + c / 9 < 63 ∧ cl7 (7 * (c % 9) + c / 9) = c := by
  unfold cl7
  omega
theorem rl7_63 (L : Nat → Int64) (j : Nat) : rl7 L j 63 = lb (relit L) j := by
  have k : rl7 L j 63 = true ↔ lb (relit L) j = true := by
    unfold relit
    rw [rl7_iff, relitN_iff]
    constructor
    · rintro ⟨k, h1, h2, h3⟩
      exact ⟨cl7 k, cl7_lt h1, h2, h3⟩
    · rintro ⟨k, h1, h2, h3⟩
      obtain ⟨q1, q2⟩ := cl7_of h1
      exact ⟨_, q1, by rw [q2]; exact h2, by rw [q2]; exact h3⟩
  cases e : lb (relit L) j with
  | true => exact k.mpr e
  | false =>
    cases e2 : rl7 L j 63 with
    | false => rfl
    | true =>
      rw [e] at k
      exact (k.mp e2).symm
theorem G2_q (h : gH) (q t ti n k : Nat) : gG2 h q t ti n k q = some (oR t n (fun j => q + 1 + j)) := if_pos rfl
theorem G2_r (h : gH) (q t ti k : Nat) {n x : Nat} (hx : x < n) : gG2 h q t ti n k (q + 1 + x) = some (.inl (ti, k, .inl (fun _ => 0))) := by
  unfold gG2
  rw [if_neg (by omega), if_pos (by omega)]
theorem G2_nw {h : gH} {q n : Nat} (t ti k : Nat) (hq : ∀ j, j ≤ n → h (q + j) = none) : gNw [] h (gG2 h q t ti n k) := by
  intro p _ hp
  unfold gG2
  rw [if_neg, if_neg]
  · rintro ⟨h1, h2⟩
    have := hq (p - q) (by omega)
    rw [show q + (p - q) = p by omega] at this
    exact hp this
  · rintro rfl
    exact hp (hq 0 (by omega))
theorem G2_Z2 (h : gH) (q : Nat) : Z2 (gG2 h q 3 1 9 7) q (fun _ => false) := ⟨G2_q _ _ _ _ _ _, fun x hx => ⟨_, G2_r _ _ _ _ _ hx, fun _ _ => rfl⟩⟩
theorem G2_I2 (h : gH) (q : Nat) : I2 (gG2 h q 2 0 9 7) q (fun _ => 0) := ⟨G2_q _ _ _ _ _ _, fun x hx => ⟨_, G2_r _ _ _ _ _ hx, fun _ _ => rfl⟩⟩
theorem oB_out {h : gH} {m : Nat → Nat} {S : CS} {q : Nat} (M : SimAt h m S) (hq : ∀ j, j ≤ 9 → h (q + j) = none) : ∀ p, oB q p → ¬ sD m (8 + S.2.2.2.1) p := by
  rintro p ⟨h1, h2⟩ z
  have := hq (p - q) (by omega)
  rw [show q + (p - q) = p by omega] at this
  exact M.there z this
set_option maxRecDepth 10000 in
theorem c_litS (d : Nat) {m : Nat → Nat} {S : CS} {h : gH} (M : SimAt h m S) (I : InvW S.1) (D : InvD S.1) {mc ms : Nat} {Post : Option Value → gH → Prop} {X : String → gH → Prop} (hmc : 10 ≤ mc) (hms : 72 ≤ ms) (hp : ∀ q h', Z2 h' q (lb (relit S.1)) → (∀ j, j ≤ 9 → h (q + j) = none) → gNw [] h h' → Post (some (.ref q)) h') : gSafe (d + 3) mX7_lit [.ref (m 0)] h mc ms Post X := by
  refine ⟨Nat.le_of_ble_eq_true rfl, fun K hK => ?_⟩
  show K 0 [some (.ref (m 0)), none, none, none] [] _ _ _
  refine s_bipush hK (v := 9) dX7_lit_0 (by decide) ?_
  refine s_bipush hK (v := 7) dX7_lit_2 (by decide) ?_
  refine s_mna2 hK dX7_lit_4 (nm := "[[Z") (N := 9) (M := 7) rfl kA_X7_22 (by decide) (by decide) (by decide) (by decide) (by omega) (by omega) (by omega) (by omega) (fun q hq => ?_)
  generalize mc - (1 + 9) = bc
  generalize ms - (9 + 9 * 7) = bs
  have Z0 := G2_Z2 h q
  have F0 := G2_nw (n := 9) 3 1 7 hq
  have O := oB_out M hq
  have M0 := M.nw F0
  generalize gG2 h q 3 1 9 7 = h0 at Z0 F0 M0
  refine s_astore_n hK dX7_lit_8 rfl ?_
  refine s_iconst hK (v := 0) dX7_lit_9 (by decide) ?_
  refine s_istore_n hK dX7_lit_10 rfl ?_
  have MK : ∀ {h1 : gH}, (∀ p, ¬ oB q p → h1 p = h0 p) → SimAt h1 m S := fun {h1} F => M0.keep (fun p hp => F p (fun z => O p z hp))
  have NW : ∀ {h1 : gH}, (∀ p, ¬ oB q p → h1 p = h0 p) → gNw [] h h1 := fun {h1} F p _ hp => (F p (fun z => by
    obtain ⟨z1, z2⟩ := z
    have := hq (p - q) (by omega)
    rw [show q + (p - q) = p by omega] at this
    exact hp this)).trans (F0 p (fun z => nomatch z) hp)
  have loopX : ∀ k x, x + k = 9 → ∀ h1 (v3 : Option Value), Z2 h1 q (fun j => rl7 S.1 j (7 * x)) → (∀ p, ¬ oB q p → h1 p = h0 p) → K 11 [some (.ref (m 0)), some (.ref q), some (.int (nI x)), v3] [] h1 bc bs := by
    intro k
    induction k with
    | zero =>
      intro x hx h1 v3 Z1 F1
      obtain rfl : x = 9 := by omega
      refine s_iload_n hK dX7_lit_11 rfl ?_
      refine s_bipush hK (v := 9) dX7_lit_12 (by decide) ?_
      refine s_icmpge hK dX7_lit_14 55 (by decide) (fun c_14 => ?_) (fun c_14 => ?_)
      · refine s_aload_n hK dX7_lit_55 rfl ?_
        refine s_areturn hK dX7_lit_56 rfl (Or.inr ⟨_, rfl⟩) ?_
        exact hp q h1 (Z1.cong (fun c _ => rl7_63 S.1 c)) hq (NW F1)
      · exact absurd (Int32.le_refl (nI 9)) c_14
    | succ k ih =>
      intro x hx h1 v3 Z1 F1
      refine s_iload_n hK dX7_lit_11 rfl ?_
      refine s_bipush hK (v := 9) dX7_lit_12 (by decide) ?_
      refine s_icmpge hK dX7_lit_14 55 (by decide) (fun c_14 => ?_) (fun c_14 => ?_)
      · exact absurd c_14 (nI_ge (b := 9) (by omega) (by omega))
      · refine s_iconst hK (v := 0) dX7_lit_17 (by decide) ?_
        refine s_istore_n hK dX7_lit_18 rfl ?_
        have loopY : ∀ j y, y + j = 7 → ∀ h1, Z2 h1 q (fun j => rl7 S.1 j (7 * x + y)) → (∀ p, ¬ oB q p → h1 p = h0 p) → K 19 [some (.ref (m 0)), some (.ref q), some (.int (nI x)), some (.int (nI y))] [] h1 bc bs := by
          intro j
          induction j with
          | zero =>
            intro y hy h1 Z1 F1
            obtain rfl : y = 7 := by omega
            refine s_iload_n hK dX7_lit_19 rfl ?_
            refine s_bipush hK (v := 7) dX7_lit_20 (by decide) ?_
            refine s_icmpge hK dX7_lit_22 49 (by decide) (fun c_22 => ?_) (fun c_22 => ?_)
            · refine s_iinck hK (v := 1) dX7_lit_49 rfl (by decide) rfl ?_
              refine s_goto hK dX7_lit_52 11 (by decide) ?_
              rw [nI_1]
              refine ih (x + 1) (by omega) h1 _ ?_ F1
              rw [show 7 * (x + 1) = 7 * x + 7 by omega]
              exact Z1
            · exact absurd (Int32.le_refl (nI 7)) c_22
          | succ j ihj =>
            intro y hy h1 Z1 F1
            have M1 := MK F1
            have C0 := M1.c0
            have B := M1.c4
            obtain ⟨f, e1, e2⟩ := B.2 x (by omega)
            have ec := cl7_xy (x := x) (y := y) (by omega)
            refine s_iload_n hK dX7_lit_19 rfl ?_
            refine s_bipush hK (v := 7) dX7_lit_20 (by decide) ?_
            refine s_icmpge hK dX7_lit_22 49 (by decide) (fun c_22 => ?_) (fun c_22 => ?_)
            · exact absurd c_22 (nI_ge (b := 7) (by omega) (by omega))
            · refine s_aload_n hK dX7_lit_25 rfl ?_
              refine s_getfield hK dX7_lit_26 kF_X7_24 (by first | assumption | exact H.1 | exact H.2.1) (by rfl) ?_
              refine s_iload_n hK dX7_lit_29 rfl ?_
              refine s_aaload hK dX7_lit_30 B.1 rfl (show x < 9 by omega) (by omega) (if_pos (show x < 9 by omega)) ?_
              refine s_iload_n hK dX7_lit_31 rfl ?_
              refine s_baloadN hK dX7_lit_32 e1 (show y < 7 by omega) (by omega) ?_
              rw [e2 y (by omega)]
              cases eb : lb (S.1 1) (9 * y + x) with
              | false =>
                refine s_ifeq hK dX7_lit_33 43 (by decide) (fun c_33 => ?_) (fun c_33 => ?_)
                · refine s_iinck hK (v := 1) dX7_lit_43 rfl (by decide) rfl ?_
                  refine s_goto hK dX7_lit_46 19 (by decide) ?_
                  rw [nI_1]
                  refine ihj (y + 1) (by omega) h1 (Z1.cong (fun c _ => ?_)) F1
                  show _ = (rl7 S.1 c (7 * x + y) || (lb (S.1 1) (cl7 (7 * x + y)) && lb (litFrom S.1 (cl7 (7 * x + y))) c))
                  rw [ec, eb]
                  simp
                · exact absurd rfl c_33
              | true =>
                have ex : (9 * y + x) % 9 = x := by omega
                have ey : (9 * y + x) / 9 = y := by omega
                have cs := c_shineS d (o := 9 * y + x) (mc := 0) (ms := 0) (X := fun E h' => gThr mX7_lit X K 40 [some (.ref (m 0)), some (.ref q), some (.int (nI x)), some (.int (nI y))] E h' bc bs) (by omega) M1 Z1 O I D (Post := fun v h' => K (40 + 3) [some (.ref (m 0)), some (.ref q), some (.int (nI x)), some (.int (nI y))] (v.toList ++ []) h' bc bs) (fun h2 Z2 F2 => by
                  have F3 : ∀ p, ¬ oB q p → h2 p = h0 p := fun p hp => (F2 p hp).trans (F1 p hp)
                  show K 43 _ [] h2 bc bs
                  refine s_iinck hK (v := 1) dX7_lit_43 rfl (by decide) rfl ?_
                  refine s_goto hK dX7_lit_46 19 (by decide) ?_
                  rw [nI_1]
                  refine ihj (y + 1) (by omega) h2 (Z2.cong (fun c _ => ?_)) F3
                  show _ = (rl7 S.1 c (7 * x + y) || (lb (S.1 1) (cl7 (7 * x + y)) && lb (litFrom S.1 (cl7 (7 * x + y))) c))
                  rw [ec, eb]
                  simp)
                rw [ex, ey] at cs
                refine s_ifeq hK dX7_lit_33 43 (by decide) (fun c_33 => ?_) (fun c_33 => ?_)
                · exact absurd c_33 (by decide)
                · refine s_aload_n hK dX7_lit_36 rfl ?_
                  refine s_aload_n hK dX7_lit_37 rfl ?_
                  refine s_iload_n hK dX7_lit_38 rfl ?_
                  refine s_iload_n hK dX7_lit_39 rfl ?_
                  refine s_V30 hK dX7_lit_40 kV_X7_60 (by first | assumption | exact H.1 | exact H.2.1) (by rfl) ?_
                  exact cs
        exact loopY 7 0 (by omega) h1 Z1 F1
  refine loopX 9 0 (by omega) h0 none (Z0.cong (fun _ _ => rfl)) (fun _ _ => rfl)
