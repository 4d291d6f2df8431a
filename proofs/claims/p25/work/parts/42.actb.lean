/-! something done to both: walls and things -/
theorem thg_1 {L : Nat → Int64} {c : Nat} (h : thg L c = 1) : lb (L 0) c = true := by
  rw [← in11]
  unfold inT
  rw [h]
  rfl
theorem add_1k (k : Nat) : (1 : Int32) + nI k = nI (k + 1) := by
  rw [Int32.add_comm]
  exact nI_1 k
set_option maxRecDepth 10000 in
theorem a_wall (d : Nat) {a : Nat} {n n' m : Nat → Nat} {S : CS} {i c : Nat} {z : Int32} {Post : Option Value → gH → Prop} {X : String → gH → Prop} {K : gK} (hK : gClosed (gSafe (d + 7)) mL_act (d + 7 + 1) Post X (fun _ => none) K) (I : InvC S i) (hc : c < 63) {h : gH} (C : ClsAt h a n n' S) (M : SimAt h m S) (D : Dj a n n' m (8 + S.2.2.2.1)) (P : ActP Post h a n n' m S i) {bc bs : Nat} (hbc : 60 ≤ bc) (hbs : 400 ≤ bs) : K 108 [some (.ref a), some (.ref (m 0)), some (.int z), some (.int (nI (c % 9))), some (.int (nI (c / 9))), some (.int (nI S.2.2.2.1)), some (.int (nI (thg S.1 c))), none, none, none, none, none, none, none, none] [] h bc bs := by
  have V := I.1
  have ok := V.1
  have T := V.2.2.1
  have hx : c % 9 < 9 := Nat.mod_lt _ (by omega)
  have hy : c / 9 < 7 := by omega
  have ec : 9 * (c / 9) + c % 9 = c := by omega
  have t5 := thg_lt S.1 c
  have C0 := M.c0
  have M0 := M.c0
  refine s_iload_n hK dL_act_108 rfl ?_
  refine s_iconst hK (v := 2) dL_act_109 (by decide) ?_
  refine s_ishr hK dL_act_110 ?_
  refine s_iconst hK (v := nI 4) dL_act_111 (by decide) ?_
  refine s_S20 hK dL_act_112 kS_L_9 (by rfl) ?_
  refine c_belN _ (by omega) (by omega) ?_
  have hd := belN_lt (z >>> (2 &&& 31)) (n := 4) (by omega)
  generalize belN (z >>> (2 &&& 31)) 4 = dd at hd ⊢
  refine s_istore hK dL_act_115 rfl ?_
  refine s_iload_n hK dL_act_117 rfl ?_
  refine s_iload hK dL_act_118 rfl ?_
  refine s_S10 hK dL_act_120 kS_L_25 (by rfl) ?_
  refine c_goX _ hd ?_
  refine s_iadd hK dL_act_123 ?_
  refine s_iload hK dL_act_124 rfl ?_
  refine s_iload hK dL_act_126 rfl ?_
  refine s_S10 hK dL_act_128 kS_L_29 (by rfl) ?_
  refine c_goY _ hd ?_
  refine s_iadd hK dL_act_131 ?_
  refine s_S20 hK dL_act_132 kS_L_32 (by rfl) ?_
  refine c_isInS _ ?_
  rw [nbok hc hd]
  cases ho : nbOk c dd with
  | false =>
    refine s_ifne hK dL_act_135 140 (by decide) (fun c_135 => ?_) (fun c_135 => ?_)
    · exact absurd rfl c_135
    · refine s_iconst hK (v := 1) dL_act_138 (by decide) ?_
      refine s_ireturn hK dL_act_139 rfl (by first | rfl | exact b01_nar _) ?_
      exact P.same I C M D
  | true =>
    refine s_ifne hK dL_act_135 140 (by decide) (fun c_135 => ?_) (fun c_135 => ?_)
    · refine s_aload_n hK dL_act_140 rfl ?_
      refine s_iload_n hK dL_act_141 rfl ?_
      refine s_iload hK dL_act_142 rfl ?_
      refine s_iload hK dL_act_144 rfl ?_
      refine s_V30 hK dL_act_146 kV_L_36 (by assumption) (by rfl) ?_
      refine c_turnWall _ hc hd ho M V.2.1 (fun h1 M1 F1 => ?_)
      have C1 := C.sim D F1
      have Ca := C1.1
      have I' := iWall (x := nI (c % 9)) (y := nI (c / 9)) (w := nI dd) I
      rw [fWall_n hc hd ho] at I'
      refine s_aload_n hK dL_act_149 rfl ?_
      refine s_iload_n hK dL_act_150 rfl ?_
      refine s_iload hK dL_act_151 rfl ?_
      refine s_iload hK dL_act_153 rfl ?_
      refine s_V3 hK (mc := 4) (ms := 24) dL_act_155 kV_L_40 (by assumption) (by rfl) (by omega) (by omega) ?_
      refine c_wall _ C1 (by omega) (by omega) (gDone_of (fWall_n hc hd ho) (fun h2 C2 F2 => ?_))
      have M2 := M1.cls D F2
      have C0 := M2.c0
      have Wc := M2.c1
      obtain ⟨x1, x2⟩ := Wc.2 _ hx
      obtain ⟨fw, w1, w2⟩ := x2 _ hy
      have w3 := w2 dd hd
      rw [ec] at w3
      refine s_aload_n hK dL_act_158 rfl ?_
      refine s_getfield hK dL_act_159 kF_L_46 (by assumption) (by rfl) ?_
      refine s_iload_n hK dL_act_162 rfl ?_
      refine s_aaload hK dL_act_163 Wc.1 rfl hx (by omega) (if_pos hx) ?_
      refine s_iload hK dL_act_164 rfl ?_
      refine s_aaload hK dL_act_166 x1 rfl hy (by omega) (if_pos hy) ?_
      refine s_iload hK dL_act_167 rfl ?_
      refine s_baloadN hK dL_act_169 w1 hd (by omega) ?_
      rw [w3]
      refine s_icmpne hK dL_act_170 177 (by decide) (fun c_170 => ?_) (fun c_170 => ?_)
      · exact absurd rfl c_170
      · refine s_iconst hK (v := 1) dL_act_173 (by decide) ?_
        refine s_goto hK dL_act_174 178 (by decide) ?_
        refine s_ireturn hK dL_act_178 rfl (by first | rfl | exact b01_nar _) ?_
        exact P.fin D (by rfl) I' C2 M2 (fun p p1 p2 p3 => (F2 p p2.out).trans (F1 p p3 p1))
    · exact absurd c_135 (by decide)
set_option maxRecDepth 10000 in
theorem a_candle (d : Nat) {a : Nat} {n n' m : Nat → Nat} {S : CS} {i c : Nat} {z : Int32} {Post : Option Value → gH → Prop} {X : String → gH → Prop} {K : gK} (hK : gClosed (gSafe (d + 7)) mL_act (d + 7 + 1) Post X (fun _ => none) K) (I : InvC S i) (hc : c < 63) {h : gH} (C : ClsAt h a n n' S) (M : SimAt h m S) (D : Dj a n n' m (8 + S.2.2.2.1)) (P : ActP Post h a n n' m S i) {bc bs : Nat} (hbc : 60 ≤ bc) (hbs : 400 ≤ bs) : K 179 [some (.ref a), some (.ref (m 0)), some (.int z), some (.int (nI (c % 9))), some (.int (nI (c / 9))), some (.int (nI S.2.2.2.1)), some (.int (nI (thg S.1 c))), none, none, none, none, none, none, none, none] [] h bc bs := by
  have V := I.1
  have ok := V.1
  have T := V.2.2.1
  have hx : c % 9 < 9 := Nat.mod_lt _ (by omega)
  have hy : c / 9 < 7 := by omega
  have ec : 9 * (c / 9) + c % 9 = c := by omega
  have t5 := thg_lt S.1 c
  have C0 := M.c0
  refine s_iload hK dL_act_179 rfl ?_
  by_cases t0 : thg S.1 c = 0
  · refine s_ifne hK dL_act_181 194 (by decide) (fun c_181 => ?_) (fun c_181 => ?_)
    · exact absurd (by rw [t0]; rfl) c_181
    · refine s_aload_n hK dL_act_184 rfl ?_
      refine s_iconst hK (v := nI 1) dL_act_185 (by decide) ?_
      refine s_V10 hK dL_act_186 kV_L_50 (by assumption) (by rfl) ?_
      refine c_thingsS _ (t := 1) (by omega) M ?_
      refine s_bipush hK (v := 10) dL_act_189 (by decide) ?_
      refine s_icmpne hK dL_act_191 196 (by decide) (fun c_191 => ?_) (fun c_191 => ?_)
      · have b1 := I.2.2.1
        rw [inT_1] at b1
        have hl : iPop (S.1 0) < nI 10 := by
          rw [cnt_1 S.1 T]
          exact nI_lt (Nat.lt_of_le_of_ne b1 (fun e => c_191 (by rw [e]; rfl))) (by omega)
        have T2 := M.c2
        obtain ⟨ft, t1, t2⟩ := T2.2 _ hx
        refine s_aload_n hK dL_act_196 rfl ?_
        refine s_getfield hK dL_act_197 kF_L_21 (by assumption) (by rfl) ?_
        refine s_iload_n hK dL_act_200 rfl ?_
        refine s_aaload hK dL_act_201 T2.1 rfl hx (by omega) (if_pos hx) ?_
        refine s_iload hK dL_act_202 rfl ?_
        refine s_iconst hK (v := 1) dL_act_204 (by decide) ?_
        refine s_iastoreN hK dL_act_205 t1 hy (by omega) ?_
        obtain ⟨M1, F1⟩ := M.thing (v := 1) (L' := vp_updL S.1 0 (S.1 0 ||| bOnly c)) hx hy t1 (fun j hj => by
          rw [ec, show thg (vp_updL S.1 0 (S.1 0 ||| bOnly c)) j = thg (reL (oCandle S.1 c)) j from thg_of rfl rfl rfl rfl, candle_th hc j hj]
          by_cases e : j = c
          · rw [if_pos e, if_pos e]; rfl
          · rw [if_neg e, if_neg e]) ⟨rfl, rfl, rfl⟩
        generalize gU h (m 2 + 1 + c % 9) (.inl (0, 7, .inl (upd ft (c / 9) 1))) = h1 at M1 F1 ⊢
        have A2 := M1.c3
        obtain ⟨fa, a1, a2⟩ := A2.2 _ hx
        have C0 := M1.c0
        refine s_aload_n hK dL_act_206 rfl ?_
        refine s_getfield hK dL_act_207 kF_L_53 (by assumption) (by rfl) ?_
        refine s_iload_n hK dL_act_210 rfl ?_
        refine s_aaload hK dL_act_211 A2.1 rfl hx (by omega) (if_pos hx) ?_
        refine s_iload hK dL_act_212 rfl ?_
        refine s_iconst hK (v := 1) dL_act_214 (by decide) ?_
        refine s_iload_n hK dL_act_215 rfl ?_
        refine s_iconst hK (v := 4) dL_act_216 (by decide) ?_
        refine s_ishr hK dL_act_217 ?_
        refine s_bipush hK (v := nI 60) dL_act_218 (by decide) ?_
        refine s_S20 hK dL_act_220 kS_L_9 (by rfl) ?_
        refine c_belN _ (by omega) (by omega) ?_
        have hk := belN_lt (z >>> (4 &&& 31)) (n := 60) (by omega)
        generalize belN (z >>> (4 &&& 31)) 60 = k at hk ⊢
        refine s_iadd hK dL_act_223 ?_
        rw [add_1k]
        refine s_iastoreN hK dL_act_224 a1 hy (by omega) ?_
        obtain ⟨M2, F2⟩ := M1.val (v := nI (k + 1)) hx hy a1
        rw [ec] at M2
        generalize gU h1 (m 3 + 1 + c % 9) (.inl (0, 7, .inl (upd fa (c / 9) (nI (k + 1))))) = h2 at M2 F2 ⊢
        have B2 := M2.c4
        obtain ⟨fb, b1, b2⟩ := B2.2 _ hx
        have C0 := M2.c0
        refine s_aload_n hK dL_act_225 rfl ?_
        refine s_getfield hK dL_act_226 kF_L_56 (by assumption) (by rfl) ?_
        refine s_iload_n hK dL_act_229 rfl ?_
        refine s_aaload hK dL_act_230 B2.1 rfl hx (by omega) (if_pos hx) ?_
        refine s_iload hK dL_act_231 rfl ?_
        refine s_iconst hK (v := 1) dL_act_233 (by decide) ?_
        refine s_bastoreN hK dL_act_234 b1 hy (by omega) ?_
        obtain ⟨M3, F3⟩ := M2.burn (v := 1) (L' := oCandle S.1 c) hx hy true (by decide) b1 (fun j hj => by
          show lb (S.1 1 ||| bOnly c) j = if _ then true else lb (S.1 1) j
          rw [ec, or_only hc]
          by_cases e : j = c
          · simp [e]
          · simp [e]) (fun k k1 k7 => if_neg k1)
        generalize gU h2 (m 4 + 1 + c % 9) (.inl (1, 7, .inl (upd fb (c / 9) (vp_nar .boolean 1)))) = h3 at M3 F3 ⊢
        have M4 : SimAt h3 m (reL (oCandle S.1 c), upd S.2.1 c (nI (k + 1)), S.2.2) := M3.reL
        have Fs : sFr m (8 + S.2.2.2.1) h h3 := fun p hp hn => (F3 p (fun z => hp ⟨4, by omega, z⟩)).trans ((F2 p (fun z => hp ⟨3, by omega, z⟩)).trans (F1 p (fun z => hp ⟨2, by omega, z⟩)))
        have C3 := C.sim D Fs
        have Ca := C3.1
        have C0 := M4.c0
        have I' := iCandle (x := nI (c % 9)) (y := nI (c / 9)) (w := nI (k + 1)) I
        rw [fCandle_n hc (by omega) (by omega) t0 hl] at I'
        have A4 := M4.c3
        obtain ⟨fa4, a41, a42⟩ := A4.2 _ hx
        have a43 := a42 _ hy
        rw [ec] at a43
        have a43 : fa4 (c / 9) = nI (k + 1) := a43.trans (if_pos rfl)
        refine s_aload_n hK dL_act_235 rfl ?_
        refine s_iload_n hK dL_act_236 rfl ?_
        refine s_iload hK dL_act_237 rfl ?_
        refine s_aload_n hK dL_act_239 rfl ?_
        refine s_getfield hK dL_act_240 kF_L_53 (by assumption) (by rfl) ?_
        refine s_iload_n hK dL_act_243 rfl ?_
        refine s_aaload hK dL_act_244 A4.1 rfl hx (by omega) (if_pos hx) ?_
        refine s_iload hK dL_act_245 rfl ?_
        refine s_ialoadN hK dL_act_247 a41 hy (by omega) ?_
        rw [a43]
        refine s_V3 hK (mc := 4) (ms := 24) dL_act_248 kV_L_60 (by assumption) (by rfl) (by omega) (by omega) ?_
        refine c_candle _ C3 (by omega) (by omega) (gDone_of (fCandle_n hc (by omega) (by omega) t0 hl) (fun h4 C4 F4 => ?_))
        have M5 := M4.cls D F4
        have C0 := M5.c0
        refine s_aload_n hK dL_act_251 rfl ?_
        refine s_iconst hK (v := nI 1) dL_act_252 (by decide) ?_
        refine s_V10 hK dL_act_253 kV_L_50 (by assumption) (by rfl) ?_
        refine c_thingsS _ (t := 1) (by omega) M5 ?_
        rw [cnt_1 (reL (oCandle S.1 c)) I'.1.2.2.1]
        refine s_icmpne hK dL_act_256 263 (by decide) (fun c_256 => ?_) (fun c_256 => ?_)
        · exact absurd rfl c_256
        · refine s_iconst hK (v := 1) dL_act_259 (by decide) ?_
          refine s_goto hK dL_act_260 264 (by decide) ?_
          refine s_ireturn hK dL_act_264 rfl (by first | rfl | exact b01_nar _) ?_
          exact P.fin D (by rfl) I' C4 M5 (fun p p1 p2 p3 => (F4 p p2.out).trans (Fs p p3 p1))
      · refine s_iconst hK (v := 1) dL_act_194 (by decide) ?_
        refine s_ireturn hK dL_act_195 rfl (by first | rfl | exact b01_nar _) ?_
        exact P.same I C M D
  · refine s_ifne hK dL_act_181 194 (by decide) (fun c_181 => ?_) (fun c_181 => ?_)
    · refine s_iconst hK (v := 1) dL_act_194 (by decide) ?_
      refine s_ireturn hK dL_act_195 rfl (by first | rfl | exact b01_nar _) ?_
      exact P.same I C M D
    · exact absurd ((nI_eq (b := 0) (by omega) (by omega)).mp c_181) t0
set_option maxRecDepth 10000 in
theorem a_mirror (d : Nat) {a : Nat} {n n' m : Nat → Nat} {S : CS} {i c : Nat} {z : Int32} {Post : Option Value → gH → Prop} {X : String → gH → Prop} {K : gK} (hK : gClosed (gSafe (d + 7)) mL_act (d + 7 + 1) Post X (fun _ => none) K) (I : InvC S i) (hc : c < 63) {h : gH} (C : ClsAt h a n n' S) (M : SimAt h m S) (D : Dj a n n' m (8 + S.2.2.2.1)) (P : ActP Post h a n n' m S i) {bc bs : Nat} (hbc : 60 ≤ bc) (hbs : 400 ≤ bs) : K 265 [some (.ref a), some (.ref (m 0)), some (.int z), some (.int (nI (c % 9))), some (.int (nI (c / 9))), some (.int (nI S.2.2.2.1)), some (.int (nI (thg S.1 c))), none, none, none, none, none, none, none, none] [] h bc bs := by
  have V := I.1
  have ok := V.1
  have T := V.2.2.1
  have hx : c % 9 < 9 := Nat.mod_lt _ (by omega)
  have hy : c / 9 < 7 := by omega
  have ec : 9 * (c / 9) + c % 9 = c := by omega
  have t5 := thg_lt S.1 c
  have C0 := M.c0
  refine s_iload hK dL_act_265 rfl ?_
  by_cases t0 : thg S.1 c = 0
  · refine s_ifne hK dL_act_267 286 (by decide) (fun c_267 => ?_) (fun c_267 => ?_)
    · exact absurd (by rw [t0]; rfl) c_267
    · refine s_aload_n hK dL_act_270 rfl ?_
      refine s_iconst hK (v := nI 2) dL_act_271 (by decide) ?_
      refine s_V10 hK dL_act_272 kV_L_50 (by assumption) (by rfl) ?_
      refine c_thingsS _ (t := 2) (by omega) M ?_
      refine s_aload_n hK dL_act_275 rfl ?_
      refine s_iconst hK (v := nI 3) dL_act_276 (by decide) ?_
      refine s_V10 hK dL_act_277 kV_L_50 (by assumption) (by rfl) ?_
      refine c_thingsS _ (t := 3) (by omega) M ?_
      refine s_iadd hK dL_act_280 ?_
      rw [nI_add]
      refine s_bipush hK (v := 10) dL_act_281 (by decide) ?_
      refine s_icmpne hK dL_act_283 288 (by decide) (fun c_283 => ?_) (fun c_283 => ?_)
      · have b1 := I.2.2.2.1
        rw [inT_23] at b1
        have hl : iPop (S.1 2 ||| S.1 3) < nI 10 := by
          rw [cnt_23 T]
          exact nI_lt (Nat.lt_of_le_of_ne b1 (fun e => c_283 (by rw [e]; rfl))) (by omega)
        have T2 := M.c2
        obtain ⟨ft, t1, t2⟩ := T2.2 _ hx
        refine s_aload_n hK dL_act_288 rfl ?_
        refine s_getfield hK dL_act_289 kF_L_21 (by assumption) (by rfl) ?_
        refine s_iload_n hK dL_act_292 rfl ?_
        refine s_aaload hK dL_act_293 T2.1 rfl hx (by omega) (if_pos hx) ?_
        refine s_iload hK dL_act_294 rfl ?_
        refine s_iconst hK (v := 2) dL_act_296 (by decide) ?_
        refine s_iload_n hK dL_act_297 rfl ?_
        refine s_iconst hK (v := 4) dL_act_298 (by decide) ?_
        refine s_ishr hK dL_act_299 ?_
        refine s_iconst hK (v := nI 2) dL_act_300 (by decide) ?_
        refine s_S20 hK dL_act_301 kS_L_9 (by rfl) ?_
        refine c_belN _ (by omega) (by omega) ?_
        have hk := belN_lt (z >>> (4 &&& 31)) (n := 2) (by omega)
        generalize belN (z >>> (4 &&& 31)) 2 = k at hk ⊢
        refine s_iadd hK dL_act_304 ?_
        obtain ⟨b, eb⟩ : ∃ b : Bool, (2 : Int32) + nI k = nI (if b then 2 else 3) := by
          rcases (show k = 0 ∨ k = 1 by omega) with rfl | rfl
          · exact ⟨true, by decide⟩
          · exact ⟨false, by decide⟩
        rw [eb]
        have th := mirror_th (L := S.1) hc t0 b
        refine s_iastoreN hK dL_act_305 t1 hy (by omega) ?_
        obtain ⟨M1, F1⟩ := M.thing (v := nI (if b then 2 else 3)) (L' := oMirror S.1 c b) hx hy t1 (fun j hj => by
          rw [ec, show thg (oMirror S.1 c b) j = thg (reL (oMirror S.1 c b)) j from thg_of rfl rfl rfl rfl, th j hj]
          by_cases e : j = c
          · rw [if_pos e, if_pos e]
          · rw [if_neg e, if_neg e]) ⟨by cases b <;> rfl, by cases b <;> rfl, by cases b <;> rfl⟩
        generalize gU h (m 2 + 1 + c % 9) (.inl (0, 7, .inl (upd ft (c / 9) (nI (if b then 2 else 3))))) = h3 at M1 F1 ⊢
        have M4 : SimAt h3 m (reL (oMirror S.1 c b), S.2) := M1.reL
        have Fs : sFr m (8 + S.2.2.2.1) h h3 := fun p hp hn => F1 p (fun z => hp ⟨2, by omega, z⟩)
        have C3 := C.sim D Fs
        have Ca := C3.1
        have C0 := M4.c0
        have I' := iMirror (x := nI (c % 9)) (y := nI (c / 9)) (b := b) I
        rw [fMirror_n hc b t0 hl] at I'
        have A4 := M4.c2
        obtain ⟨fa4, a41, a42⟩ := A4.2 _ hx
        have a43 : fa4 (c / 9) = nI (thg (reL (oMirror S.1 c b)) (9 * (c / 9) + c % 9)) := a42 _ hy
        rw [ec, th c hc, if_pos rfl] at a43
        have key : K 328 [some (.ref a), some (.ref (m 0)), some (.int z), some (.int (nI (c % 9))), some (.int (nI (c / 9))), some (.int (nI S.2.2.2.1)), some (.int (nI (thg S.1 c))), none, none, none, none, none, none, none, none] [.int (b01 b), .int (nI (c / 9)), .int (nI (c % 9)), .ref a] h3 bc bs := by
          refine s_V3 hK (mc := 4) (ms := 24) dL_act_328 kV_L_64 (by assumption) (by rfl) (by omega) (by omega) ?_
          refine c_mirror _ C3 (by omega) (by omega) (gDone_of (fMirror_n hc b t0 hl) (fun h4 C4 F4 => ?_))
          have M5 := M4.cls D F4
          have C0 := M5.c0
          refine s_aload_n hK dL_act_331 rfl ?_
          refine s_iconst hK (v := nI 2) dL_act_332 (by decide) ?_
          refine s_V10 hK dL_act_333 kV_L_50 (by assumption) (by rfl) ?_
          refine c_thingsS _ (t := 2) (by omega) M5 ?_
          refine s_aload_n hK dL_act_336 rfl ?_
          refine s_iconst hK (v := nI 3) dL_act_337 (by decide) ?_
          refine s_V10 hK dL_act_338 kV_L_50 (by assumption) (by rfl) ?_
          refine c_thingsS _ (t := 3) (by omega) M5 ?_
          refine s_iadd hK dL_act_341 ?_
          rw [nI_add, cnt_23 I'.1.2.2.1]
          refine s_icmpne hK dL_act_342 349 (by decide) (fun c_342 => ?_) (fun c_342 => ?_)
          · exact absurd rfl c_342
          · refine s_iconst hK (v := 1) dL_act_345 (by decide) ?_
            refine s_goto hK dL_act_346 350 (by decide) ?_
            refine s_ireturn hK dL_act_350 rfl (by first | rfl | exact b01_nar _) ?_
            exact P.fin D (by rfl) I' C4 M5 (fun p p1 p2 p3 => (F4 p p2.out).trans (Fs p p3 p1))
        refine s_aload_n hK dL_act_306 rfl ?_
        refine s_iload_n hK dL_act_307 rfl ?_
        refine s_iload hK dL_act_308 rfl ?_
        refine s_aload_n hK dL_act_310 rfl ?_
        refine s_getfield hK dL_act_311 kF_L_21 (by assumption) (by rfl) ?_
        refine s_iload_n hK dL_act_314 rfl ?_
        refine s_aaload hK dL_act_315 A4.1 rfl hx (by omega) (if_pos hx) ?_
        refine s_iload hK dL_act_316 rfl ?_
        refine s_ialoadN hK dL_act_318 a41 hy (by omega) ?_
        rw [a43]
        refine s_iconst hK (v := 2) dL_act_319 (by decide) ?_
        cases b with
        | true =>
          refine s_icmpne hK dL_act_320 327 (by decide) (fun c_320 => ?_) (fun c_320 => ?_)
          · exact absurd rfl c_320
          · refine s_iconst hK (v := 1) dL_act_323 (by decide) ?_
            refine s_goto hK dL_act_324 328 (by decide) ?_
            exact key
        | false =>
          refine s_icmpne hK dL_act_320 327 (by decide) (fun c_320 => ?_) (fun c_320 => ?_)
          · refine s_iconst hK (v := 0) dL_act_327 (by decide) ?_
            exact key
          · exact absurd c_320 (by decide)
      · refine s_iconst hK (v := 1) dL_act_286 (by decide) ?_
        refine s_ireturn hK dL_act_287 rfl (by first | rfl | exact b01_nar _) ?_
        exact P.same I C M D
  · refine s_ifne hK dL_act_267 286 (by decide) (fun c_267 => ?_) (fun c_267 => ?_)
    · refine s_iconst hK (v := 1) dL_act_286 (by decide) ?_
      refine s_ireturn hK dL_act_287 rfl (by first | rfl | exact b01_nar _) ?_
      exact P.same I C M D
    · exact absurd ((nI_eq (b := 0) (by omega) (by omega)).mp c_267) t0
set_option maxRecDepth 10000 in
theorem a_tally (d : Nat) {a : Nat} {n n' m : Nat → Nat} {S : CS} {i c : Nat} {z : Int32} {Post : Option Value → gH → Prop} {X : String → gH → Prop} {K : gK} (hK : gClosed (gSafe (d + 7)) mL_act (d + 7 + 1) Post X (fun _ => none) K) (I : InvC S i) (hc : c < 63) {h : gH} (C : ClsAt h a n n' S) (M : SimAt h m S) (D : Dj a n n' m (8 + S.2.2.2.1)) (P : ActP Post h a n n' m S i) {bc bs : Nat} (hbc : 60 ≤ bc) (hbs : 400 ≤ bs) : K 351 [some (.ref a), some (.ref (m 0)), some (.int z), some (.int (nI (c % 9))), some (.int (nI (c / 9))), some (.int (nI S.2.2.2.1)), some (.int (nI (thg S.1 c))), none, none, none, none, none, none, none, none] [] h bc bs := by
  have V := I.1
  have ok := V.1
  have T := V.2.2.1
  have hx : c % 9 < 9 := Nat.mod_lt _ (by omega)
  have hy : c / 9 < 7 := by omega
  have ec : 9 * (c / 9) + c % 9 = c := by omega
  have t5 := thg_lt S.1 c
  have C0 := M.c0
  refine s_iload hK dL_act_351 rfl ?_
  by_cases t0 : thg S.1 c = 0
  · refine s_ifne hK dL_act_353 366 (by decide) (fun c_353 => ?_) (fun c_353 => ?_)
    · exact absurd (by rw [t0]; rfl) c_353
    · refine s_aload_n hK dL_act_356 rfl ?_
      refine s_iconst hK (v := nI 4) dL_act_357 (by decide) ?_
      refine s_V10 hK dL_act_358 kV_L_50 (by assumption) (by rfl) ?_
      refine c_thingsS _ (t := 4) (by omega) M ?_
      refine s_bipush hK (v := 6) dL_act_361 (by decide) ?_
      refine s_icmpne hK dL_act_363 368 (by decide) (fun c_363 => ?_) (fun c_363 => ?_)
      · have b1 := I.2.2.2.2.1
        rw [inT_1] at b1
        have hl : iPop (S.1 4) < nI 6 := by
          rw [cnt_4 T]
          exact nI_lt (Nat.lt_of_le_of_ne b1 (fun e => c_363 (by rw [e]; rfl))) (by omega)
        have T2 := M.c2
        obtain ⟨ft, t1, t2⟩ := T2.2 _ hx
        have th := tally_th (L := S.1) hc t0
        refine s_aload_n hK dL_act_368 rfl ?_
        refine s_getfield hK dL_act_369 kF_L_21 (by assumption) (by rfl) ?_
        refine s_iload_n hK dL_act_372 rfl ?_
        refine s_aaload hK dL_act_373 T2.1 rfl hx (by omega) (if_pos hx) ?_
        refine s_iload hK dL_act_374 rfl ?_
        refine s_iconst hK (v := 4) dL_act_376 (by decide) ?_
        refine s_iastoreN hK dL_act_377 t1 hy (by omega) ?_
        obtain ⟨M4, F1⟩ := M.thing (v := 4) (L' := oTally S.1 c) hx hy t1 (fun j hj => by
          rw [ec, th j hj]
          by_cases e : j = c
          · rw [if_pos e, if_pos e]; rfl
          · rw [if_neg e, if_neg e]) ⟨rfl, rfl, rfl⟩
        generalize gU h (m 2 + 1 + c % 9) (.inl (0, 7, .inl (upd ft (c / 9) 4))) = h3 at M4 F1 ⊢
        have Fs : sFr m (8 + S.2.2.2.1) h h3 := fun p hp hn => F1 p (fun z => hp ⟨2, by omega, z⟩)
        have C3 := C.sim D Fs
        have Ca := C3.1
        have I' := iTally (x := nI (c % 9)) (y := nI (c / 9)) I
        rw [fTally_n hc t0 hl] at I'
        refine s_aload_n hK dL_act_378 rfl ?_
        refine s_iload_n hK dL_act_379 rfl ?_
        refine s_iload hK dL_act_380 rfl ?_
        refine s_V2 hK (mc := 4) (ms := 24) dL_act_382 kV_L_68 (by assumption) (by rfl) (by omega) (by omega) ?_
        refine c_tally _ C3 (by omega) (by omega) (gDone_of (fTally_n hc t0 hl) (fun h4 C4 F4 => ?_))
        have M5 := M4.cls D F4
        have C0 := M5.c0
        refine s_aload_n hK dL_act_385 rfl ?_
        refine s_iconst hK (v := nI 4) dL_act_386 (by decide) ?_
        refine s_V10 hK dL_act_387 kV_L_50 (by assumption) (by rfl) ?_
        refine c_thingsS _ (t := 4) (by omega) M5 ?_
        rw [cnt_4 I'.1.2.2.1]
        refine s_icmpne hK dL_act_390 397 (by decide) (fun c_390 => ?_) (fun c_390 => ?_)
        · exact absurd rfl c_390
        · refine s_iconst hK (v := 1) dL_act_393 (by decide) ?_
          refine s_goto hK dL_act_394 398 (by decide) ?_
          refine s_ireturn hK dL_act_398 rfl (by first | rfl | exact b01_nar _) ?_
          exact P.fin D (by rfl) I' C4 M5 (fun p p1 p2 p3 => (F4 p p2.out).trans (Fs p p3 p1))
      · refine s_iconst hK (v := 1) dL_act_366 (by decide) ?_
        refine s_ireturn hK dL_act_367 rfl (by first | rfl | exact b01_nar _) ?_
        exact P.same I C M D
  · refine s_ifne hK dL_act_353 366 (by decide) (fun c_353 => ?_) (fun c_353 => ?_)
    · refine s_iconst hK (v := 1) dL_act_366 (by decide) ?_
      refine s_ireturn hK dL_act_367 rfl (by first | rfl | exact b01_nar _) ?_
      exact P.same I C M D
    · exact absurd ((nI_eq (b := 0) (by omega) (by omega)).mp c_353) t0
set_option maxRecDepth 10000 in
theorem a_remove (d : Nat) {a : Nat} {n n' m : Nat → Nat} {S : CS} {i c : Nat} {z : Int32} {Post : Option Value → gH → Prop} {X : String → gH → Prop} {K : gK} (hK : gClosed (gSafe (d + 7)) mL_act (d + 7 + 1) Post X (fun _ => none) K) (I : InvC S i) (hc : c < 63) {h : gH} (C : ClsAt h a n n' S) (M : SimAt h m S) (D : Dj a n n' m (8 + S.2.2.2.1)) (P : ActP Post h a n n' m S i) {bc bs : Nat} (hbc : 60 ≤ bc) (hbs : 400 ≤ bs) : K 399 [some (.ref a), some (.ref (m 0)), some (.int z), some (.int (nI (c % 9))), some (.int (nI (c / 9))), some (.int (nI S.2.2.2.1)), some (.int (nI (thg S.1 c))), none, none, none, none, none, none, none, none] [] h bc bs := by
  have V := I.1
  have ok := V.1
  have T := V.2.2.1
  have hx : c % 9 < 9 := Nat.mod_lt _ (by omega)
  have hy : c / 9 < 7 := by omega
  have ec : 9 * (c / 9) + c % 9 = c := by omega
  have t5 := thg_lt S.1 c
  have C0 := M.c0
  refine s_iload hK dL_act_399 rfl ?_
  by_cases t0 : thg S.1 c = 0
  · refine s_ifeq hK dL_act_401 414 (by decide) (fun c_401 => ?_) (fun c_401 => ?_)
    · refine s_iconst hK (v := 1) dL_act_414 (by decide) ?_
      refine s_ireturn hK dL_act_415 rfl (by first | rfl | exact b01_nar _) ?_
      exact P.same I C M D
    · exact absurd (by rw [t0]; rfl) c_401
  · refine s_ifeq hK dL_act_401 414 (by decide) (fun c_401 => ?_) (fun c_401 => ?_)
    · exact absurd ((nI_eq (b := 0) (by omega) (by omega)).mp c_401) t0
    · refine s_iload_n hK dL_act_404 rfl ?_
      refine s_iconst hK (v := 5) dL_act_405 (by decide) ?_
      refine s_ishr hK dL_act_406 ?_
      refine s_iconst hK (v := nI 3) dL_act_407 (by decide) ?_
      refine s_S20 hK dL_act_408 kS_L_9 (by rfl) ?_
      refine c_belN _ (by omega) (by omega) ?_
      generalize belN (z >>> (5 &&& 31)) 3 = k
      refine s_ifle hK dL_act_411 416 (by decide) (fun c_411 => ?_) (fun c_411 => ?_)
      · have T2 := M.c2
        obtain ⟨ft, t1, t2⟩ := T2.2 _ hx
        have th := clear_th (L := S.1) hc
        refine s_aload_n hK dL_act_416 rfl ?_
        refine s_getfield hK dL_act_417 kF_L_21 (by assumption) (by rfl) ?_
        refine s_iload_n hK dL_act_420 rfl ?_
        refine s_aaload hK dL_act_421 T2.1 rfl hx (by omega) (if_pos hx) ?_
        refine s_iload hK dL_act_422 rfl ?_
        refine s_iconst hK (v := 0) dL_act_424 (by decide) ?_
        refine s_iastoreN hK dL_act_425 t1 hy (by omega) ?_
        obtain ⟨M1, F1⟩ := M.thing (v := 0) (L' := vp_updL (oClear S.1 c) 1 (S.1 1)) hx hy t1 (fun j hj => by
          rw [ec, show thg (vp_updL (oClear S.1 c) 1 (S.1 1)) j = thg (reL (oClear S.1 c)) j from thg_of rfl rfl rfl rfl, th j hj]
          by_cases e : j = c
          · rw [if_pos e, if_pos e]; rfl
          · rw [if_neg e, if_neg e]) ⟨rfl, rfl, rfl⟩
        generalize gU h (m 2 + 1 + c % 9) (.inl (0, 7, .inl (upd ft (c / 9) 0))) = h1 at M1 F1 ⊢
        have A2 := M1.c3
        obtain ⟨fa, a1, a2⟩ := A2.2 _ hx
        have C0 := M1.c0
        refine s_aload_n hK dL_act_426 rfl ?_
        refine s_getfield hK dL_act_427 kF_L_53 (by assumption) (by rfl) ?_
        refine s_iload_n hK dL_act_430 rfl ?_
        refine s_aaload hK dL_act_431 A2.1 rfl hx (by omega) (if_pos hx) ?_
        refine s_iload hK dL_act_432 rfl ?_
        refine s_iconst hK (v := 0) dL_act_434 (by decide) ?_
        refine s_iastoreN hK dL_act_435 a1 hy (by omega) ?_
        obtain ⟨M2, F2⟩ := M1.val (v := 0) hx hy a1
        rw [ec] at M2
        generalize gU h1 (m 3 + 1 + c % 9) (.inl (0, 7, .inl (upd fa (c / 9) 0))) = h2 at M2 F2 ⊢
        have B2 := M2.c4
        obtain ⟨fb, b1, b2⟩ := B2.2 _ hx
        have C0 := M2.c0
        refine s_aload_n hK dL_act_436 rfl ?_
        refine s_getfield hK dL_act_437 kF_L_56 (by assumption) (by rfl) ?_
        refine s_iload_n hK dL_act_440 rfl ?_
        refine s_aaload hK dL_act_441 B2.1 rfl hx (by omega) (if_pos hx) ?_
        refine s_iload hK dL_act_442 rfl ?_
        refine s_iconst hK (v := 0) dL_act_444 (by decide) ?_
        refine s_bastoreN hK dL_act_445 b1 hy (by omega) ?_
        obtain ⟨M3, F3⟩ := M2.burn (v := 0) (L' := oClear S.1 c) hx hy false (by decide) b1 (fun j hj => by
          show lb (S.1 1 &&& (bOnly c ^^^ (-1))) j = if _ then false else lb (S.1 1) j
          rw [ec, and_but hc hj]
          by_cases e : j = c
          · simp [e]
          · simp [e]) (fun k k1 k7 => (if_neg k1).symm)
        generalize gU h2 (m 4 + 1 + c % 9) (.inl (1, 7, .inl (upd fb (c / 9) (vp_nar .boolean 0)))) = h3 at M3 F3 ⊢
        have M4 : SimAt h3 m (reL (oClear S.1 c), upd S.2.1 c 0, S.2.2) := M3.reL
        have Fs : sFr m (8 + S.2.2.2.1) h h3 := fun p hp hn => (F3 p (fun z => hp ⟨4, by omega, z⟩)).trans ((F2 p (fun z => hp ⟨3, by omega, z⟩)).trans (F1 p (fun z => hp ⟨2, by omega, z⟩)))
        have C3 := C.sim D Fs
        have Ca := C3.1
        have I' := iRemove (x := nI (c % 9)) (y := nI (c / 9)) I
        rw [fRemove_n hc t0] at I'
        refine s_aload_n hK dL_act_446 rfl ?_
        refine s_iload_n hK dL_act_447 rfl ?_
        refine s_iload hK dL_act_448 rfl ?_
        refine s_V2 hK (mc := 4) (ms := 24) dL_act_450 kV_L_71 (by assumption) (by rfl) (by omega) (by omega) ?_
        refine c_remove _ C3 (by omega) (by omega) (gDone_of (fRemove_n hc t0) (fun h4 C4 F4 => ?_))
        have M5 := M4.cls D F4
        refine s_iload hK dL_act_453 rfl ?_
        refine s_icmpne hK dL_act_455 462 (by decide) (fun c_455 => ?_) (fun c_455 => ?_)
        · exact absurd rfl c_455
        · refine s_iconst hK (v := 1) dL_act_458 (by decide) ?_
          refine s_goto hK dL_act_459 463 (by decide) ?_
          refine s_ireturn hK dL_act_463 rfl (by first | rfl | exact b01_nar _) ?_
          exact P.fin D (by rfl) I' C4 M5 (fun p p1 p2 p3 => (F4 p p2.out).trans (Fs p p3 p1))
      · refine s_iconst hK (v := 1) dL_act_414 (by decide) ?_
        refine s_ireturn hK dL_act_415 rfl (by first | rfl | exact b01_nar _) ?_
        exact P.same I C M D
set_option maxRecDepth 10000 in
theorem a_light (d : Nat) {a : Nat} {n n' m : Nat → Nat} {S : CS} {i c : Nat} {z : Int32} {Post : Option Value → gH → Prop} {X : String → gH → Prop} {K : gK} (hK : gClosed (gSafe (d + 7)) mL_act (d + 7 + 1) Post X (fun _ => none) K) (I : InvC S i) (hc : c < 63) {h : gH} (C : ClsAt h a n n' S) (M : SimAt h m S) (D : Dj a n n' m (8 + S.2.2.2.1)) (P : ActP Post h a n n' m S i) {bc bs : Nat} (hbc : 60 ≤ bc) (hbs : 400 ≤ bs) : K 464 [some (.ref a), some (.ref (m 0)), some (.int z), some (.int (nI (c % 9))), some (.int (nI (c / 9))), some (.int (nI S.2.2.2.1)), some (.int (nI (thg S.1 c))), none, none, none, none, none, none, none, none] [] h bc bs := by
  have V := I.1
  have ok := V.1
  have T := V.2.2.1
  have hx : c % 9 < 9 := Nat.mod_lt _ (by omega)
  have hy : c / 9 < 7 := by omega
  have ec : 9 * (c / 9) + c % 9 = c := by omega
  have t5 := thg_lt S.1 c
  have C0 := M.c0
  refine s_iload hK dL_act_464 rfl ?_
  refine s_iconst hK (v := 1) dL_act_466 (by decide) ?_
  by_cases t0 : thg S.1 c = 1
  · refine s_icmpne hK dL_act_467 482 (by decide) (fun c_467 => ?_) (fun c_467 => ?_)
    · exact absurd (by rw [t0]; rfl) c_467
    · have A2 := M.c3
      obtain ⟨fa, a1, a2⟩ := A2.2 _ hx
      have a3 := a2 _ hy
      rw [ec] at a3
      obtain ⟨v, v1, v2, -⟩ := T.2.2.2.2.2 c hc
      rw [v2] at a3
      refine s_aload_n hK dL_act_470 rfl ?_
      refine s_getfield hK dL_act_471 kF_L_53 (by assumption) (by rfl) ?_
      refine s_iload_n hK dL_act_474 rfl ?_
      refine s_aaload hK dL_act_475 A2.1 rfl hx (by omega) (if_pos hx) ?_
      refine s_iload hK dL_act_476 rfl ?_
      refine s_ialoadN hK dL_act_478 a1 hy (by omega) ?_
      rw [a3]
      refine s_ifne hK dL_act_479 484 (by decide) (fun c_479 => ?_) (fun c_479 => ?_)
      · have v0 : 0 < v := Nat.pos_of_ne_zero (fun e => c_479 (by rw [e]; rfl))
        have cw : cwax S.1 S.2.1 c = true := by
          unfold cwax
          rw [thg_1 t0, v2]
          show (true && decide (nI 0 < nI v)) = true
          rw [decide_eq_true (nI_lt v0 (by omega))]
          rfl
        have B2 := M.c4
        obtain ⟨fb, b1, b2⟩ := B2.2 _ hx
        have b3 := b2 _ hy
        rw [ec] at b3
        have go : K 509 [some (.ref a), some (.ref (m 0)), some (.int z), some (.int (nI (c % 9))), some (.int (nI (c / 9))), some (.int (nI S.2.2.2.1)), some (.int (nI (thg S.1 c))), none, none, none, none, none, none, none, none] [.int (b01 (!lb (S.1 1) c)), .int (nI (c / 9)), .ref (m 4 + 1 + c % 9)] h bc bs := by
          refine s_bastoreN hK dL_act_509 b1 hy (by omega) ?_
          obtain ⟨M3, F3⟩ := M.burn (v := b01 (!lb (S.1 1) c)) (L' := oSwitch S.1 c) hx hy (!lb (S.1 1) c) rfl b1 (fun j hj => by
            show lb (S.1 1 ^^^ bOnly c) j = if _ then _ else lb (S.1 1) j
            rw [ec, lb_xor, lb_only (by omega)]
            by_cases e : j = c
            · simp [e]
            · simp [e]) (fun k k1 k7 => if_neg k1)
          generalize gU h (m 4 + 1 + c % 9) (.inl (1, 7, .inl (upd fb (c / 9) (vp_nar .boolean (b01 (!lb (S.1 1) c)))))) = h3 at M3 F3 ⊢
          have M4 : SimAt h3 m (reL (oSwitch S.1 c), S.2) := M3.reL
          have Fs : sFr m (8 + S.2.2.2.1) h h3 := fun p hp hn => F3 p (fun z => hp ⟨4, by omega, z⟩)
          have C3 := C.sim D Fs
          have Ca := C3.1
          have I' := iLight (x := nI (c % 9)) (y := nI (c / 9)) I
          rw [fLight_n hc cw] at I'
          refine s_aload_n hK dL_act_510 rfl ?_
          refine s_iload_n hK dL_act_511 rfl ?_
          refine s_iload hK dL_act_512 rfl ?_
          refine s_V2 hK (mc := 4) (ms := 24) dL_act_514 kV_L_74 (by assumption) (by rfl) (by omega) (by omega) ?_
          refine c_light _ C3 (by omega) (by omega) (gDone_of (fLight_n hc cw) (fun h4 C4 F4 => ?_))
          have M5 := M4.cls D F4
          have C0 := M5.c0
          have B5 := M5.c4
          obtain ⟨fb5, b51, b52⟩ := B5.2 _ hx
          have b53 := b52 _ hy
          rw [ec] at b53
          have b53 : fb5 (c / 9) = b01 (lb (reL (oSwitch S.1 c) 1) c) := b53
          refine s_aload_n hK dL_act_517 rfl ?_
          refine s_getfield hK dL_act_518 kF_L_56 (by assumption) (by rfl) ?_
          refine s_iload_n hK dL_act_521 rfl ?_
          refine s_aaload hK dL_act_522 B5.1 rfl hx (by omega) (if_pos hx) ?_
          refine s_iload hK dL_act_523 rfl ?_
          refine s_baloadN hK dL_act_525 b51 hy (by omega) ?_
          rw [b53]
          refine s_icmpne hK dL_act_526 533 (by decide) (fun c_526 => ?_) (fun c_526 => ?_)
          · exact absurd rfl c_526
          · refine s_iconst hK (v := 1) dL_act_529 (by decide) ?_
            refine s_goto hK dL_act_530 534 (by decide) ?_
            refine s_ireturn hK dL_act_534 rfl (by first | rfl | exact b01_nar _) ?_
            exact P.fin D (by rfl) I' C4 M5 (fun p p1 p2 p3 => (F4 p p2.out).trans (Fs p p3 p1))
        refine s_aload_n hK dL_act_484 rfl ?_
        refine s_getfield hK dL_act_485 kF_L_56 (by assumption) (by rfl) ?_
        refine s_iload_n hK dL_act_488 rfl ?_
        refine s_aaload hK dL_act_489 B2.1 rfl hx (by omega) (if_pos hx) ?_
        refine s_iload hK dL_act_490 rfl ?_
        refine s_aload_n hK dL_act_492 rfl ?_
        refine s_getfield hK dL_act_493 kF_L_56 (by assumption) (by rfl) ?_
        refine s_iload_n hK dL_act_496 rfl ?_
        refine s_aaload hK dL_act_497 B2.1 rfl hx (by omega) (if_pos hx) ?_
        refine s_iload hK dL_act_498 rfl ?_
        refine s_baloadN hK dL_act_500 b1 hy (by omega) ?_
        rw [b3]
        cases eb : lb (S.1 1) c with
        | true =>
          rw [eb] at go
          refine s_ifne hK dL_act_501 508 (by decide) (fun c_501 => ?_) (fun c_501 => ?_)
          · refine s_iconst hK (v := 0) dL_act_508 (by decide) ?_
            exact go
          · exact absurd c_501 (by decide)
        | false =>
          rw [eb] at go
          refine s_ifne hK dL_act_501 508 (by decide) (fun c_501 => ?_) (fun c_501 => ?_)
          · exact absurd rfl c_501
          · refine s_iconst hK (v := 1) dL_act_504 (by decide) ?_
            refine s_goto hK dL_act_505 509 (by decide) ?_
            exact go
      · refine s_iconst hK (v := 1) dL_act_482 (by decide) ?_
        refine s_ireturn hK dL_act_483 rfl (by first | rfl | exact b01_nar _) ?_
        exact P.same I C M D
  · refine s_icmpne hK dL_act_467 482 (by decide) (fun c_467 => ?_) (fun c_467 => ?_)
    · refine s_iconst hK (v := 1) dL_act_482 (by decide) ?_
      refine s_ireturn hK dL_act_483 rfl (by first | rfl | exact b01_nar _) ?_
      exact P.same I C M D
    · exact absurd ((nI_eq (b := 1) (by omega) (by omega)).mp c_467) t0
