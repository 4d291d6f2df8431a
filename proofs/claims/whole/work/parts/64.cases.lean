/-! the law's cases, one by one -/
theorem cdA_ne (E : String) : cdA E ≠ 0 := by
  unfold cdA
  split
  · decide
  · split <;> decide
theorem cdB_ne (E : String) : cdB E ≠ 0 := by
  unfold cdB
  split <;> decide
theorem cdC_ne (E : String) : cdC E ≠ 0 := by
  unfold cdC
  split <;> decide
theorem ans_key {cd : String → Int32} (hn : ∀ E, cd E ≠ 0) {r : gR} {k thr v : Int32} {f : Nat → Int64} (R1 : wRes cd r k f) (R2 : mAns cd r thr v) : thr = k ∧ (k = 0 → f 0 = v.toInt64 ∧ r = .inr (.int v)) := by
  cases r with
  | inl E =>
    have R1 : k = cd E := R1
    have R2 : thr = cd E := R2
    exact ⟨by rw [R1, R2], fun z => absurd (R1.symm.trans z) (hn E)⟩
  | inr x =>
    obtain ⟨h1, w, h2, h3⟩ : k = 0 ∧ ∃ w : Int32, x = .int w ∧ f 0 = w.toInt64 := R1
    obtain ⟨h4, h5⟩ : thr = 0 ∧ x = .int v := R2
    rw [h5] at h2
    cases h2
    exact ⟨by rw [h1, h4], fun _ => ⟨h3, by rw [h5]⟩⟩
theorem bl_key {Q : String → Prop} {r : gAns} {v : Int32} (h : (∃ E, r.1 = .inl E ∧ Q E) ∨ ∃ b : Bool, r.1 = vI (b01 b)) (e : r.1 = .inr (.int v)) : ∃ b : Bool, v = b01 b := by
  rcases h with ⟨E, h1, -⟩ | ⟨b, h1⟩
  · rw [h1] at e
    cases e
  · rw [h1] at e
    exact ⟨b, by cases e; rfl⟩
theorem s_nz {call : gC} {y : gM} {d : Nat} {Post : Option Value → gH → Prop} {X : String → gH → Prop} {ro : Nat → Option (Nat × (Nat → Int32))} {K : gK} {pc : Nat} {lv : gL} {r : List Value} {h : gH} {bc bs : Nat} (hK : gClosed call y d Post X ro K) {x : Int32}
    (d1 : decode y.2.1 pc = .ok (.ifCond .eq 7, 3)) (d2 : decode y.2.1 (pc + 3) = .ok (.iconst 1, 1)) (d3 : decode y.2.1 (pc + 4) = .ok (.goto 4, 3)) (d4 : decode y.2.1 (pc + 7) = .ok (.iconst 0, 1)) (k : K (pc + 8) lv (.int (b01 (!decide (x = 0))) :: r) h bc bs) : K pc lv (.int x :: r) h bc bs := by
  refine s_ifeq hK d1 (pc + 7) (by omega) (fun c1 => ?_) (fun c1 => ?_)
  · refine s_iconst hK (v := 0) d4 (by decide) ?_
    rw [show (!decide (x = 0)) = false by simp [show x = 0 from c1]] at k
    exact k
  · refine s_iconst hK (v := 1) d2 (by decide) ?_
    refine s_goto hK d3 (pc + 8) (by omega) ?_
    rw [show (!decide (x = 0)) = true by simp [show ¬ x = 0 from c1]] at k
    exact k
theorem kCell {S : CS} {i : Nat} {x y z : Int32} (C : InvC S i) : InvC (fCell S x y z).2 (i + 1) := by
  unfold fCell
  repeat' split
  all_goals exact C.up
theorem kReaches {S : CS} {i : Nat} {x y z : Int32} (C : InvC S i) : InvC (fReaches S x y z).2 (i + 1) := by
  unfold fReaches
  repeat' split
  all_goals exact C.up
theorem kCount {S : CS} {i : Nat} {x : Int32} (C : InvC S i) : InvC (fCount S x).2 (i + 1) := by
  unfold fCount
  repeat' split
  all_goals exact C.up
theorem kGhost {S : CS} {i : Nat} {x y : Int32} (C : InvC S i) : InvC (fGhost S x y).2 (i + 1) := by
  unfold fGhost
  repeat' split
  all_goals exact C.up
theorem kWay {S : CS} {i : Nat} {x y z : Int32} (C : InvC S i) : InvC (fWay S x y z).2 (i + 1) := by
  unfold fWay
  repeat' split
  all_goals exact C.up
theorem kForesee {S : CS} {i : Nat} {x y : Int32} (C : InvC S i) : InvC (fForesee S x y).2 (i + 1) := by
  unfold fForesee
  repeat' split
  all_goals exact C.up
theorem kWalled {S : CS} {i : Nat} {x y z : Int32} (C : InvC S i) : InvC (fWalled S x y z).2 (i + 1) := by
  unfold fWalled
  repeat' split
  all_goals exact C.up
theorem kShines {S : CS} {i : Nat} {x y : Int32} (C : InvC S i) : InvC (fShines S x y).2 (i + 1) := by
  unfold fShines
  repeat' split
  all_goals exact C.up
theorem kNext {S : CS} {i : Nat} {x : Int32} (C : InvC S i) : InvC (fNext S x).2 (i + 1) := by
  unfold fNext
  repeat' split
  all_goals exact C.up
theorem kAdvise {S : CS} {i : Nat} {x : Int32} (C : InvC S i) : InvC (fAdvise S x).2 (i + 1) := by
  unfold fAdvise
  repeat' split
  all_goals exact C.up
set_option maxRecDepth 10000 in
theorem l_wall {ro : Nat → Option (Nat × (Nat → Int32))} {K : gK} (hK : gClosed (gSafe 13) mL_law 14 lwPost lwX ro K) {b L : Nat} {xs : Nat → Int32} (hro : ro b = some (L, xs)) (hL : L ≤ 2048) {q : Nat} (hq : q + 3 < L) {a o : Nat} {n n' m : Nat → Nat} {S : CS} {i : Nat} (I : InvC S i) (hi : i ≤ 512) {h : gH} (A : LawAt h a o n n' m S) {w5 w6 w7 w8 : Option Value} {bc bs : Nat} (hbc : 80 ≤ bc) (hbs : 500 ≤ bs) (next : ∀ h' S' w5 w6 w7 w8 bc' bs', InvC S' (i + 1) → LawAt h' a o n n' m S' → bc ≤ bc' + 80 → bs ≤ bs' + 500 → K 1640 [some (.ref b), some (.ref a), some (.ref (m 0)), some (.ref o), some (.int (nI q)), w5, w6, w7, w8] [] h' bc' bs') : K 140 [some (.ref b), some (.ref a), some (.ref (m 0)), some (.ref o), some (.int (nI q)), w5, w6, w7, w8] [] h bc bs := by
  obtain ⟨C, ⟨thr, lt, st, rw, M⟩, ⟨fo, O⟩, D⟩ := A
  have V := I.1
  refine s_aload_n hK dL_law_140 rfl ?_
  refine s_ro hK (cc := 1) dL_law_141 dL_law_142 dL_law_144 dL_law_145 dL_law_146 rfl rfl (by decide) hro (by omega) (by omega) ?_
  refine s_ro hK (cc := 2) dL_law_147 dL_law_148 dL_law_150 dL_law_151 dL_law_152 rfl rfl (by decide) hro (by omega) (by omega) ?_
  refine s_ro hK (cc := 3) dL_law_153 dL_law_154 dL_law_156 dL_law_157 dL_law_158 rfl rfl (by decide) hro (by omega) (by omega) ?_
  refine s_aload_n hK dL_law_159 rfl ?_
  refine s_W5 hK (mc := 4) (ms := 24) dL_law_160 kW_L_85 (by rfl) (by omega) (by omega) ?_
  refine w_wall _ C V.1 O (by omega) (by omega) (fun h1 k f1 C1 O1 F1 R1 => ?_)
  have M1 := law_M M O C D F1
  have M0 := M1.own0
  refine s_istore hK dL_law_163 rfl ?_
  refine s_aload_n hK dL_law_165 rfl ?_
  refine s_ro hK (cc := 1) dL_law_166 dL_law_167 dL_law_169 dL_law_170 dL_law_171 rfl rfl (by decide) hro (by omega) (by omega) ?_
  refine s_ro hK (cc := 2) dL_law_172 dL_law_173 dL_law_175 dL_law_176 dL_law_177 rfl rfl (by decide) hro (by omega) (by omega) ?_
  refine s_ro hK (cc := 3) dL_law_178 dL_law_179 dL_law_181 dL_law_182 dL_law_183 rfl rfl (by decide) hro (by omega) (by omega) ?_
  refine s_V30 hK dL_law_184 kV_L_90 (by first | assumption | exact H.1 | exact H.2.1) (by rfl) ?_
  refine c_wallM _ M1 V.2.1 (fun h2 thr2 v2 lt2 st2 rw2 M2 F2 R2 => ?_)
  obtain ⟨C2, O2⟩ := law_C M1 O1 C1 D F2
  have M0 := M2.own0
  obtain ⟨key1, key2⟩ := ans_key cdA_ne R1 R2
  refine s_istore hK dL_law_187 rfl ?_
  refine s_aload_n hK dL_law_189 rfl ?_
  refine s_V00 hK dL_law_190 kV_L_91 (by first | assumption | exact H.1 | exact H.2.1) (by rfl) ?_
  refine c_thrown _ M2 ?_
  refine s_iload hK dL_law_193 rfl ?_
  refine s_icmpeq hK dL_law_195 200 (by decide) (fun c_195 => ?_) (fun c_195 => ?_)
  · refine s_iload hK dL_law_200 rfl ?_
    refine s_ifne hK dL_law_202 224 (by decide) (fun c_202 => ?_) (fun c_202 => ?_)
    · refine s_goto hK dL_law_224 1640 (by decide) ?_
      exact next h2 (fWall S (xs (q + 1)) (xs (q + 2)) (xs (q + 3))).2 _ _ _ _ _ _ (iWall I) ⟨C2, ⟨_, _, _, _, M2⟩, ⟨f1, O2⟩, D⟩ (by omega) (by omega)
    · have k0 : k = 0 := Decidable.of_not_not (by first | exact c_202 | exact fun w => w c_202)
      refine s_aload_n hK dL_law_205 rfl ?_
      refine s_iconst hK (v := 0) dL_law_206 (by decide) ?_
      refine s_laloadN hK (j := 0) dL_law_207 O2 (by omega) (by omega) ?_
      rw [(key2 k0).1]
      obtain ⟨bv, ebv⟩ := bl_key (rWall S (xs (q + 1)) (xs (q + 2)) (xs (q + 3))) (key2 k0).2
      rw [ebv]
      refine s_iload hK dL_law_208 rfl ?_
      cases bv with
      | false =>
        refine s_ifeq hK dL_law_210 217 (by decide) (fun c_210 => ?_) (fun c_210 => ?_)
        · refine s_lconst hK (v := 0) dL_law_217 (by decide) ?_
          refine s_lcmp hK dL_law_218 ?_
          refine s_ifeq hK dL_law_219 224 (by decide) (fun c_219 => ?_) (fun c_219 => ?_)
          · refine s_goto hK dL_law_224 1640 (by decide) ?_
            exact next h2 (fWall S (xs (q + 1)) (xs (q + 2)) (xs (q + 3))).2 _ _ _ _ _ _ (iWall I) ⟨C2, ⟨_, _, _, _, M2⟩, ⟨f1, O2⟩, D⟩ (by omega) (by omega)
          · exact absurd (by decide) c_219
        · exact absurd rfl c_210
      | true =>
        refine s_ifeq hK dL_law_210 217 (by decide) (fun c_210 => ?_) (fun c_210 => ?_)
        · exact absurd c_210 (by decide)
        · refine s_lconst hK (v := 1) dL_law_213 (by decide) ?_
          refine s_goto hK dL_law_214 218 (by decide) ?_
          refine s_lcmp hK dL_law_218 ?_
          refine s_ifeq hK dL_law_219 224 (by decide) (fun c_219 => ?_) (fun c_219 => ?_)
          · refine s_goto hK dL_law_224 1640 (by decide) ?_
            exact next h2 (fWall S (xs (q + 1)) (xs (q + 2)) (xs (q + 3))).2 _ _ _ _ _ _ (iWall I) ⟨C2, ⟨_, _, _, _, M2⟩, ⟨f1, O2⟩, D⟩ (by omega) (by omega)
          · exact absurd (by decide) c_219
  · exact absurd key1 c_195
set_option maxRecDepth 10000 in
theorem l_candle {ro : Nat → Option (Nat × (Nat → Int32))} {K : gK} (hK : gClosed (gSafe 13) mL_law 14 lwPost lwX ro K) {b L : Nat} {xs : Nat → Int32} (hro : ro b = some (L, xs)) (hL : L ≤ 2048) {q : Nat} (hq : q + 3 < L) {a o : Nat} {n n' m : Nat → Nat} {S : CS} {i : Nat} (I : InvC S i) (hi : i ≤ 512) {h : gH} (A : LawAt h a o n n' m S) {w5 w6 w7 w8 : Option Value} {bc bs : Nat} (hbc : 80 ≤ bc) (hbs : 500 ≤ bs) (next : ∀ h' S' w5 w6 w7 w8 bc' bs', InvC S' (i + 1) → LawAt h' a o n n' m S' → bc ≤ bc' + 80 → bs ≤ bs' + 500 → K 1640 [some (.ref b), some (.ref a), some (.ref (m 0)), some (.ref o), some (.int (nI q)), w5, w6, w7, w8] [] h' bc' bs') : K 227 [some (.ref b), some (.ref a), some (.ref (m 0)), some (.ref o), some (.int (nI q)), w5, w6, w7, w8] [] h bc bs := by
  obtain ⟨C, ⟨thr, lt, st, rw, M⟩, ⟨fo, O⟩, D⟩ := A
  have V := I.1
  refine s_aload_n hK dL_law_227 rfl ?_
  refine s_ro hK (cc := 1) dL_law_228 dL_law_229 dL_law_231 dL_law_232 dL_law_233 rfl rfl (by decide) hro (by omega) (by omega) ?_
  refine s_ro hK (cc := 2) dL_law_234 dL_law_235 dL_law_237 dL_law_238 dL_law_239 rfl rfl (by decide) hro (by omega) (by omega) ?_
  refine s_ro hK (cc := 3) dL_law_240 dL_law_241 dL_law_243 dL_law_244 dL_law_245 rfl rfl (by decide) hro (by omega) (by omega) ?_
  refine s_aload_n hK dL_law_246 rfl ?_
  refine s_W5 hK (mc := 4) (ms := 24) dL_law_247 kW_L_95 (by rfl) (by omega) (by omega) ?_
  refine w_candle _ C V.1 O (by omega) (by omega) (fun h1 k f1 C1 O1 F1 R1 => ?_)
  have M1 := law_M M O C D F1
  have M0 := M1.own0
  refine s_istore hK dL_law_250 rfl ?_
  refine s_aload_n hK dL_law_252 rfl ?_
  refine s_ro hK (cc := 1) dL_law_253 dL_law_254 dL_law_256 dL_law_257 dL_law_258 rfl rfl (by decide) hro (by omega) (by omega) ?_
  refine s_ro hK (cc := 2) dL_law_259 dL_law_260 dL_law_262 dL_law_263 dL_law_264 rfl rfl (by decide) hro (by omega) (by omega) ?_
  refine s_ro hK (cc := 3) dL_law_265 dL_law_266 dL_law_268 dL_law_269 dL_law_270 rfl rfl (by decide) hro (by omega) (by omega) ?_
  refine s_V30 hK dL_law_271 kV_L_97 (by first | assumption | exact H.1 | exact H.2.1) (by rfl) ?_
  refine c_candleM _ M1 V.2.2.1 I.2.2.1 (fun h2 thr2 v2 lt2 st2 rw2 M2 F2 R2 => ?_)
  obtain ⟨C2, O2⟩ := law_C M1 O1 C1 D F2
  have M0 := M2.own0
  obtain ⟨key1, key2⟩ := ans_key cdA_ne R1 R2
  refine s_istore hK dL_law_274 rfl ?_
  refine s_aload_n hK dL_law_276 rfl ?_
  refine s_V00 hK dL_law_277 kV_L_91 (by first | assumption | exact H.1 | exact H.2.1) (by rfl) ?_
  refine c_thrown _ M2 ?_
  refine s_iload hK dL_law_280 rfl ?_
  refine s_icmpeq hK dL_law_282 287 (by decide) (fun c_282 => ?_) (fun c_282 => ?_)
  · refine s_iload hK dL_law_287 rfl ?_
    refine s_ifne hK dL_law_289 304 (by decide) (fun c_289 => ?_) (fun c_289 => ?_)
    · refine s_goto hK dL_law_304 1640 (by decide) ?_
      exact next h2 (fCandle S (xs (q + 1)) (xs (q + 2)) (xs (q + 3))).2 _ _ _ _ _ _ (iCandle I) ⟨C2, ⟨_, _, _, _, M2⟩, ⟨f1, O2⟩, D⟩ (by omega) (by omega)
    · have k0 : k = 0 := Decidable.of_not_not (by first | exact c_289 | exact fun w => w c_289)
      refine s_aload_n hK dL_law_292 rfl ?_
      refine s_iconst hK (v := 0) dL_law_293 (by decide) ?_
      refine s_laloadN hK (j := 0) dL_law_294 O2 (by omega) (by omega) ?_
      rw [(key2 k0).1]
      refine s_iload hK dL_law_295 rfl ?_
      refine s_i2l hK dL_law_297 ?_
      refine s_lcmp hK dL_law_298 ?_
      refine s_ifeq hK dL_law_299 304 (by decide) (fun c_299 => ?_) (fun c_299 => ?_)
      · refine s_goto hK dL_law_304 1640 (by decide) ?_
        exact next h2 (fCandle S (xs (q + 1)) (xs (q + 2)) (xs (q + 3))).2 _ _ _ _ _ _ (iCandle I) ⟨C2, ⟨_, _, _, _, M2⟩, ⟨f1, O2⟩, D⟩ (by omega) (by omega)
      · exact absurd ((lg_cmp_eq _ _).mpr rfl) c_299
  · exact absurd key1 c_282
set_option maxRecDepth 10000 in
theorem l_mirror {ro : Nat → Option (Nat × (Nat → Int32))} {K : gK} (hK : gClosed (gSafe 13) mL_law 14 lwPost lwX ro K) {b L : Nat} {xs : Nat → Int32} (hro : ro b = some (L, xs)) (hL : L ≤ 2048) {q : Nat} (hq : q + 3 < L) {a o : Nat} {n n' m : Nat → Nat} {S : CS} {i : Nat} (I : InvC S i) (hi : i ≤ 512) {h : gH} (A : LawAt h a o n n' m S) {w5 w6 w7 w8 : Option Value} {bc bs : Nat} (hbc : 80 ≤ bc) (hbs : 500 ≤ bs) (next : ∀ h' S' w5 w6 w7 w8 bc' bs', InvC S' (i + 1) → LawAt h' a o n n' m S' → bc ≤ bc' + 80 → bs ≤ bs' + 500 → K 1640 [some (.ref b), some (.ref a), some (.ref (m 0)), some (.ref o), some (.int (nI q)), w5, w6, w7, w8] [] h' bc' bs') : K 307 [some (.ref b), some (.ref a), some (.ref (m 0)), some (.ref o), some (.int (nI q)), w5, w6, w7, w8] [] h bc bs := by
  obtain ⟨C, ⟨thr, lt, st, rw, M⟩, ⟨fo, O⟩, D⟩ := A
  have V := I.1
  refine s_aload_n hK dL_law_307 rfl ?_
  refine s_ro hK (cc := 1) dL_law_308 dL_law_309 dL_law_311 dL_law_312 dL_law_313 rfl rfl (by decide) hro (by omega) (by omega) ?_
  refine s_ro hK (cc := 2) dL_law_314 dL_law_315 dL_law_317 dL_law_318 dL_law_319 rfl rfl (by decide) hro (by omega) (by omega) ?_
  refine s_ro hK (cc := 3) dL_law_320 dL_law_321 dL_law_323 dL_law_324 dL_law_325 rfl rfl (by decide) hro (by omega) (by omega) ?_
  refine s_nz hK dL_law_326 dL_law_329 dL_law_330 dL_law_333 ?_
  refine s_aload_n hK dL_law_334 rfl ?_
  refine s_W5 hK (mc := 4) (ms := 24) dL_law_335 kW_L_98 (by rfl) (by omega) (by omega) ?_
  refine w_mirror _ C V.1 O (by omega) (by omega) (fun h1 k f1 C1 O1 F1 R1 => ?_)
  have M1 := law_M M O C D F1
  have M0 := M1.own0
  refine s_istore hK dL_law_338 rfl ?_
  refine s_aload_n hK dL_law_340 rfl ?_
  refine s_ro hK (cc := 1) dL_law_341 dL_law_342 dL_law_344 dL_law_345 dL_law_346 rfl rfl (by decide) hro (by omega) (by omega) ?_
  refine s_ro hK (cc := 2) dL_law_347 dL_law_348 dL_law_350 dL_law_351 dL_law_352 rfl rfl (by decide) hro (by omega) (by omega) ?_
  refine s_ro hK (cc := 3) dL_law_353 dL_law_354 dL_law_356 dL_law_357 dL_law_358 rfl rfl (by decide) hro (by omega) (by omega) ?_
  refine s_nz hK dL_law_359 dL_law_362 dL_law_363 dL_law_366 ?_
  refine s_V30 hK dL_law_367 kV_L_101 (by first | assumption | exact H.1 | exact H.2.1) (by rfl) ?_
  refine c_mirrorM _ M1 V.2.2.1 (fun e z => mirror_T (okC_of e).1 z V.2.2.1) I.2.2.2.1 (fun h2 thr2 v2 lt2 st2 rw2 M2 F2 R2 => ?_)
  obtain ⟨C2, O2⟩ := law_C M1 O1 C1 D F2
  have M0 := M2.own0
  obtain ⟨key1, key2⟩ := ans_key cdB_ne R1 R2
  refine s_istore hK dL_law_370 rfl ?_
  refine s_aload_n hK dL_law_372 rfl ?_
  refine s_V00 hK dL_law_373 kV_L_91 (by first | assumption | exact H.1 | exact H.2.1) (by rfl) ?_
  refine c_thrown _ M2 ?_
  refine s_iload hK dL_law_376 rfl ?_
  refine s_icmpeq hK dL_law_378 383 (by decide) (fun c_378 => ?_) (fun c_378 => ?_)
  · refine s_iload hK dL_law_383 rfl ?_
    refine s_ifne hK dL_law_385 400 (by decide) (fun c_385 => ?_) (fun c_385 => ?_)
    · refine s_goto hK dL_law_400 1640 (by decide) ?_
      exact next h2 (fMirror S (xs (q + 1)) (xs (q + 2)) (!decide (xs (q + 3) = 0))).2 _ _ _ _ _ _ (iMirror I) ⟨C2, ⟨_, _, _, _, M2⟩, ⟨f1, O2⟩, D⟩ (by omega) (by omega)
    · have k0 : k = 0 := Decidable.of_not_not (by first | exact c_385 | exact fun w => w c_385)
      refine s_aload_n hK dL_law_388 rfl ?_
      refine s_iconst hK (v := 0) dL_law_389 (by decide) ?_
      refine s_laloadN hK (j := 0) dL_law_390 O2 (by omega) (by omega) ?_
      rw [(key2 k0).1]
      refine s_iload hK dL_law_391 rfl ?_
      refine s_i2l hK dL_law_393 ?_
      refine s_lcmp hK dL_law_394 ?_
      refine s_ifeq hK dL_law_395 400 (by decide) (fun c_395 => ?_) (fun c_395 => ?_)
      · refine s_goto hK dL_law_400 1640 (by decide) ?_
        exact next h2 (fMirror S (xs (q + 1)) (xs (q + 2)) (!decide (xs (q + 3) = 0))).2 _ _ _ _ _ _ (iMirror I) ⟨C2, ⟨_, _, _, _, M2⟩, ⟨f1, O2⟩, D⟩ (by omega) (by omega)
      · exact absurd ((lg_cmp_eq _ _).mpr rfl) c_395
  · exact absurd key1 c_378
set_option maxRecDepth 10000 in
theorem l_tally {ro : Nat → Option (Nat × (Nat → Int32))} {K : gK} (hK : gClosed (gSafe 13) mL_law 14 lwPost lwX ro K) {b L : Nat} {xs : Nat → Int32} (hro : ro b = some (L, xs)) (hL : L ≤ 2048) {q : Nat} (hq : q + 3 < L) {a o : Nat} {n n' m : Nat → Nat} {S : CS} {i : Nat} (I : InvC S i) (hi : i ≤ 512) {h : gH} (A : LawAt h a o n n' m S) {w5 w6 w7 w8 : Option Value} {bc bs : Nat} (hbc : 80 ≤ bc) (hbs : 500 ≤ bs) (next : ∀ h' S' w5 w6 w7 w8 bc' bs', InvC S' (i + 1) → LawAt h' a o n n' m S' → bc ≤ bc' + 80 → bs ≤ bs' + 500 → K 1640 [some (.ref b), some (.ref a), some (.ref (m 0)), some (.ref o), some (.int (nI q)), w5, w6, w7, w8] [] h' bc' bs') : K 403 [some (.ref b), some (.ref a), some (.ref (m 0)), some (.ref o), some (.int (nI q)), w5, w6, w7, w8] [] h bc bs := by
  obtain ⟨C, ⟨thr, lt, st, rw, M⟩, ⟨fo, O⟩, D⟩ := A
  have V := I.1
  refine s_aload_n hK dL_law_403 rfl ?_
  refine s_ro hK (cc := 1) dL_law_404 dL_law_405 dL_law_407 dL_law_408 dL_law_409 rfl rfl (by decide) hro (by omega) (by omega) ?_
  refine s_ro hK (cc := 2) dL_law_410 dL_law_411 dL_law_413 dL_law_414 dL_law_415 rfl rfl (by decide) hro (by omega) (by omega) ?_
  refine s_aload_n hK dL_law_416 rfl ?_
  refine s_W4 hK (mc := 4) (ms := 24) dL_law_417 kW_L_102 (by rfl) (by omega) (by omega) ?_
  refine w_tally _ C V.1 O (by omega) (by omega) (fun h1 k f1 C1 O1 F1 R1 => ?_)
  have M1 := law_M M O C D F1
  have M0 := M1.own0
  refine s_istore hK dL_law_420 rfl ?_
  refine s_aload_n hK dL_law_422 rfl ?_
  refine s_ro hK (cc := 1) dL_law_423 dL_law_424 dL_law_426 dL_law_427 dL_law_428 rfl rfl (by decide) hro (by omega) (by omega) ?_
  refine s_ro hK (cc := 2) dL_law_429 dL_law_430 dL_law_432 dL_law_433 dL_law_434 rfl rfl (by decide) hro (by omega) (by omega) ?_
  refine s_V20 hK dL_law_435 kV_L_105 (by first | assumption | exact H.1 | exact H.2.1) (by rfl) ?_
  refine c_tallyM _ M1 V.2.2.1 (fun e z => tally_T (okC_of e).1 z V.2.2.1) I.2.2.2.2.1 (fun h2 thr2 v2 lt2 st2 rw2 M2 F2 R2 => ?_)
  obtain ⟨C2, O2⟩ := law_C M1 O1 C1 D F2
  have M0 := M2.own0
  obtain ⟨key1, key2⟩ := ans_key cdB_ne R1 R2
  refine s_istore hK dL_law_438 rfl ?_
  refine s_aload_n hK dL_law_440 rfl ?_
  refine s_V00 hK dL_law_441 kV_L_91 (by first | assumption | exact H.1 | exact H.2.1) (by rfl) ?_
  refine c_thrown _ M2 ?_
  refine s_iload hK dL_law_444 rfl ?_
  refine s_icmpeq hK dL_law_446 451 (by decide) (fun c_446 => ?_) (fun c_446 => ?_)
  · refine s_iload hK dL_law_451 rfl ?_
    refine s_ifne hK dL_law_453 468 (by decide) (fun c_453 => ?_) (fun c_453 => ?_)
    · refine s_goto hK dL_law_468 1640 (by decide) ?_
      exact next h2 (fTally S (xs (q + 1)) (xs (q + 2))).2 _ _ _ _ _ _ (iTally I) ⟨C2, ⟨_, _, _, _, M2⟩, ⟨f1, O2⟩, D⟩ (by omega) (by omega)
    · have k0 : k = 0 := Decidable.of_not_not (by first | exact c_453 | exact fun w => w c_453)
      refine s_aload_n hK dL_law_456 rfl ?_
      refine s_iconst hK (v := 0) dL_law_457 (by decide) ?_
      refine s_laloadN hK (j := 0) dL_law_458 O2 (by omega) (by omega) ?_
      rw [(key2 k0).1]
      refine s_iload hK dL_law_459 rfl ?_
      refine s_i2l hK dL_law_461 ?_
      refine s_lcmp hK dL_law_462 ?_
      refine s_ifeq hK dL_law_463 468 (by decide) (fun c_463 => ?_) (fun c_463 => ?_)
      · refine s_goto hK dL_law_468 1640 (by decide) ?_
        exact next h2 (fTally S (xs (q + 1)) (xs (q + 2))).2 _ _ _ _ _ _ (iTally I) ⟨C2, ⟨_, _, _, _, M2⟩, ⟨f1, O2⟩, D⟩ (by omega) (by omega)
      · exact absurd ((lg_cmp_eq _ _).mpr rfl) c_463
  · exact absurd key1 c_446
set_option maxRecDepth 10000 in
theorem l_remove {ro : Nat → Option (Nat × (Nat → Int32))} {K : gK} (hK : gClosed (gSafe 13) mL_law 14 lwPost lwX ro K) {b L : Nat} {xs : Nat → Int32} (hro : ro b = some (L, xs)) (hL : L ≤ 2048) {q : Nat} (hq : q + 3 < L) {a o : Nat} {n n' m : Nat → Nat} {S : CS} {i : Nat} (I : InvC S i) (hi : i ≤ 512) {h : gH} (A : LawAt h a o n n' m S) {w5 w6 w7 w8 : Option Value} {bc bs : Nat} (hbc : 80 ≤ bc) (hbs : 500 ≤ bs) (next : ∀ h' S' w5 w6 w7 w8 bc' bs', InvC S' (i + 1) → LawAt h' a o n n' m S' → bc ≤ bc' + 80 → bs ≤ bs' + 500 → K 1640 [some (.ref b), some (.ref a), some (.ref (m 0)), some (.ref o), some (.int (nI q)), w5, w6, w7, w8] [] h' bc' bs') : K 471 [some (.ref b), some (.ref a), some (.ref (m 0)), some (.ref o), some (.int (nI q)), w5, w6, w7, w8] [] h bc bs := by
  obtain ⟨C, ⟨thr, lt, st, rw, M⟩, ⟨fo, O⟩, D⟩ := A
  have V := I.1
  refine s_aload_n hK dL_law_471 rfl ?_
  refine s_ro hK (cc := 1) dL_law_472 dL_law_473 dL_law_475 dL_law_476 dL_law_477 rfl rfl (by decide) hro (by omega) (by omega) ?_
  refine s_ro hK (cc := 2) dL_law_478 dL_law_479 dL_law_481 dL_law_482 dL_law_483 rfl rfl (by decide) hro (by omega) (by omega) ?_
  refine s_aload_n hK dL_law_484 rfl ?_
  refine s_W4 hK (mc := 4) (ms := 24) dL_law_485 kW_L_106 (by rfl) (by omega) (by omega) ?_
  refine w_remove _ C V.1 O (by omega) (by omega) (fun h1 k f1 C1 O1 F1 R1 => ?_)
  have M1 := law_M M O C D F1
  have M0 := M1.own0
  refine s_istore hK dL_law_488 rfl ?_
  refine s_aload_n hK dL_law_490 rfl ?_
  refine s_ro hK (cc := 1) dL_law_491 dL_law_492 dL_law_494 dL_law_495 dL_law_496 rfl rfl (by decide) hro (by omega) (by omega) ?_
  refine s_ro hK (cc := 2) dL_law_497 dL_law_498 dL_law_500 dL_law_501 dL_law_502 rfl rfl (by decide) hro (by omega) (by omega) ?_
  refine s_V20 hK dL_law_503 kV_L_108 (by first | assumption | exact H.1 | exact H.2.1) (by rfl) ?_
  refine c_removeM _ M1  (fun h2 thr2 v2 lt2 st2 rw2 M2 F2 R2 => ?_)
  obtain ⟨C2, O2⟩ := law_C M1 O1 C1 D F2
  have M0 := M2.own0
  obtain ⟨key1, key2⟩ := ans_key cdB_ne R1 R2
  refine s_istore hK dL_law_506 rfl ?_
  refine s_aload_n hK dL_law_508 rfl ?_
  refine s_V00 hK dL_law_509 kV_L_91 (by first | assumption | exact H.1 | exact H.2.1) (by rfl) ?_
  refine c_thrown _ M2 ?_
  refine s_iload hK dL_law_512 rfl ?_
  refine s_icmpeq hK dL_law_514 519 (by decide) (fun c_514 => ?_) (fun c_514 => ?_)
  · refine s_iload hK dL_law_519 rfl ?_
    refine s_ifne hK dL_law_521 536 (by decide) (fun c_521 => ?_) (fun c_521 => ?_)
    · refine s_goto hK dL_law_536 1640 (by decide) ?_
      exact next h2 (fRemove S (xs (q + 1)) (xs (q + 2))).2 _ _ _ _ _ _ (iRemove I) ⟨C2, ⟨_, _, _, _, M2⟩, ⟨f1, O2⟩, D⟩ (by omega) (by omega)
    · have k0 : k = 0 := Decidable.of_not_not (by first | exact c_521 | exact fun w => w c_521)
      refine s_aload_n hK dL_law_524 rfl ?_
      refine s_iconst hK (v := 0) dL_law_525 (by decide) ?_
      refine s_laloadN hK (j := 0) dL_law_526 O2 (by omega) (by omega) ?_
      rw [(key2 k0).1]
      refine s_iload hK dL_law_527 rfl ?_
      refine s_i2l hK dL_law_529 ?_
      refine s_lcmp hK dL_law_530 ?_
      refine s_ifeq hK dL_law_531 536 (by decide) (fun c_531 => ?_) (fun c_531 => ?_)
      · refine s_goto hK dL_law_536 1640 (by decide) ?_
        exact next h2 (fRemove S (xs (q + 1)) (xs (q + 2))).2 _ _ _ _ _ _ (iRemove I) ⟨C2, ⟨_, _, _, _, M2⟩, ⟨f1, O2⟩, D⟩ (by omega) (by omega)
      · exact absurd ((lg_cmp_eq _ _).mpr rfl) c_531
  · exact absurd key1 c_514
set_option maxRecDepth 10000 in
theorem l_light {ro : Nat → Option (Nat × (Nat → Int32))} {K : gK} (hK : gClosed (gSafe 13) mL_law 14 lwPost lwX ro K) {b L : Nat} {xs : Nat → Int32} (hro : ro b = some (L, xs)) (hL : L ≤ 2048) {q : Nat} (hq : q + 3 < L) {a o : Nat} {n n' m : Nat → Nat} {S : CS} {i : Nat} (I : InvC S i) (hi : i ≤ 512) {h : gH} (A : LawAt h a o n n' m S) {w5 w6 w7 w8 : Option Value} {bc bs : Nat} (hbc : 80 ≤ bc) (hbs : 500 ≤ bs) (next : ∀ h' S' w5 w6 w7 w8 bc' bs', InvC S' (i + 1) → LawAt h' a o n n' m S' → bc ≤ bc' + 80 → bs ≤ bs' + 500 → K 1640 [some (.ref b), some (.ref a), some (.ref (m 0)), some (.ref o), some (.int (nI q)), w5, w6, w7, w8] [] h' bc' bs') : K 539 [some (.ref b), some (.ref a), some (.ref (m 0)), some (.ref o), some (.int (nI q)), w5, w6, w7, w8] [] h bc bs := by
  obtain ⟨C, ⟨thr, lt, st, rw, M⟩, ⟨fo, O⟩, D⟩ := A
  have V := I.1
  refine s_aload_n hK dL_law_539 rfl ?_
  refine s_ro hK (cc := 1) dL_law_540 dL_law_541 dL_law_543 dL_law_544 dL_law_545 rfl rfl (by decide) hro (by omega) (by omega) ?_
  refine s_ro hK (cc := 2) dL_law_546 dL_law_547 dL_law_549 dL_law_550 dL_law_551 rfl rfl (by decide) hro (by omega) (by omega) ?_
  refine s_aload_n hK dL_law_552 rfl ?_
  refine s_W4 hK (mc := 4) (ms := 24) dL_law_553 kW_L_109 (by rfl) (by omega) (by omega) ?_
  refine w_light _ C V.1 O (by omega) (by omega) (fun h1 k f1 C1 O1 F1 R1 => ?_)
  have M1 := law_M M O C D F1
  have M0 := M1.own0
  refine s_istore hK dL_law_556 rfl ?_
  refine s_aload_n hK dL_law_558 rfl ?_
  refine s_ro hK (cc := 1) dL_law_559 dL_law_560 dL_law_562 dL_law_563 dL_law_564 rfl rfl (by decide) hro (by omega) (by omega) ?_
  refine s_ro hK (cc := 2) dL_law_565 dL_law_566 dL_law_568 dL_law_569 dL_law_570 rfl rfl (by decide) hro (by omega) (by omega) ?_
  refine s_V20 hK dL_law_571 kV_L_111 (by first | assumption | exact H.1 | exact H.2.1) (by rfl) ?_
  refine c_lightM _ M1 V.2.2.1 (fun h2 thr2 v2 lt2 st2 rw2 M2 F2 R2 => ?_)
  obtain ⟨C2, O2⟩ := law_C M1 O1 C1 D F2
  have M0 := M2.own0
  obtain ⟨key1, key2⟩ := ans_key cdB_ne R1 R2
  refine s_istore hK dL_law_574 rfl ?_
  refine s_aload_n hK dL_law_576 rfl ?_
  refine s_V00 hK dL_law_577 kV_L_91 (by first | assumption | exact H.1 | exact H.2.1) (by rfl) ?_
  refine c_thrown _ M2 ?_
  refine s_iload hK dL_law_580 rfl ?_
  refine s_icmpeq hK dL_law_582 587 (by decide) (fun c_582 => ?_) (fun c_582 => ?_)
  · refine s_iload hK dL_law_587 rfl ?_
    refine s_ifne hK dL_law_589 611 (by decide) (fun c_589 => ?_) (fun c_589 => ?_)
    · refine s_goto hK dL_law_611 1640 (by decide) ?_
      exact next h2 (fLight S (xs (q + 1)) (xs (q + 2))).2 _ _ _ _ _ _ (iLight I) ⟨C2, ⟨_, _, _, _, M2⟩, ⟨f1, O2⟩, D⟩ (by omega) (by omega)
    · have k0 : k = 0 := Decidable.of_not_not (by first | exact c_589 | exact fun w => w c_589)
      refine s_aload_n hK dL_law_592 rfl ?_
      refine s_iconst hK (v := 0) dL_law_593 (by decide) ?_
      refine s_laloadN hK (j := 0) dL_law_594 O2 (by omega) (by omega) ?_
      rw [(key2 k0).1]
      obtain ⟨bv, ebv⟩ := bl_key (rLight S (xs (q + 1)) (xs (q + 2))) (key2 k0).2
      rw [ebv]
      refine s_iload hK dL_law_595 rfl ?_
      cases bv with
      | false =>
        refine s_ifeq hK dL_law_597 604 (by decide) (fun c_597 => ?_) (fun c_597 => ?_)
        · refine s_lconst hK (v := 0) dL_law_604 (by decide) ?_
          refine s_lcmp hK dL_law_605 ?_
          refine s_ifeq hK dL_law_606 611 (by decide) (fun c_606 => ?_) (fun c_606 => ?_)
          · refine s_goto hK dL_law_611 1640 (by decide) ?_
            exact next h2 (fLight S (xs (q + 1)) (xs (q + 2))).2 _ _ _ _ _ _ (iLight I) ⟨C2, ⟨_, _, _, _, M2⟩, ⟨f1, O2⟩, D⟩ (by omega) (by omega)
          · exact absurd (by decide) c_606
        · exact absurd rfl c_597
      | true =>
        refine s_ifeq hK dL_law_597 604 (by decide) (fun c_597 => ?_) (fun c_597 => ?_)
        · exact absurd c_597 (by decide)
        · refine s_lconst hK (v := 1) dL_law_600 (by decide) ?_
          refine s_goto hK dL_law_601 605 (by decide) ?_
          refine s_lcmp hK dL_law_605 ?_
          refine s_ifeq hK dL_law_606 611 (by decide) (fun c_606 => ?_) (fun c_606 => ?_)
          · refine s_goto hK dL_law_611 1640 (by decide) ?_
            exact next h2 (fLight S (xs (q + 1)) (xs (q + 2))).2 _ _ _ _ _ _ (iLight I) ⟨C2, ⟨_, _, _, _, M2⟩, ⟨f1, O2⟩, D⟩ (by omega) (by omega)
          · exact absurd (by decide) c_606
  · exact absurd key1 c_582
set_option maxRecDepth 10000 in
theorem l_come {ro : Nat → Option (Nat × (Nat → Int32))} {K : gK} (hK : gClosed (gSafe 13) mL_law 14 lwPost lwX ro K) {b L : Nat} {xs : Nat → Int32} (hro : ro b = some (L, xs)) (hL : L ≤ 2048) {q : Nat} (hq : q + 3 < L) {a o : Nat} {n n' m : Nat → Nat} {S : CS} {i : Nat} (I : InvC S i) (hi : i ≤ 512) {h : gH} (A : LawAt h a o n n' m S) {w5 w6 w7 w8 : Option Value} {bc bs : Nat} (hbc : 80 ≤ bc) (hbs : 500 ≤ bs) (next : ∀ h' S' w5 w6 w7 w8 bc' bs', InvC S' (i + 1) → LawAt h' a o n n' m S' → bc ≤ bc' + 80 → bs ≤ bs' + 500 → K 1640 [some (.ref b), some (.ref a), some (.ref (m 0)), some (.ref o), some (.int (nI q)), w5, w6, w7, w8] [] h' bc' bs') : K 614 [some (.ref b), some (.ref a), some (.ref (m 0)), some (.ref o), some (.int (nI q)), w5, w6, w7, w8] [] h bc bs := by
  obtain ⟨C, ⟨thr, lt, st, rw, M⟩, ⟨fo, O⟩, D⟩ := A
  have V := I.1
  refine s_aload_n hK dL_law_614 rfl ?_
  refine s_ro hK (cc := 1) dL_law_615 dL_law_616 dL_law_618 dL_law_619 dL_law_620 rfl rfl (by decide) hro (by omega) (by omega) ?_
  refine s_ro hK (cc := 2) dL_law_621 dL_law_622 dL_law_624 dL_law_625 dL_law_626 rfl rfl (by decide) hro (by omega) (by omega) ?_
  refine s_ro hK (cc := 3) dL_law_627 dL_law_628 dL_law_630 dL_law_631 dL_law_632 rfl rfl (by decide) hro (by omega) (by omega) ?_
  refine s_aload_n hK dL_law_633 rfl ?_
  refine s_W5 hK (mc := 4) (ms := 24) dL_law_634 kW_L_112 (by rfl) (by omega) (by omega) ?_
  refine w_come _ C V.1 O (by omega) (by omega) (fun h1 k f1 C1 O1 F1 R1 => ?_)
  have M1 := law_M M O C D F1
  have M0 := M1.own0
  refine s_istore hK dL_law_637 rfl ?_
  refine s_aload_n hK dL_law_639 rfl ?_
  refine s_ro hK (cc := 1) dL_law_640 dL_law_641 dL_law_643 dL_law_644 dL_law_645 rfl rfl (by decide) hro (by omega) (by omega) ?_
  refine s_ro hK (cc := 2) dL_law_646 dL_law_647 dL_law_649 dL_law_650 dL_law_651 rfl rfl (by decide) hro (by omega) (by omega) ?_
  refine s_ro hK (cc := 3) dL_law_652 dL_law_653 dL_law_655 dL_law_656 dL_law_657 rfl rfl (by decide) hro (by omega) (by omega) ?_
  refine s_V3 hK (mc := 1) (ms := 6) dL_law_658 kV_L_114 (by first | assumption | exact H.1 | exact H.2.1) (by rfl) (by omega) (by omega) ?_
  refine c_comeM _ M1 V.1 I.2.1 (by omega) (by omega) (fun h2 thr2 v2 lt2 st2 rw2 M2 F2 R2 => ?_)
  obtain ⟨C2, O2⟩ := law_C M1 O1 C1 D F2
  have M0 := M2.own0
  obtain ⟨key1, key2⟩ := ans_key cdA_ne R1 R2
  refine s_istore hK dL_law_661 rfl ?_
  refine s_aload_n hK dL_law_663 rfl ?_
  refine s_V00 hK dL_law_664 kV_L_91 (by first | assumption | exact H.1 | exact H.2.1) (by rfl) ?_
  refine c_thrown _ M2 ?_
  refine s_iload hK dL_law_667 rfl ?_
  refine s_icmpeq hK dL_law_669 674 (by decide) (fun c_669 => ?_) (fun c_669 => ?_)
  · refine s_iload hK dL_law_674 rfl ?_
    refine s_ifne hK dL_law_676 691 (by decide) (fun c_676 => ?_) (fun c_676 => ?_)
    · refine s_goto hK dL_law_691 1640 (by decide) ?_
      exact next h2 (fCome S (xs (q + 1)) (xs (q + 2)) (xs (q + 3))).2 _ _ _ _ _ _ (iCome I) ⟨C2, ⟨_, _, _, _, M2⟩, ⟨f1, O2⟩, D⟩ (by omega) (by omega)
    · have k0 : k = 0 := Decidable.of_not_not (by first | exact c_676 | exact fun w => w c_676)
      refine s_aload_n hK dL_law_679 rfl ?_
      refine s_iconst hK (v := 0) dL_law_680 (by decide) ?_
      refine s_laloadN hK (j := 0) dL_law_681 O2 (by omega) (by omega) ?_
      rw [(key2 k0).1]
      refine s_iload hK dL_law_682 rfl ?_
      refine s_i2l hK dL_law_684 ?_
      refine s_lcmp hK dL_law_685 ?_
      refine s_ifeq hK dL_law_686 691 (by decide) (fun c_686 => ?_) (fun c_686 => ?_)
      · refine s_goto hK dL_law_691 1640 (by decide) ?_
        exact next h2 (fCome S (xs (q + 1)) (xs (q + 2)) (xs (q + 3))).2 _ _ _ _ _ _ (iCome I) ⟨C2, ⟨_, _, _, _, M2⟩, ⟨f1, O2⟩, D⟩ (by omega) (by omega)
      · exact absurd ((lg_cmp_eq _ _).mpr rfl) c_686
  · exact absurd key1 c_669
set_option maxRecDepth 10000 in
theorem l_send {ro : Nat → Option (Nat × (Nat → Int32))} {K : gK} (hK : gClosed (gSafe 13) mL_law 14 lwPost lwX ro K) {b L : Nat} {xs : Nat → Int32} (hro : ro b = some (L, xs)) (hL : L ≤ 2048) {q : Nat} (hq : q + 3 < L) {a o : Nat} {n n' m : Nat → Nat} {S : CS} {i : Nat} (I : InvC S i) (hi : i ≤ 512) {h : gH} (A : LawAt h a o n n' m S) {w5 w6 w7 w8 : Option Value} {bc bs : Nat} (hbc : 80 ≤ bc) (hbs : 500 ≤ bs) (next : ∀ h' S' w5 w6 w7 w8 bc' bs', InvC S' (i + 1) → LawAt h' a o n n' m S' → bc ≤ bc' + 80 → bs ≤ bs' + 500 → K 1640 [some (.ref b), some (.ref a), some (.ref (m 0)), some (.ref o), some (.int (nI q)), w5, w6, w7, w8] [] h' bc' bs') : K 694 [some (.ref b), some (.ref a), some (.ref (m 0)), some (.ref o), some (.int (nI q)), w5, w6, w7, w8] [] h bc bs := by
  obtain ⟨C, ⟨thr, lt, st, rw, M⟩, ⟨fo, O⟩, D⟩ := A
  have V := I.1
  refine s_aload_n hK dL_law_694 rfl ?_
  refine s_ro hK (cc := 1) dL_law_695 dL_law_696 dL_law_698 dL_law_699 dL_law_700 rfl rfl (by decide) hro (by omega) (by omega) ?_
  refine s_ro hK (cc := 2) dL_law_701 dL_law_702 dL_law_704 dL_law_705 dL_law_706 rfl rfl (by decide) hro (by omega) (by omega) ?_
  refine s_ro hK (cc := 3) dL_law_707 dL_law_708 dL_law_710 dL_law_711 dL_law_712 rfl rfl (by decide) hro (by omega) (by omega) ?_
  refine s_aload_n hK dL_law_713 rfl ?_
  refine s_W5 hK (mc := 4) (ms := 24) dL_law_714 kW_L_115 (by rfl) (by omega) (by omega) ?_
  refine w_send _ C V.1 O (by omega) (by omega) (fun h1 k f1 C1 O1 F1 R1 => ?_)
  have M1 := law_M M O C D F1
  have M0 := M1.own0
  refine s_istore hK dL_law_717 rfl ?_
  refine s_aload_n hK dL_law_719 rfl ?_
  refine s_ro hK (cc := 1) dL_law_720 dL_law_721 dL_law_723 dL_law_724 dL_law_725 rfl rfl (by decide) hro (by omega) (by omega) ?_
  refine s_ro hK (cc := 2) dL_law_726 dL_law_727 dL_law_729 dL_law_730 dL_law_731 rfl rfl (by decide) hro (by omega) (by omega) ?_
  refine s_ro hK (cc := 3) dL_law_732 dL_law_733 dL_law_735 dL_law_736 dL_law_737 rfl rfl (by decide) hro (by omega) (by omega) ?_
  refine s_V30 hK dL_law_738 kV_L_117 (by first | assumption | exact H.1 | exact H.2.1) (by rfl) ?_
  refine c_sendM _ M1 V.1 V.2.1 (T_D V.2.2.1) V.2.2.2 (fun h2 thr2 v2 lt2 st2 rw2 M2 F2 R2 => ?_)
  obtain ⟨C2, O2⟩ := law_C M1 O1 C1 D F2
  have M0 := M2.own0
  obtain ⟨key1, key2⟩ := ans_key cdB_ne R1 R2
  refine s_istore hK dL_law_741 rfl ?_
  refine s_aload_n hK dL_law_743 rfl ?_
  refine s_V00 hK dL_law_744 kV_L_91 (by first | assumption | exact H.1 | exact H.2.1) (by rfl) ?_
  refine c_thrown _ M2 ?_
  refine s_iload hK dL_law_747 rfl ?_
  refine s_icmpeq hK dL_law_749 754 (by decide) (fun c_749 => ?_) (fun c_749 => ?_)
  · refine s_iload hK dL_law_754 rfl ?_
    refine s_ifne hK dL_law_756 771 (by decide) (fun c_756 => ?_) (fun c_756 => ?_)
    · refine s_goto hK dL_law_771 1640 (by decide) ?_
      exact next h2 (fSend S (xs (q + 1)) (xs (q + 2)) (xs (q + 3))).2 _ _ _ _ _ _ (iSend I) ⟨C2, ⟨_, _, _, _, M2⟩, ⟨f1, O2⟩, D⟩ (by omega) (by omega)
    · have k0 : k = 0 := Decidable.of_not_not (by first | exact c_756 | exact fun w => w c_756)
      refine s_aload_n hK dL_law_759 rfl ?_
      refine s_iconst hK (v := 0) dL_law_760 (by decide) ?_
      refine s_laloadN hK (j := 0) dL_law_761 O2 (by omega) (by omega) ?_
      rw [(key2 k0).1]
      refine s_iload hK dL_law_762 rfl ?_
      refine s_i2l hK dL_law_764 ?_
      refine s_lcmp hK dL_law_765 ?_
      refine s_ifeq hK dL_law_766 771 (by decide) (fun c_766 => ?_) (fun c_766 => ?_)
      · refine s_goto hK dL_law_771 1640 (by decide) ?_
        exact next h2 (fSend S (xs (q + 1)) (xs (q + 2)) (xs (q + 3))).2 _ _ _ _ _ _ (iSend I) ⟨C2, ⟨_, _, _, _, M2⟩, ⟨f1, O2⟩, D⟩ (by omega) (by omega)
      · exact absurd ((lg_cmp_eq _ _).mpr rfl) c_766
  · exact absurd key1 c_749
set_option maxRecDepth 10000 in
theorem l_rite {ro : Nat → Option (Nat × (Nat → Int32))} {K : gK} (hK : gClosed (gSafe 13) mL_law 14 lwPost lwX ro K) {b L : Nat} {xs : Nat → Int32} (hro : ro b = some (L, xs)) (hL : L ≤ 2048) {q : Nat} (hq : q + 3 < L) {a o : Nat} {n n' m : Nat → Nat} {S : CS} {i : Nat} (I : InvC S i) (hi : i ≤ 512) {h : gH} (A : LawAt h a o n n' m S) {w5 w6 w7 w8 : Option Value} {bc bs : Nat} (hbc : 80 ≤ bc) (hbs : 500 ≤ bs) (next : ∀ h' S' w5 w6 w7 w8 bc' bs', InvC S' (i + 1) → LawAt h' a o n n' m S' → bc ≤ bc' + 80 → bs ≤ bs' + 500 → K 1640 [some (.ref b), some (.ref a), some (.ref (m 0)), some (.ref o), some (.int (nI q)), w5, w6, w7, w8] [] h' bc' bs') : K 774 [some (.ref b), some (.ref a), some (.ref (m 0)), some (.ref o), some (.int (nI q)), w5, w6, w7, w8] [] h bc bs := by
  obtain ⟨C, ⟨thr, lt, st, rw, M⟩, ⟨fo, O⟩, D⟩ := A
  have V := I.1
  refine s_aload_n hK dL_law_774 rfl ?_
  refine s_ro hK (cc := 1) dL_law_775 dL_law_776 dL_law_778 dL_law_779 dL_law_780 rfl rfl (by decide) hro (by omega) (by omega) ?_
  refine s_aload_n hK dL_law_781 rfl ?_
  refine s_W3 hK (mc := 4) (ms := 24) dL_law_782 kW_L_118 (by rfl) (by omega) (by omega) ?_
  refine w_rite _ C V.1 O (by omega) (by omega) (fun h1 k f1 C1 O1 F1 R1 => ?_)
  have M1 := law_M M O C D F1
  have M0 := M1.own0
  refine s_istore hK dL_law_785 rfl ?_
  refine s_aload_n hK dL_law_787 rfl ?_
  refine s_ro hK (cc := 1) dL_law_788 dL_law_789 dL_law_791 dL_law_792 dL_law_793 rfl rfl (by decide) hro (by omega) (by omega) ?_
  refine s_V10 hK dL_law_794 kV_L_121 (by first | assumption | exact H.1 | exact H.2.1) (by rfl) ?_
  refine c_riteM _ M1 V.1 (fun h2 thr2 v2 lt2 st2 rw2 M2 F2 R2 => ?_)
  obtain ⟨C2, O2⟩ := law_C M1 O1 C1 D F2
  have M0 := M2.own0
  obtain ⟨key1, key2⟩ := ans_key cdB_ne R1 R2
  refine s_istore hK dL_law_797 rfl ?_
  refine s_aload_n hK dL_law_799 rfl ?_
  refine s_V00 hK dL_law_800 kV_L_91 (by first | assumption | exact H.1 | exact H.2.1) (by rfl) ?_
  refine c_thrown _ M2 ?_
  refine s_iload hK dL_law_803 rfl ?_
  refine s_icmpeq hK dL_law_805 810 (by decide) (fun c_805 => ?_) (fun c_805 => ?_)
  · refine s_iload hK dL_law_810 rfl ?_
    refine s_ifne hK dL_law_812 827 (by decide) (fun c_812 => ?_) (fun c_812 => ?_)
    · refine s_goto hK dL_law_827 1640 (by decide) ?_
      exact next h2 (fRite S (xs (q + 1))).2 _ _ _ _ _ _ (iRite I) ⟨C2, ⟨_, _, _, _, M2⟩, ⟨f1, O2⟩, D⟩ (by omega) (by omega)
    · have k0 : k = 0 := Decidable.of_not_not (by first | exact c_812 | exact fun w => w c_812)
      refine s_aload_n hK dL_law_815 rfl ?_
      refine s_iconst hK (v := 0) dL_law_816 (by decide) ?_
      refine s_laloadN hK (j := 0) dL_law_817 O2 (by omega) (by omega) ?_
      rw [(key2 k0).1]
      refine s_iload hK dL_law_818 rfl ?_
      refine s_i2l hK dL_law_820 ?_
      refine s_lcmp hK dL_law_821 ?_
      refine s_ifeq hK dL_law_822 827 (by decide) (fun c_822 => ?_) (fun c_822 => ?_)
      · refine s_goto hK dL_law_827 1640 (by decide) ?_
        exact next h2 (fRite S (xs (q + 1))).2 _ _ _ _ _ _ (iRite I) ⟨C2, ⟨_, _, _, _, M2⟩, ⟨f1, O2⟩, D⟩ (by omega) (by omega)
      · exact absurd ((lg_cmp_eq _ _).mpr rfl) c_822
  · exact absurd key1 c_805
set_option maxRecDepth 10000 in
theorem l_cell {ro : Nat → Option (Nat × (Nat → Int32))} {K : gK} (hK : gClosed (gSafe 13) mL_law 14 lwPost lwX ro K) {b L : Nat} {xs : Nat → Int32} (hro : ro b = some (L, xs)) (hL : L ≤ 2048) {q : Nat} (hq : q + 3 < L) {a o : Nat} {n n' m : Nat → Nat} {S : CS} {i : Nat} (I : InvC S i) (hi : i ≤ 512) {h : gH} (A : LawAt h a o n n' m S) {w5 w6 w7 w8 : Option Value} {bc bs : Nat} (hbc : 80 ≤ bc) (hbs : 500 ≤ bs) (next : ∀ h' S' w5 w6 w7 w8 bc' bs', InvC S' (i + 1) → LawAt h' a o n n' m S' → bc ≤ bc' + 80 → bs ≤ bs' + 500 → K 1640 [some (.ref b), some (.ref a), some (.ref (m 0)), some (.ref o), some (.int (nI q)), w5, w6, w7, w8] [] h' bc' bs') : K 830 [some (.ref b), some (.ref a), some (.ref (m 0)), some (.ref o), some (.int (nI q)), w5, w6, w7, w8] [] h bc bs := by
  obtain ⟨C, ⟨thr, lt, st, rw, M⟩, ⟨fo, O⟩, D⟩ := A
  have V := I.1
  refine s_aload_n hK dL_law_830 rfl ?_
  refine s_ro hK (cc := 1) dL_law_831 dL_law_832 dL_law_834 dL_law_835 dL_law_836 rfl rfl (by decide) hro (by omega) (by omega) ?_
  refine s_ro hK (cc := 2) dL_law_837 dL_law_838 dL_law_840 dL_law_841 dL_law_842 rfl rfl (by decide) hro (by omega) (by omega) ?_
  refine s_ro hK (cc := 3) dL_law_843 dL_law_844 dL_law_846 dL_law_847 dL_law_848 rfl rfl (by decide) hro (by omega) (by omega) ?_
  refine s_aload_n hK dL_law_849 rfl ?_
  refine s_W5 hK (mc := 4) (ms := 24) dL_law_850 kW_L_122 (by rfl) (by omega) (by omega) ?_
  refine w_cell _ C V.1 O (by omega) (by omega) (fun h1 k f1 C1 O1 F1 R1 => ?_)
  have M1 := law_M M O C D F1
  have M0 := M1.own0
  refine s_istore hK dL_law_853 rfl ?_
  refine s_aload_n hK dL_law_855 rfl ?_
  refine s_ro hK (cc := 1) dL_law_856 dL_law_857 dL_law_859 dL_law_860 dL_law_861 rfl rfl (by decide) hro (by omega) (by omega) ?_
  refine s_ro hK (cc := 2) dL_law_862 dL_law_863 dL_law_865 dL_law_866 dL_law_867 rfl rfl (by decide) hro (by omega) (by omega) ?_
  refine s_ro hK (cc := 3) dL_law_868 dL_law_869 dL_law_871 dL_law_872 dL_law_873 rfl rfl (by decide) hro (by omega) (by omega) ?_
  refine s_V30 hK dL_law_874 kV_L_124 (by first | assumption | exact H.1 | exact H.2.1) (by rfl) ?_
  refine c_cellM _ M1 V.1 V.2.1 (T_D V.2.2.1) V.2.2.2 (fun h2 thr2 v2 lt2 st2 rw2 M2 F2 R2 => ?_)
  obtain ⟨C2, O2⟩ := law_C M1 O1 C1 D F2
  have M0 := M2.own0
  obtain ⟨key1, key2⟩ := ans_key cdB_ne R1 R2
  refine s_istore hK dL_law_877 rfl ?_
  refine s_aload_n hK dL_law_879 rfl ?_
  refine s_V00 hK dL_law_880 kV_L_91 (by first | assumption | exact H.1 | exact H.2.1) (by rfl) ?_
  refine c_thrown _ M2 ?_
  refine s_iload hK dL_law_883 rfl ?_
  refine s_icmpeq hK dL_law_885 890 (by decide) (fun c_885 => ?_) (fun c_885 => ?_)
  · refine s_iload hK dL_law_890 rfl ?_
    refine s_ifne hK dL_law_892 907 (by decide) (fun c_892 => ?_) (fun c_892 => ?_)
    · refine s_goto hK dL_law_907 1640 (by decide) ?_
      exact next h2 (fCell S (xs (q + 1)) (xs (q + 2)) (xs (q + 3))).2 _ _ _ _ _ _ (kCell I) ⟨C2, ⟨_, _, _, _, M2⟩, ⟨f1, O2⟩, D⟩ (by omega) (by omega)
    · have k0 : k = 0 := Decidable.of_not_not (by first | exact c_892 | exact fun w => w c_892)
      refine s_aload_n hK dL_law_895 rfl ?_
      refine s_iconst hK (v := 0) dL_law_896 (by decide) ?_
      refine s_laloadN hK (j := 0) dL_law_897 O2 (by omega) (by omega) ?_
      rw [(key2 k0).1]
      refine s_iload hK dL_law_898 rfl ?_
      refine s_i2l hK dL_law_900 ?_
      refine s_lcmp hK dL_law_901 ?_
      refine s_ifeq hK dL_law_902 907 (by decide) (fun c_902 => ?_) (fun c_902 => ?_)
      · refine s_goto hK dL_law_907 1640 (by decide) ?_
        exact next h2 (fCell S (xs (q + 1)) (xs (q + 2)) (xs (q + 3))).2 _ _ _ _ _ _ (kCell I) ⟨C2, ⟨_, _, _, _, M2⟩, ⟨f1, O2⟩, D⟩ (by omega) (by omega)
      · exact absurd ((lg_cmp_eq _ _).mpr rfl) c_902
  · exact absurd key1 c_885
