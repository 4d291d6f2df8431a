/-! Ways -/
def WaysAt (h : gH) (w : Nat) (own : Int64) (mp : Bool) (pl ps : Int64) : Prop := h w = some (.inr (3, [.long own, .int (b01 mp), .long pl, .long ps]))
section PW
variable {call : gC} {y : gM} {d : Nat} {Post : Option Value → gH → Prop} {X : String → gH → Prop} {ro : Nat → Option (Nat × (Nat → Int32))} {K : gK} {pc : Nat} {lv : gL} {st : List Value} {h : gH} {bc bs : Nat} {idx w : Nat} {own pl ps v : Int64} {mp b : Bool}
theorem s_putW1 (hK : gClosed call y d Post X ro K) (dd : decode y.2.1 pc = .ok (.putfield idx, 3)) (hf : gFL y.1.cls idx 3 0 .long false) (H : WaysAt h w own mp pl ps) (kk : ∀ h', WaysAt h' w v mp pl ps → gFr [w] h h' → K (pc + 3) lv st h' bc bs) : K pc lv (.long v :: .ref w :: st) h bc bs :=
  s_putfield hK dd hf H rfl rfl rfl (kk _ (gU_eq _ _ _) (gFr_U _ _ _))
theorem s_putW2 (hK : gClosed call y d Post X ro K) (dd : decode y.2.1 pc = .ok (.putfield idx, 3)) (hf : gFL y.1.cls idx 3 1 .boolean false) (H : WaysAt h w own mp pl ps) (kk : ∀ h', WaysAt h' w own b pl ps → gFr [w] h h' → K (pc + 3) lv st h' bc bs) : K pc lv (.int (b01 b) :: .ref w :: st) h bc bs :=
  s_putfield hK dd hf H rfl (b01_nar b) (by cases b <;> rfl) (kk _ (gU_eq _ _ _) (gFr_U _ _ _))
theorem s_putW3 (hK : gClosed call y d Post X ro K) (dd : decode y.2.1 pc = .ok (.putfield idx, 3)) (hf : gFL y.1.cls idx 3 2 .long false) (H : WaysAt h w own mp pl ps) (kk : ∀ h', WaysAt h' w own mp v ps → gFr [w] h h' → K (pc + 3) lv st h' bc bs) : K pc lv (.long v :: .ref w :: st) h bc bs :=
  s_putfield hK dd hf H rfl rfl rfl (kk _ (gU_eq _ _ _) (gFr_U _ _ _))
theorem s_putW4 (hK : gClosed call y d Post X ro K) (dd : decode y.2.1 pc = .ok (.putfield idx, 3)) (hf : gFL y.1.cls idx 3 3 .long false) (H : WaysAt h w own mp pl ps) (kk : ∀ h', WaysAt h' w own mp pl v → gFr [w] h h' → K (pc + 3) lv st h' bc bs) : K pc lv (.long v :: .ref w :: st) h bc bs :=
  s_putfield hK dd hf H rfl rfl rfl (kk _ (gU_eq _ _ _) (gFr_U _ _ _))
end PW
theorem WaysAt.house {h h' : gH} {w a r ar : Nat} {own pl ps : Int64} {mp : Bool} {L : Nat → Int64} {am : Nat → Int32} (W : WaysAt h w own mp pl ps) (H : HouseAt h a r ar L am) (F : gFr [w] h h') : HouseAt h' a r ar L am := by
  have ne : ∀ {x : Nat} {o : gO}, h x = some o → (∀ fs, o ≠ .inr (3, fs)) → x ∉ [w] := by
    intro x o hx ho hm
    rw [List.mem_singleton.mp hm] at hx
    rw [W] at hx
    exact ho _ (Option.some.inj hx).symm
  obtain ⟨f', h3, -⟩ := H.2.2
  exact H.keep (F a (ne H.1 (fun fs e => by cases e))) (F r (ne H.2.1 (fun fs e => by cases e))) (F ar (ne h3 (fun fs e => by cases e)))
/-- the two floods behind n steps -/
def flI (L : Nat → Int64) (mp : Bool) (free pl0 : Int64) : Nat → Int64 × Int64
  | 0 => (pl0, 0)
  | n + 1 => let p := flI L mp free pl0 n
    (p.1 ||| (nbsI L p.1 false 4 &&& free), if mp then (p.2 ||| (nbsI L p.2 false 4 &&& free)) ||| (nbsI L p.1 true 4 &&& free) else p.2)
def flHit (L : Nat → Int64) (mp : Bool) (free pl0 own : Int64) (n : Nat) : Prop := ((flI L mp free pl0 n).1 ||| (flI L mp free pl0 n).2) &&& own ≠ 0
def FW (L : Nat → Int64) (mp : Bool) (free pl0 own : Int64) (fr go : Nat) (r : Int32) (pl ps : Int64) : Prop :=
  (fr = go ∧ r = 0) ∨ (fr ≠ go ∧ ∃ k, k ≤ 61 ∧ r = nI (k + 1) ∧ flI L mp free pl0 k = (pl, ps) ∧ flHit L mp free pl0 own (k + 1) ∧ ∀ j, 1 ≤ j → j ≤ k → ¬ flHit L mp free pl0 own j) ∨ (fr ≠ go ∧ r = -1 ∧ ∀ j, 1 ≤ j → j ≤ 62 → ¬ flHit L mp free pl0 own j)
theorem flI_stay {L : Nat → Int64} {mp : Bool} {free pl0 : Int64} {n : Nat} (h : flI L mp free pl0 (n + 1) = flI L mp free pl0 n) : ∀ j, n ≤ j → flI L mp free pl0 j = flI L mp free pl0 n := by
  intro j hj
  induction j with
  | zero => rw [Nat.le_zero.mp hj]
  | succ j ih =>
    by_cases e : n = j + 1
    · rw [e]
    · have e2 := ih (by omega)
      rw [← h]
      show _ = flI L mp free pl0 (n + 1)
      unfold flI
      rw [e2]
set_option maxHeartbeats 1000000 in
set_option maxRecDepth 10000 in
theorem c_fewestSteps (d : Nat) {w a r ar fr go : Nat} {own0 pl0 ps0 : Int64} {mp0 mp : Bool} {L : Nat → Int64} {am : Nat → Int32} (hfr : fr < 63) (hgo : go < 63) {h : gH} (W : WaysAt h w own0 mp0 pl0 ps0) (H : HouseAt h a r ar L am) {mc ms : Nat} {Post : Option Value → gH → Prop} {X : String → gH → Prop}
    (hp : ∀ v pl ps h', WaysAt h' w (bOnly fr) mp pl ps → gFr [w] h h' → FW L mp ((L 7 ^^^ (-1)) ||| bOnly fr) (bOnly go &&& ((L 7 ^^^ (-1)) ||| bOnly fr)) (bOnly fr) fr go v pl ps → Post (some (.int v)) h') : gSafe (d + 3) mX4_fewestSteps [.ref w, .ref a, .int (nI fr), .int (nI go), .int (b01 mp)] h mc ms Post X := by
  obtain ⟨own, hown⟩ : ∃ z, z = bOnly fr := ⟨_, rfl⟩
  obtain ⟨free, hfree⟩ : ∃ z, z = (L 7 ^^^ (-1)) ||| own := ⟨_, rfl⟩
  obtain ⟨P0, hP0⟩ : ∃ z, z = bOnly go &&& free := ⟨_, rfl⟩
  rw [← hown, ← hfree, ← hP0] at hp
  refine ⟨Nat.le_of_ble_eq_true rfl, fun K hK => ?_⟩
  show K 0 [some (.ref w), some (.ref a), some (.int (nI fr)), some (.int (nI go)), some (.int (b01 mp)), none, none, none, none, none, none, none] [] _ _ _
  refine s_aload_n hK dX4_fewestSteps_0 rfl ?_
  refine s_iload_n hK dX4_fewestSteps_1 rfl ?_
  refine s_S10 hK dX4_fewestSteps_2 kS_X4_9 (by rfl) ?_
  refine c_only _ ?_
  rw [← hown]
  refine s_putW1 hK dX4_fewestSteps_5 kF_X4_15 W (fun h1 W1 F1 => ?_)
  have H1 := W.house H F1
  refine s_aload_n hK dX4_fewestSteps_8 rfl ?_
  refine s_iload hK dX4_fewestSteps_9 rfl ?_
  refine s_putW2 hK dX4_fewestSteps_11 kF_X4_21 W1 (fun h2 W2 F2 => ?_)
  have H2 := W1.house H1 F2
  have F2 := F1.tr F2
  have W2w : h2 w = _ := W2
  refine s_aload_n hK dX4_fewestSteps_14 rfl ?_
  refine s_getfield hK dX4_fewestSteps_15 kF_X4_25 H2.1 (by rfl) ?_
  refine s_ldc2_w hK dX4_fewestSteps_18 kC_X4_30 ?_
  refine s_lxor hK dX4_fewestSteps_21 ?_
  refine s_aload_n hK dX4_fewestSteps_22 rfl ?_
  refine s_getfield hK dX4_fewestSteps_23 kF_X4_15 (by first | assumption | exact H.1 | exact H.2.1) (by rfl) ?_
  refine s_lor hK dX4_fewestSteps_26 ?_
  rw [← hfree]
  refine s_lstore hK dX4_fewestSteps_27 rfl ?_
  refine s_aload_n hK dX4_fewestSteps_29 rfl ?_
  refine s_iload_n hK dX4_fewestSteps_30 rfl ?_
  refine s_S10 hK dX4_fewestSteps_31 kS_X4_9 (by rfl) ?_
  refine c_only _ ?_
  refine s_lload hK dX4_fewestSteps_34 rfl ?_
  refine s_land hK dX4_fewestSteps_36 ?_
  rw [← hP0]
  refine s_putW3 hK dX4_fewestSteps_37 kF_X4_32 W2 (fun h3 W3 F3 => ?_)
  have H3 := W2.house H2 F3
  have F3 := F2.tr F3
  refine s_aload_n hK dX4_fewestSteps_40 rfl ?_
  refine s_lconst hK (v := 0) dX4_fewestSteps_41 (by decide) ?_
  refine s_putW4 hK dX4_fewestSteps_42 kF_X4_35 W3 (fun h4 W4 F4 => ?_)
  have H4 := W3.house H3 F4
  have F4 := F3.tr F4
  clear H1 H2 H3 W1 W2 W3 F1 F2 F3
  refine s_iload_n hK dX4_fewestSteps_45 rfl ?_
  refine s_iload_n hK dX4_fewestSteps_46 rfl ?_
  refine s_icmpne hK dX4_fewestSteps_47 52 (by decide) (fun c_47 => ?_) (fun c_47 => ?_)
  · have hne : fr ≠ go := fun e => c_47 (by rw [e])
    refine s_iconst hK (v := 1) dX4_fewestSteps_52 (by decide) ?_
    refine s_istore hK dX4_fewestSteps_53 rfl ?_
    have loop : ∀ m i, i + m = 62 → (∀ j, 1 ≤ j → j ≤ i → ¬ flHit L mp free P0 own j) → ∀ (v7 v9 : Option Value) (h1 : gH), WaysAt h1 w own mp (flI L mp free P0 i).1 (flI L mp free P0 i).2 → HouseAt h1 a r ar L am → gFr [w] h h1 → K 55 [some (.ref w), some (.ref a), some (.int (nI fr)), some (.int (nI go)), some (.int (b01 mp)), some (.long free), none, some (.int (nI (i + 1))), v7, none, v9, none] [] h1 mc ms := by
      intro m
      induction m with
      | zero =>
        intro i hi hno v7 v9 h1 W1 H1 F1
        obtain rfl : i = 62 := by omega
        refine s_iload hK dX4_fewestSteps_55 rfl ?_
        refine s_bipush hK (v := 63) dX4_fewestSteps_57 (by decide) ?_
        refine s_icmpge hK dX4_fewestSteps_59 186 (by decide) (fun c_59 => ?_) (fun c_59 => ?_)
        · refine s_iconst hK (v := (-1)) dX4_fewestSteps_186 (by decide) ?_
          refine s_ireturn hK dX4_fewestSteps_187 rfl (by first | rfl | exact b01_nar _) ?_
          exact hp _ _ _ h1 W1 F1 (Or.inr (Or.inr ⟨hne, rfl, hno⟩))
        · exact absurd (Int32.le_refl (nI 63)) c_59
      | succ m ih =>
        intro i hi hno v7 v9 h1 W1 H1 F1
        have W1w : h1 w = _ := W1
        have H11 := H1.1
        refine s_iload hK dX4_fewestSteps_55 rfl ?_
        refine s_bipush hK (v := 63) dX4_fewestSteps_57 (by decide) ?_
        refine s_icmpge hK dX4_fewestSteps_59 186 (by decide) (fun c_59 => ?_) (fun c_59 => ?_)
        · exact absurd c_59 (nI_ge (b := 63) (by omega) (by omega))
        · refine s_aload_n hK dX4_fewestSteps_62 rfl ?_
          refine s_getfield hK dX4_fewestSteps_63 kF_X4_32 (by first | assumption | exact H.1 | exact H.2.1) (by rfl) ?_
          refine s_aload_n hK dX4_fewestSteps_66 rfl ?_
          refine s_aload_n hK dX4_fewestSteps_67 rfl ?_
          refine s_getfield hK dX4_fewestSteps_68 kF_X4_32 (by first | assumption | exact H.1 | exact H.2.1) (by rfl) ?_
          refine s_iconst hK (v := 0) dX4_fewestSteps_71 (by decide) ?_
          refine s_V20 hK dX4_fewestSteps_72 kV_X4_38 (by first | assumption | exact H.1 | exact H.2.1) (by rfl) ?_
          refine c_neighbours (b := false) _ H1 ?_
          refine s_lload hK dX4_fewestSteps_75 rfl ?_
          refine s_land hK dX4_fewestSteps_77 ?_
          refine s_lor hK dX4_fewestSteps_78 ?_
          refine s_lstore hK dX4_fewestSteps_79 rfl ?_
          refine s_aload_n hK dX4_fewestSteps_81 rfl ?_
          refine s_getfield hK dX4_fewestSteps_82 kF_X4_35 (by first | assumption | exact H.1 | exact H.2.1) (by rfl) ?_
          refine s_lstore hK dX4_fewestSteps_85 rfl ?_
          refine s_aload_n hK dX4_fewestSteps_87 rfl ?_
          refine s_getfield hK dX4_fewestSteps_88 kF_X4_21 (by first | assumption | exact H.1 | exact H.2.1) (by rfl) ?_
          have tail : ∀ q : Int64, q = (flI L mp free P0 (i + 1)).2 → K 128 [some (.ref w), some (.ref a), some (.int (nI fr)), some (.int (nI go)), some (.int (b01 mp)), some (.long free), none, some (.int (nI (i + 1))), some (.long (flI L mp free P0 (i + 1)).1), none, some (.long q), none] [] h1 mc ms := by
            intro q hq
            refine s_lload hK dX4_fewestSteps_128 rfl ?_
            refine s_lload hK dX4_fewestSteps_130 rfl ?_
            refine s_lor hK dX4_fewestSteps_132 ?_
            refine s_aload_n hK dX4_fewestSteps_133 rfl ?_
            refine s_getfield hK dX4_fewestSteps_134 kF_X4_15 (by first | assumption | exact H.1 | exact H.2.1) (by rfl) ?_
            refine s_land hK dX4_fewestSteps_137 ?_
            refine s_lconst hK (v := 0) dX4_fewestSteps_138 (by decide) ?_
            refine s_lcmp hK dX4_fewestSteps_139 ?_
            refine s_ifeq hK dX4_fewestSteps_140 146 (by decide) (fun c_140 => ?_) (fun c_140 => ?_)
            · have hn : ¬ flHit L mp free P0 own (i + 1) := by
                unfold flHit
                rw [← hq]
                intro q9
                exact q9 (lg_cmp_0.mp c_140)
              have go2 : (flI L mp free P0 (i + 1)) ≠ flI L mp free P0 i → K 168 [some (.ref w), some (.ref a), some (.int (nI fr)), some (.int (nI go)), some (.int (b01 mp)), some (.long free), none, some (.int (nI (i + 1))), some (.long (flI L mp free P0 (i + 1)).1), none, some (.long q), none] [] h1 mc ms := by
                intro _
                refine s_aload_n hK dX4_fewestSteps_168 rfl ?_
                refine s_lload hK dX4_fewestSteps_169 rfl ?_
                refine s_putW3 hK dX4_fewestSteps_171 kF_X4_32 W1 (fun h2 W2 F2 => ?_)
                have H2 := W1.house H1 F2
                refine s_aload_n hK dX4_fewestSteps_174 rfl ?_
                refine s_lload hK dX4_fewestSteps_175 rfl ?_
                refine s_putW4 hK dX4_fewestSteps_177 kF_X4_35 W2 (fun h3 W3 F3 => ?_)
                have H3 := W2.house H2 F3
                refine s_iinck hK (v := 1) dX4_fewestSteps_180 rfl (by decide) rfl ?_
                refine s_goto hK dX4_fewestSteps_183 55 (by decide) ?_
                rw [nI_1]
                refine ih (i + 1) (by omega) (fun j j1 j2 => ?_) _ _ h3 (by rw [← hq]; exact W3) H3 ((F1.tr F2).tr F3)
                by_cases e : j = i + 1
                · rw [e]; exact hn
                · exact hno j j1 (by omega)
              refine s_lload hK dX4_fewestSteps_146 rfl ?_
              refine s_aload_n hK dX4_fewestSteps_148 rfl ?_
              refine s_getfield hK dX4_fewestSteps_149 kF_X4_32 (by first | assumption | exact H.1 | exact H.2.1) (by rfl) ?_
              refine s_lcmp hK dX4_fewestSteps_152 ?_
              refine s_ifne hK dX4_fewestSteps_153 168 (by decide) (fun c_153 => ?_) (fun c_153 => ?_)
              · exact go2 (fun e => c_153 ((lg_cmp_eq _ _).mpr (congrArg Prod.fst e)))
              · refine s_lload hK dX4_fewestSteps_156 rfl ?_
                refine s_aload_n hK dX4_fewestSteps_158 rfl ?_
                refine s_getfield hK dX4_fewestSteps_159 kF_X4_35 (by first | assumption | exact H.1 | exact H.2.1) (by rfl) ?_
                refine s_lcmp hK dX4_fewestSteps_162 ?_
                refine s_ifne hK dX4_fewestSteps_163 168 (by decide) (fun c_163 => ?_) (fun c_163 => ?_)
                · exact go2 (fun e => c_163 ((lg_cmp_eq _ _).mpr (by rw [hq]; exact congrArg Prod.snd e)))
                · have e : flI L mp free P0 (i + 1) = flI L mp free P0 i := Prod.ext ((lg_cmp_eq _ _).mp c_153) (by rw [← hq]; exact (lg_cmp_eq _ _).mp c_163)
                  refine s_iconst hK (v := (-1)) dX4_fewestSteps_166 (by decide) ?_
                  refine s_ireturn hK dX4_fewestSteps_167 rfl (by first | rfl | exact b01_nar _) ?_
                  refine hp _ _ _ h1 W1 F1 (Or.inr (Or.inr ⟨hne, rfl, fun j j1 j2 => ?_⟩))
                  by_cases e2 : j ≤ i
                  · exact hno j j1 e2
                  · unfold flHit
                    rw [flI_stay e j (by omega), ← e]
                    exact hn
            · refine s_iload hK dX4_fewestSteps_143 rfl ?_
              refine s_ireturn hK dX4_fewestSteps_145 rfl (by first | rfl | exact b01_nar _) ?_
              refine hp _ _ _ h1 W1 F1 (Or.inr (Or.inl ⟨hne, i, by omega, rfl, rfl, ?_, hno⟩))
              unfold flHit
              rw [← hq]
              exact fun q9 => c_140 (lg_cmp_0.mpr q9)
          cases mp with
          | false =>
            refine s_ifeq hK dX4_fewestSteps_91 128 (by decide) (fun c_91 => ?_) (fun c_91 => ?_)
            · exact tail _ rfl
            · exact absurd rfl c_91
          | true =>
            refine s_ifeq hK dX4_fewestSteps_91 128 (by decide) (fun c_91 => ?_) (fun c_91 => ?_)
            · exact absurd c_91 (by decide)
            · refine s_lload hK dX4_fewestSteps_94 rfl ?_
              refine s_aload_n hK dX4_fewestSteps_96 rfl ?_
              refine s_aload_n hK dX4_fewestSteps_97 rfl ?_
              refine s_getfield hK dX4_fewestSteps_98 kF_X4_35 (by first | assumption | exact H.1 | exact H.2.1) (by rfl) ?_
              refine s_iconst hK (v := 0) dX4_fewestSteps_101 (by decide) ?_
              refine s_V20 hK dX4_fewestSteps_102 kV_X4_38 (by first | assumption | exact H.1 | exact H.2.1) (by rfl) ?_
              refine c_neighbours (b := false) _ H1 ?_
              refine s_lload hK dX4_fewestSteps_105 rfl ?_
              refine s_land hK dX4_fewestSteps_107 ?_
              refine s_lor hK dX4_fewestSteps_108 ?_
              refine s_lstore hK dX4_fewestSteps_109 rfl ?_
              refine s_lload hK dX4_fewestSteps_111 rfl ?_
              refine s_aload_n hK dX4_fewestSteps_113 rfl ?_
              refine s_aload_n hK dX4_fewestSteps_114 rfl ?_
              refine s_getfield hK dX4_fewestSteps_115 kF_X4_32 (by first | assumption | exact H.1 | exact H.2.1) (by rfl) ?_
              refine s_iconst hK (v := 1) dX4_fewestSteps_118 (by decide) ?_
              refine s_V20 hK dX4_fewestSteps_119 kV_X4_38 (by first | assumption | exact H.1 | exact H.2.1) (by rfl) ?_
              refine c_neighbours (b := true) _ H1 ?_
              refine s_lload hK dX4_fewestSteps_122 rfl ?_
              refine s_land hK dX4_fewestSteps_124 ?_
              refine s_lor hK dX4_fewestSteps_125 ?_
              refine s_lstore hK dX4_fewestSteps_126 rfl ?_
              exact tail _ rfl
    exact loop 62 0 (by omega) (fun j j1 j2 => by omega) _ _ h4 W4 H4 F4
  · have he : fr = go := (nI_eq (by omega) (by omega)).mp c_47
    refine s_iconst hK (v := 0) dX4_fewestSteps_50 (by decide) ?_
    refine s_ireturn hK dX4_fewestSteps_51 rfl (by first | rfl | exact b01_nar _) ?_
    exact hp _ _ _ h4 W4 F4 (Or.inl ⟨he, rfl⟩)
def fst4 (p : Nat → Bool) : Option Nat := if p 0 then some 0 else if p 1 then some 1 else if p 2 then some 2 else if p 3 then some 3 else none
theorem fst4_some {p : Nat → Bool} {i : Nat} (hi : i < 4) (h : p i = true) (hn : ∀ j, j < i → p j = false) : fst4 p = some i := by
  unfold fst4
  match i, hi with
  | 0, _ => simp [h]
  | 1, _ => simp [h, hn 0 (by omega)]
  | 2, _ => simp [h, hn 0 (by omega), hn 1 (by omega)]
  | 3, _ => simp [h, hn 0 (by omega), hn 1 (by omega), hn 2 (by omega)]
theorem fst4_none {p : Nat → Bool} (hn : ∀ j, j < 4 → p j = false) : fst4 p = none := by
  simp [fst4, hn 0 (by omega), hn 1 (by omega), hn 2 (by omega), hn 3 (by omega)]
def oI : Option Nat → Int32
  | some i => nI i
  | none => -1
def fdA (L : Nat → Int64) (own pl ps : Int64) (dn : Nat) : Bool := decide (bMv (own &&& (wCells L dn ^^^ (-1))) dn &&& (pl ||| ps) ≠ 0)
def fdB (L : Nat → Int64) (own : Int64) (mp : Bool) (pl : Int64) (dn : Nat) : Bool := mp && decide (bMv (own &&& wCells L dn) dn &&& pl ≠ 0)
def fdir (L : Nat → Int64) (own : Int64) (mp : Bool) (pl ps : Int64) : Option Nat := match fst4 (fdA L own pl ps) with
  | some i => some i
  | none => fst4 (fdB L own mp pl)
set_option maxRecDepth 10000 in
theorem c_firstDirection (d : Nat) {w a r ar : Nat} {own pl ps : Int64} {mp : Bool} {L : Nat → Int64} {am : Nat → Int32} {h : gH} (W : WaysAt h w own mp pl ps) (H : HouseAt h a r ar L am) {mc ms : Nat} {Post : Option Value → gH → Prop} {X : String → gH → Prop} (hp : Post (some (.int (oI (fdir L own mp pl ps)))) h) : gSafe (d + 2) mX4_firstDirection [.ref w, .ref a] h mc ms Post X := by
  have W1 : h w = _ := W
  have H1 := H.1
  refine ⟨Nat.le_of_ble_eq_true rfl, fun K hK => ?_⟩
  show K 0 [some (.ref w), some (.ref a), none, none, none] [] _ _ _
  refine s_iconst hK (v := 0) dX4_firstDirection_0 (by decide) ?_
  refine s_istore_n hK dX4_firstDirection_1 rfl ?_
  have loop2 : fst4 (fdA L own pl ps) = none → ∀ m i, i + m = 4 → (∀ j, j < i → fdB L own mp pl j = false) → ∀ (v2 : Option Value), K 52 [some (.ref w), some (.ref a), some (.int (nI i)), v2, none] [] h mc ms := by
    intro hA m
    induction m with
    | zero =>
      intro i hi hno v2
      obtain rfl : i = 4 := by omega
      refine s_iload_n hK dX4_firstDirection_52 rfl ?_
      refine s_iconst hK (v := 4) dX4_firstDirection_53 (by decide) ?_
      refine s_icmpge hK dX4_firstDirection_54 98 (by decide) (fun c_54 => ?_) (fun c_54 => ?_)
      · refine s_iconst hK (v := (-1)) dX4_firstDirection_98 (by decide) ?_
        refine s_ireturn hK dX4_firstDirection_99 rfl (by first | rfl | exact b01_nar _) ?_
        have : fdir L own mp pl ps = none := by unfold fdir; rw [hA]; exact fst4_none hno
        rw [this] at hp
        exact hp
      · exact absurd (Int32.le_refl (nI 4)) c_54
    | succ m ih =>
      intro i hi hno v2
      refine s_iload_n hK dX4_firstDirection_52 rfl ?_
      refine s_iconst hK (v := 4) dX4_firstDirection_53 (by decide) ?_
      refine s_icmpge hK dX4_firstDirection_54 98 (by decide) (fun c_54 => ?_) (fun c_54 => ?_)
      · exact absurd c_54 (nI_ge (b := 4) (by omega) (by omega))
      · refine s_aload_n hK dX4_firstDirection_57 rfl ?_
        refine s_getfield hK dX4_firstDirection_58 kF_X4_15 (by first | assumption | exact H.1 | exact H.2.1) (by rfl) ?_
        refine s_aload_n hK dX4_firstDirection_61 rfl ?_
        refine s_iload_n hK dX4_firstDirection_62 rfl ?_
        refine s_V10 hK dX4_firstDirection_63 kV_X4_42 (by first | assumption | exact H.1 | exact H.2.1) (by rfl) ?_
        refine c_walledCells _ (by omega) H ?_
        refine s_land hK dX4_firstDirection_66 ?_
        refine s_lstore_n hK dX4_firstDirection_67 rfl ?_
        refine s_aload_n hK dX4_firstDirection_68 rfl ?_
        refine s_getfield hK dX4_firstDirection_69 kF_X4_21 (by first | assumption | exact H.1 | exact H.2.1) (by rfl) ?_
        have skip : fdB L own mp pl i = false → K 92 [some (.ref w), some (.ref a), some (.int (nI i)), some (.long (own &&& wCells L i)), none] [] h mc ms := by
          intro hb
          refine s_iinck hK (v := 1) dX4_firstDirection_92 rfl (by decide) rfl ?_
          refine s_goto hK dX4_firstDirection_95 52 (by decide) ?_
          rw [nI_1]
          refine ih (i + 1) (by omega) (fun j hj => ?_) _
          by_cases e : j = i
          · rw [e]; exact hb
          · exact hno j (by omega)
        cases hm : mp with
        | false =>
          subst hm
          refine s_ifeq hK dX4_firstDirection_72 92 (by decide) (fun c_72 => ?_) (fun c_72 => ?_)
          · exact skip rfl
          · exact absurd rfl c_72
        | true =>
          subst hm
          refine s_ifeq hK dX4_firstDirection_72 92 (by decide) (fun c_72 => ?_) (fun c_72 => ?_)
          · exact absurd c_72 (by decide)
          · refine s_lload_n hK dX4_firstDirection_75 rfl ?_
            refine s_iload_n hK dX4_firstDirection_76 rfl ?_
            refine s_S20 hK dX4_firstDirection_77 kS_X4_45 (by rfl) ?_
            refine c_moved _ (by omega) ?_
            refine s_aload_n hK dX4_firstDirection_80 rfl ?_
            refine s_getfield hK dX4_firstDirection_81 kF_X4_32 (by first | assumption | exact H.1 | exact H.2.1) (by rfl) ?_
            refine s_land hK dX4_firstDirection_84 ?_
            refine s_lconst hK (v := 0) dX4_firstDirection_85 (by decide) ?_
            refine s_lcmp hK dX4_firstDirection_86 ?_
            refine s_ifeq hK dX4_firstDirection_87 92 (by decide) (fun c_87 => ?_) (fun c_87 => ?_)
            · refine skip ?_
              unfold fdB
              rw [Bool.true_and, decide_eq_false_iff_not]
              exact fun q => q (lg_cmp_0.mp c_87)
            · refine s_iload_n hK dX4_firstDirection_90 rfl ?_
              refine s_ireturn hK dX4_firstDirection_91 rfl (by first | rfl | exact b01_nar _) ?_
              have hb : fdB L own true pl i = true := by
                unfold fdB
                rw [Bool.true_and, decide_eq_true_eq]
                exact fun q => c_87 (lg_cmp_0.mpr q)
              have : fdir L own true pl ps = some i := by unfold fdir; rw [hA]; exact fst4_some (by omega) hb hno
              rw [this] at hp
              exact hp
  have loop : ∀ m i, i + m = 4 → (∀ j, j < i → fdA L own pl ps j = false) → ∀ (v2 : Option Value), K 2 [some (.ref w), some (.ref a), some (.int (nI i)), v2, none] [] h mc ms := by
    intro m
    induction m with
    | zero =>
      intro i hi hno v2
      obtain rfl : i = 4 := by omega
      refine s_iload_n hK dX4_firstDirection_2 rfl ?_
      refine s_iconst hK (v := 4) dX4_firstDirection_3 (by decide) ?_
      refine s_icmpge hK dX4_firstDirection_4 50 (by decide) (fun c_4 => ?_) (fun c_4 => ?_)
      · refine s_iconst hK (v := 0) dX4_firstDirection_50 (by decide) ?_
        refine s_istore_n hK dX4_firstDirection_51 rfl ?_
        exact loop2 (fst4_none hno) 4 0 (by omega) (fun j hj => by omega) _
      · exact absurd (Int32.le_refl (nI 4)) c_4
    | succ m ih =>
      intro i hi hno v2
      refine s_iload_n hK dX4_firstDirection_2 rfl ?_
      refine s_iconst hK (v := 4) dX4_firstDirection_3 (by decide) ?_
      refine s_icmpge hK dX4_firstDirection_4 50 (by decide) (fun c_4 => ?_) (fun c_4 => ?_)
      · exact absurd c_4 (nI_ge (b := 4) (by omega) (by omega))
      · refine s_aload_n hK dX4_firstDirection_7 rfl ?_
        refine s_getfield hK dX4_firstDirection_8 kF_X4_15 (by first | assumption | exact H.1 | exact H.2.1) (by rfl) ?_
        refine s_aload_n hK dX4_firstDirection_11 rfl ?_
        refine s_iload_n hK dX4_firstDirection_12 rfl ?_
        refine s_V10 hK dX4_firstDirection_13 kV_X4_42 (by first | assumption | exact H.1 | exact H.2.1) (by rfl) ?_
        refine c_walledCells _ (by omega) H ?_
        refine s_ldc2_w hK dX4_firstDirection_16 kC_X4_30 ?_
        refine s_lxor hK dX4_firstDirection_19 ?_
        refine s_land hK dX4_firstDirection_20 ?_
        refine s_lstore_n hK dX4_firstDirection_21 rfl ?_
        refine s_lload_n hK dX4_firstDirection_22 rfl ?_
        refine s_iload_n hK dX4_firstDirection_23 rfl ?_
        refine s_S20 hK dX4_firstDirection_24 kS_X4_45 (by rfl) ?_
        refine c_moved _ (by omega) ?_
        refine s_aload_n hK dX4_firstDirection_27 rfl ?_
        refine s_getfield hK dX4_firstDirection_28 kF_X4_32 (by first | assumption | exact H.1 | exact H.2.1) (by rfl) ?_
        refine s_aload_n hK dX4_firstDirection_31 rfl ?_
        refine s_getfield hK dX4_firstDirection_32 kF_X4_35 (by first | assumption | exact H.1 | exact H.2.1) (by rfl) ?_
        refine s_lor hK dX4_firstDirection_35 ?_
        refine s_land hK dX4_firstDirection_36 ?_
        refine s_lconst hK (v := 0) dX4_firstDirection_37 (by decide) ?_
        refine s_lcmp hK dX4_firstDirection_38 ?_
        refine s_ifeq hK dX4_firstDirection_39 44 (by decide) (fun c_39 => ?_) (fun c_39 => ?_)
        · refine s_iinck hK (v := 1) dX4_firstDirection_44 rfl (by decide) rfl ?_
          refine s_goto hK dX4_firstDirection_47 2 (by decide) ?_
          rw [nI_1]
          refine ih (i + 1) (by omega) (fun j hj => ?_) _
          by_cases e : j = i
          · rw [e]
            unfold fdA
            rw [decide_eq_false_iff_not]
            exact fun q => q (lg_cmp_0.mp c_39)
          · exact hno j (by omega)
        · refine s_iload_n hK dX4_firstDirection_42 rfl ?_
          refine s_ireturn hK dX4_firstDirection_43 rfl (by first | rfl | exact b01_nar _) ?_
          have hb : fdA L own pl ps i = true := by
            unfold fdA
            rw [decide_eq_true_eq]
            exact fun q => c_39 (lg_cmp_0.mpr q)
          have : fdir L own mp pl ps = some i := by unfold fdir; rw [fst4_some (by omega) hb hno]
          rw [this] at hp
          exact hp
  exact loop 4 0 (by omega) (fun j hj => by omega) _
