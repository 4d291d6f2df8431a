/-! House, as eight longs (by their places in the object) and the amounts -/
def hF (L : Nat → Int64) (r : Nat) : List Value := [.long (L 0), .long (L 1), .long (L 2), .long (L 3), .long (L 4), .long (L 5), .long (L 6), .long (L 7), .ref r]
def HouseAt (h : gH) (a r ar : Nat) (L : Nat → Int64) (am : Nat → Int32) : Prop := h a = some (.inr (0, hF L r)) ∧ RowAt h r ar 63 am
theorem HouseAt.ne {h : gH} {a r ar : Nat} {L : Nat → Int64} {am : Nat → Int32} (H : HouseAt h a r ar L am) : a ≠ r ∧ a ≠ ar ∧ r ≠ ar := by
  obtain ⟨h1, h2⟩ := H
  refine ⟨fun e => ?_, fun e => ?_, h2.ne⟩
  · rw [e, h2.1] at h1; cases h1
  · obtain ⟨-, f', h3, -⟩ := h2
    rw [e, h3] at h1; cases h1
theorem HouseAt.keep {h h' : gH} {a r ar : Nat} {L : Nat → Int64} {am : Nat → Int32} (H : HouseAt h a r ar L am) (e1 : h' a = h a) (e2 : h' r = h r) (e3 : h' ar = h ar) : HouseAt h' a r ar L am := ⟨e1.trans H.1, e2.trans H.2.1, H.2.2.keep e3⟩
theorem HouseAt.put {h : gH} {a r ar : Nat} {L : Nat → Int64} {am : Nat → Int32} (H : HouseAt h a r ar L am) {k : Nat} (hk : k < 8) (v : Int64) : HouseAt (gU h a (.inr (0, (hF L r).set k (.long v)))) a r ar (vp_updL L k v) am := by
  obtain ⟨n1, n2, n3⟩ := H.ne
  refine ⟨?_, (gU_ne n1.symm).trans H.2.1, H.2.2.keep (gU_ne n2.symm)⟩
  rw [gU_eq]
  match k, hk with
  | 0, _ => rfl
  | 1, _ => rfl
  | 2, _ => rfl
  | 3, _ => rfl
  | 4, _ => rfl
  | 5, _ => rfl
  | 6, _ => rfl
  | 7, _ => rfl
theorem s_putH {call : gC} {y : gM} {d : Nat} {Post : Option Value → gH → Prop} {X : String → gH → Prop} {ro : Nat → Option (Nat × (Nat → Int32))} {K : gK} {pc : Nat} {lv : gL} {st : List Value} {h : gH} {bc bs : Nat} (hK : gClosed call y d Post X ro K) {idx k a r ar : Nat} {L : Nat → Int64} {am : Nat → Int32} {v : Int64} (dd : decode y.2.1 pc = .ok (.putfield idx, 3)) (hf : gFL y.1.cls idx 0 k .long false) (hk : Nat.ble (k + 1) 8 = true) (H : HouseAt h a r ar L am) (kk : ∀ h', HouseAt h' a r ar (vp_updL L k v) am → gFr [a] h h' → K (pc + 3) lv st h' bc bs) : K pc lv (.long v :: .ref a :: st) h bc bs := by
  have hk8 : k < 8 := Nat.le_of_ble_eq_true hk
  refine s_putfield hK dd hf H.1 ?_ rfl rfl (kk _ (H.put hk8 v) (gFr_U _ _ _))
  exact Nat.ble_eq_true_of_le (by simp [hF]; omega)
/-- behind a change of what S names, House's cells apart -/
theorem gFr.to {h h1 : gH} {S T : List Nat} (F : gFr S h h1) (hs : ∀ q, q ∈ S → q ∈ T := by simp) : gFr T h h1 := F.mono hs
-- what the methods answer
def wCells (L : Nat → Int64) (dn : Nat) : Int64 := match dn with
  | 0 => L 6 <<< ((9 : Int32).toInt64 &&& 63)
  | 1 => L 5
  | 2 => L 6
  | _ => L 5 <<< ((1 : Int32).toInt64 &&& 63)
def nbMask (L : Nat → Int64) (b : Bool) (dn : Nat) : Int64 := if b then wCells L dn else wCells L dn ^^^ (-1)
def nbsI (L : Nat → Int64) (x : Int64) (b : Bool) : Nat → Int64
  | 0 => 0
  | n + 1 => nbsI L x b n ||| bMv (x &&& nbMask L b n) n
def trn (L : Nat → Int64) (at_ : Int64) (dn : Nat) : Nat := if at_ &&& L 2 ≠ 0 then dn ^^^ 1 else if at_ &&& L 3 ≠ 0 then 3 - dn else dn
/-- a beam: where it is, whither it goes, what has been lit -/
def beamI (L : Nat → Int64) (own : Int64) (cells : Int64) (dn : Nat) : Nat → Int64 × Nat × Int64
  | 0 => (own, dn, cells)
  | n + 1 => let p := beamI L own cells dn n
    let at_ := bMv (p.1 &&& (wCells L p.2.1 ^^^ (-1))) p.2.1
    (at_, trn L (at_ &&& (own ^^^ (-1))) p.2.1, p.2.2 ||| at_)
def litF (L : Nat → Int64) (own : Int64) : Nat → Int64
  | 0 => own
  | n + 1 => (beamI L own (litF L own n) n 6).2.2
def litFrom (L : Nat → Int64) (c : Nat) : Int64 := litF L (bOnly c) 4
def relitN (L : Nat → Int64) : Nat → Int64
  | 0 => 0
  | n + 1 => if lb (L 1) n then relitN L n ||| litFrom L n else relitN L n
def relit (L : Nat → Int64) : Int64 := relitN L 63
theorem trn_lt {L : Nat → Int64} {x : Int64} {dn : Nat} (h : dn < 4) : trn L x dn < 4 := by
  unfold trn
  split
  · match dn, h with
    | 0, _ => decide
    | 1, _ => decide
    | 2, _ => decide
    | 3, _ => decide
  · split <;> omega
theorem beamI_lt {L : Nat → Int64} {own cells : Int64} {dn : Nat} (h : dn < 4) : ∀ n, (beamI L own cells dn n).2.1 < 4
  | 0 => h
  | n + 1 => trn_lt (beamI_lt h n)
theorem nI_xor1 : ∀ d : Fin 4, nI d.val ^^^ 1 = nI (d.val ^^^ 1) := by decide +kernel
theorem nI_3sub : ∀ d : Fin 4, (3 : Int32) - nI d.val = nI (3 - d.val) := by decide +kernel
theorem vp_updL_2 (L : Nat → Int64) (k : Nat) (v w : Int64) : vp_updL (vp_updL L k v) k w = vp_updL L k w := by
  funext j
  by_cases h : j = k <;> simp [vp_updL, h]
theorem trn_7 (L : Nat → Int64) (v x : Int64) (dn : Nat) : trn (vp_updL L 7 v) x dn = trn L x dn := rfl
theorem wCells_7 (L : Nat → Int64) (v : Int64) (dn : Nat) : wCells (vp_updL L 7 v) dn = wCells L dn := rfl
theorem beamI_7 (L : Nat → Int64) (v own cells : Int64) (dn : Nat) : ∀ n, beamI (vp_updL L 7 v) own cells dn n = beamI L own cells dn n
  | 0 => rfl
  | n + 1 => by
    unfold beamI
    rw [beamI_7 L v own cells dn n]
    rfl
theorem litF_7 (L : Nat → Int64) (v own : Int64) : ∀ n, litF (vp_updL L 7 v) own n = litF L own n
  | 0 => rfl
  | n + 1 => by unfold litF; rw [litF_7 L v own n, beamI_7]
theorem litFrom_7 (L : Nat → Int64) (v : Int64) (c : Nat) : litFrom (vp_updL L 7 v) c = litFrom L c := litF_7 L v _ 4
set_option maxRecDepth 10000 in
theorem c_walledCells (d : Nat) {a r ar dn : Nat} {L : Nat → Int64} {am : Nat → Int32} (hd : dn < 4) {h : gH} (H : HouseAt h a r ar L am) {mc ms : Nat} {Post : Option Value → gH → Prop} {X : String → gH → Prop} (hp : Post (some (.long (wCells L dn))) h) : gSafe (d + 1) mX1_walledCells [.ref a, .int (nI dn)] h mc ms Post X := by
  have H1 := H.1
  refine ⟨Nat.le_of_ble_eq_true rfl, fun K hK => ?_⟩
  show K 0 [some (.ref a), some (.int (nI dn))] [] _ _ _
  refine s_iload_n hK dX1_walledCells_0 rfl ?_
  match dn, hd with
  | 0, _ =>
    refine s_tswI hK dX1_walledCells_1 28 (by decide) (by rfl) (by decide) ?_
    refine s_aload_n hK dX1_walledCells_28 rfl ?_
    refine s_getfield hK dX1_walledCells_29 kF_X1_39 (by first | assumption | exact H.1 | exact H.2.1) (by rfl) ?_
    refine s_bipush hK (v := 9) dX1_walledCells_32 (by decide) ?_
    refine s_lshl hK dX1_walledCells_34 ?_
    refine s_lreturn hK dX1_walledCells_35 rfl ?_
    exact hp
  | 1, _ =>
    refine s_tswI hK dX1_walledCells_1 36 (by decide) (by rfl) (by decide) ?_
    refine s_aload_n hK dX1_walledCells_36 rfl ?_
    refine s_getfield hK dX1_walledCells_37 kF_X1_36 (by first | assumption | exact H.1 | exact H.2.1) (by rfl) ?_
    refine s_lreturn hK dX1_walledCells_40 rfl ?_
    exact hp
  | 2, _ =>
    refine s_tswI hK dX1_walledCells_1 41 (by decide) (by rfl) (by decide) ?_
    refine s_aload_n hK dX1_walledCells_41 rfl ?_
    refine s_getfield hK dX1_walledCells_42 kF_X1_39 (by first | assumption | exact H.1 | exact H.2.1) (by rfl) ?_
    refine s_lreturn hK dX1_walledCells_45 rfl ?_
    exact hp
  | 3, _ =>
    refine s_tswO hK dX1_walledCells_1 46 (by decide) (by decide) ?_
    refine s_aload_n hK dX1_walledCells_46 rfl ?_
    refine s_getfield hK dX1_walledCells_47 kF_X1_36 (by first | assumption | exact H.1 | exact H.2.1) (by rfl) ?_
    refine s_iconst hK (v := 1) dX1_walledCells_50 (by decide) ?_
    refine s_lshl hK dX1_walledCells_51 ?_
    refine s_lreturn hK dX1_walledCells_52 rfl ?_
    exact hp
set_option maxRecDepth 10000 in
theorem c_hasWall (d : Nat) {a r ar dn c : Nat} {L : Nat → Int64} {am : Nat → Int32} (hd : dn < 4) (hc : c < 63) {h : gH} (H : HouseAt h a r ar L am) {mc ms : Nat} {Post : Option Value → gH → Prop} {X : String → gH → Prop} (hp : Post (some (.int (b01 (lb (wCells L dn) c)))) h) : gSafe (d + 2) mX1_hasWall [.ref a, .int (nI c), .int (nI dn)] h mc ms Post X := by
  have H1 := H.1
  refine ⟨Nat.le_of_ble_eq_true rfl, fun K hK => ?_⟩
  show K 0 [some (.ref a), some (.int (nI c)), some (.int (nI dn))] [] _ _ _
  refine s_aload_n hK dX1_hasWall_0 rfl ?_
  refine s_iload_n hK dX1_hasWall_1 rfl ?_
  refine s_V10 hK dX1_hasWall_2 kV_X1_82 (by first | assumption | exact H.1 | exact H.2.1) (by rfl) ?_
  refine c_walledCells _ hd H ?_
  refine s_iload_n hK dX1_hasWall_5 rfl ?_
  refine s_S20 hK dX1_hasWall_6 kS_X1_63 (by rfl) ?_
  refine c_holds _ (by omega) ?_
  refine s_ireturn hK dX1_hasWall_9 rfl (b01_nar _) ?_
  exact hp
set_option maxRecDepth 10000 in
theorem c_neighbours (d : Nat) {a r ar : Nat} {L : Nat → Int64} {am : Nat → Int32} {x : Int64} {b : Bool} {h : gH} (H : HouseAt h a r ar L am) {mc ms : Nat} {Post : Option Value → gH → Prop} {X : String → gH → Prop} (hp : Post (some (.long (nbsI L x b 4))) h) : gSafe (d + 2) mX1_neighbours [.ref a, .long x, .int (b01 b)] h mc ms Post X := by
  have H1 := H.1
  refine ⟨Nat.le_of_ble_eq_true rfl, fun K hK => ?_⟩
  show K 0 [some (.ref a), some (.long x), none, some (.int (b01 b)), none, none, none, none, none] [] _ _ _
  refine s_lconst hK (v := 0) dX1_neighbours_0 (by decide) ?_
  refine s_lstore hK dX1_neighbours_1 rfl ?_
  refine s_iconst hK (v := 0) dX1_neighbours_3 (by decide) ?_
  refine s_istore hK dX1_neighbours_4 rfl ?_
  have loop : ∀ m i, i + m = 4 → ∀ (v7 : Option Value), K 6 [some (.ref a), some (.long x), none, some (.int (b01 b)), some (.long (nbsI L x b i)), none, some (.int (nI i)), v7, none] [] h mc ms := by
    intro m
    induction m with
    | zero =>
      intro i hi v7
      obtain rfl : i = 4 := by omega
      refine s_iload hK dX1_neighbours_6 rfl ?_
      refine s_iconst hK (v := 4) dX1_neighbours_8 (by decide) ?_
      refine s_icmpge hK dX1_neighbours_9 53 (by decide) (fun c_9 => ?_) (fun c_9 => ?_)
      · refine s_lload hK dX1_neighbours_53 rfl ?_
        refine s_lreturn hK dX1_neighbours_55 rfl ?_
        exact hp
      · exact absurd (Int32.le_refl (nI 4)) c_9
    | succ m ih =>
      intro i hi v7
      refine s_iload hK dX1_neighbours_6 rfl ?_
      refine s_iconst hK (v := 4) dX1_neighbours_8 (by decide) ?_
      refine s_icmpge hK dX1_neighbours_9 53 (by decide) (fun c_9 => ?_) (fun c_9 => ?_)
      · exact absurd c_9 (nI_ge (b := 4) (by omega) (by omega))
      · refine s_aload_n hK dX1_neighbours_12 rfl ?_
        refine s_iload hK dX1_neighbours_13 rfl ?_
        refine s_V10 hK dX1_neighbours_15 kV_X1_82 (by first | assumption | exact H.1 | exact H.2.1) (by rfl) ?_
        refine c_walledCells _ (by omega) H ?_
        refine s_lstore hK dX1_neighbours_18 rfl ?_
        refine s_lload hK dX1_neighbours_20 rfl ?_
        refine s_lload_n hK dX1_neighbours_22 rfl ?_
        refine s_iload_n hK dX1_neighbours_23 rfl ?_
        have go : K 38 [some (.ref a), some (.long x), none, some (.int (b01 b)), some (.long (nbsI L x b i)), none, some (.int (nI i)), some (.long (wCells L i)), none] [.long (nbMask L b i), .long x, .long (nbsI L x b i)] h mc ms := by
          refine s_land hK dX1_neighbours_38 ?_
          refine s_iload hK dX1_neighbours_39 rfl ?_
          refine s_S20 hK dX1_neighbours_41 kS_X1_85 (by rfl) ?_
          refine c_moved _ (by omega) ?_
          refine s_lor hK dX1_neighbours_44 ?_
          refine s_lstore hK dX1_neighbours_45 rfl ?_
          refine s_iinck hK (v := 1) dX1_neighbours_47 rfl (by decide) rfl ?_
          refine s_goto hK dX1_neighbours_50 6 (by decide) ?_
          rw [nI_1]
          exact ih (i + 1) (by omega) _
        cases b with
        | false =>
          refine s_ifeq hK dX1_neighbours_24 32 (by decide) (fun c_24 => ?_) (fun c_24 => ?_)
          · refine s_lload hK dX1_neighbours_32 rfl ?_
            refine s_ldc2_w hK dX1_neighbours_34 kC_X1_80 ?_
            refine s_lxor hK dX1_neighbours_37 ?_
            exact go
          · exact absurd rfl c_24
        | true =>
          refine s_ifeq hK dX1_neighbours_24 32 (by decide) (fun c_24 => ?_) (fun c_24 => ?_)
          · exact absurd c_24 (by decide)
          · refine s_lload hK dX1_neighbours_27 rfl ?_
            refine s_goto hK dX1_neighbours_29 38 (by decide) ?_
            exact go
  exact loop 4 0 (by omega) _
set_option maxRecDepth 10000 in
theorem c_turned (d : Nat) {a r ar dn : Nat} {L : Nat → Int64} {am : Nat → Int32} {x : Int64} (hd : dn < 4) {h : gH} (H : HouseAt h a r ar L am) {mc ms : Nat} {Post : Option Value → gH → Prop} {X : String → gH → Prop} (hp : Post (some (.int (nI (trn L x dn)))) h) : gSafe (d + 1) mX1_turned [.ref a, .long x, .int (nI dn)] h mc ms Post X := by
  have H1 := H.1
  refine ⟨Nat.le_of_ble_eq_true rfl, fun K hK => ?_⟩
  show K 0 [some (.ref a), some (.long x), none, some (.int (nI dn))] [] _ _ _
  unfold trn at hp
  refine s_lload_n hK dX1_turned_0 rfl ?_
  refine s_aload_n hK dX1_turned_1 rfl ?_
  refine s_getfield hK dX1_turned_2 kF_X1_27 (by first | assumption | exact H.1 | exact H.2.1) (by rfl) ?_
  refine s_land hK dX1_turned_5 ?_
  refine s_lconst hK (v := 0) dX1_turned_6 (by decide) ?_
  refine s_lcmp hK dX1_turned_7 ?_
  refine s_ifeq hK dX1_turned_8 15 (by decide) (fun c_8 => ?_) (fun c_8 => ?_)
  · have c1 := lg_cmp_0.mp c_8
    refine s_lload_n hK dX1_turned_15 rfl ?_
    refine s_aload_n hK dX1_turned_16 rfl ?_
    refine s_getfield hK dX1_turned_17 kF_X1_30 (by first | assumption | exact H.1 | exact H.2.1) (by rfl) ?_
    refine s_land hK dX1_turned_20 ?_
    refine s_lconst hK (v := 0) dX1_turned_21 (by decide) ?_
    refine s_lcmp hK dX1_turned_22 ?_
    refine s_ifeq hK dX1_turned_23 30 (by decide) (fun c_23 => ?_) (fun c_23 => ?_)
    · have c2 := lg_cmp_0.mp c_23
      refine s_iload_n hK dX1_turned_30 rfl ?_
      refine s_ireturn hK dX1_turned_31 rfl (by first | rfl | exact b01_nar _) ?_
      simpa [c1, c2] using hp
    · have c2 : ¬ x &&& L 3 = 0 := fun q => c_23 (lg_cmp_0.mpr q)
      refine s_iconst hK (v := 3) dX1_turned_26 (by decide) ?_
      refine s_iload_n hK dX1_turned_27 rfl ?_
      refine s_isub hK dX1_turned_28 ?_
      refine s_ireturn hK dX1_turned_29 rfl (by first | rfl | exact b01_nar _) ?_
      rw [nI_3sub ⟨dn, hd⟩]
      simpa [c1, c2] using hp
  · have c1 : ¬ x &&& L 2 = 0 := fun q => c_8 (lg_cmp_0.mpr q)
    refine s_iload_n hK dX1_turned_11 rfl ?_
    refine s_iconst hK (v := 1) dX1_turned_12 (by decide) ?_
    refine s_ixor hK dX1_turned_13 ?_
    refine s_ireturn hK dX1_turned_14 rfl (by first | rfl | exact b01_nar _) ?_
    rw [nI_xor1 ⟨dn, hd⟩]
    simpa [c1] using hp
set_option maxRecDepth 10000 in
theorem c_cellsLitFrom (d : Nat) {a r ar c : Nat} {L : Nat → Int64} {am : Nat → Int32} (hc : c < 63) {h : gH} (H : HouseAt h a r ar L am) {mc ms : Nat} {Post : Option Value → gH → Prop} {X : String → gH → Prop} (hp : Post (some (.long (litFrom L c))) h) : gSafe (d + 2) mX1_cellsLitFrom [.ref a, .int (nI c)] h mc ms Post X := by
  have H1 := H.1
  refine ⟨Nat.le_of_ble_eq_true rfl, fun K hK => ?_⟩
  show K 0 [some (.ref a), some (.int (nI c)), none, none, none, none, none, none, none, none, none] [] _ _ _
  refine s_iload_n hK dX1_cellsLitFrom_0 rfl ?_
  refine s_S10 hK dX1_cellsLitFrom_1 kS_X1_69 (by rfl) ?_
  refine c_only _ ?_
  refine s_lstore_n hK dX1_cellsLitFrom_4 rfl ?_
  refine s_lload_n hK dX1_cellsLitFrom_5 rfl ?_
  refine s_lstore hK dX1_cellsLitFrom_6 rfl ?_
  refine s_iconst hK (v := 0) dX1_cellsLitFrom_8 (by decide) ?_
  refine s_istore hK dX1_cellsLitFrom_9 rfl ?_
  have loop : ∀ m i, i + m = 4 → ∀ (v7 v9 v10 : Option Value), K 11 [some (.ref a), some (.int (nI c)), some (.long (bOnly c)), none, some (.long (litF L (bOnly c) i)), none, some (.int (nI i)), v7, none, v9, v10] [] h mc ms := by
    intro m
    induction m with
    | zero =>
      intro i hi v7 v9 v10
      obtain rfl : i = 4 := by omega
      refine s_iload hK dX1_cellsLitFrom_11 rfl ?_
      refine s_iconst hK (v := 4) dX1_cellsLitFrom_13 (by decide) ?_
      refine s_icmpge hK dX1_cellsLitFrom_14 89 (by decide) (fun c_14 => ?_) (fun c_14 => ?_)
      · refine s_lload hK dX1_cellsLitFrom_89 rfl ?_
        refine s_lreturn hK dX1_cellsLitFrom_91 rfl ?_
        exact hp
      · exact absurd (Int32.le_refl (nI 4)) c_14
    | succ m ih =>
      intro i hi v7 v9 v10
      refine s_iload hK dX1_cellsLitFrom_11 rfl ?_
      refine s_iconst hK (v := 4) dX1_cellsLitFrom_13 (by decide) ?_
      refine s_icmpge hK dX1_cellsLitFrom_14 89 (by decide) (fun c_14 => ?_) (fun c_14 => ?_)
      · exact absurd c_14 (nI_ge (b := 4) (by omega) (by omega))
      · refine s_lload_n hK dX1_cellsLitFrom_17 rfl ?_
        refine s_lstore hK dX1_cellsLitFrom_18 rfl ?_
        refine s_iload hK dX1_cellsLitFrom_20 rfl ?_
        refine s_istore hK dX1_cellsLitFrom_22 rfl ?_
        refine s_iconst hK (v := 0) dX1_cellsLitFrom_24 (by decide) ?_
        refine s_istore hK dX1_cellsLitFrom_25 rfl ?_
        have inner : ∀ n j, j + n = 6 → K 27 [some (.ref a), some (.int (nI c)), some (.long (bOnly c)), none, some (.long (beamI L (bOnly c) (litF L (bOnly c) i) i j).2.2), none, some (.int (nI i)), some (.long (beamI L (bOnly c) (litF L (bOnly c) i) i j).1), none, some (.int (nI (beamI L (bOnly c) (litF L (bOnly c) i) i j).2.1)), some (.int (nI j))] [] h mc ms := by
          intro n
          induction n with
          | zero =>
            intro j hj
            obtain rfl : j = 6 := by omega
            refine s_iload hK dX1_cellsLitFrom_27 rfl ?_
            refine s_bipush hK (v := 6) dX1_cellsLitFrom_29 (by decide) ?_
            refine s_icmpge hK dX1_cellsLitFrom_31 83 (by decide) (fun c_31 => ?_) (fun c_31 => ?_)
            · refine s_iinck hK (v := 1) dX1_cellsLitFrom_83 rfl (by decide) rfl ?_
              refine s_goto hK dX1_cellsLitFrom_86 11 (by decide) ?_
              rw [nI_1]
              exact ih (i + 1) (by omega) _ _ _
            · exact absurd (Int32.le_refl (nI 6)) c_31
          | succ n ihn =>
            intro j hj
            have hlt := beamI_lt (L := L) (own := bOnly c) (cells := litF L (bOnly c) i) (show i < 4 by omega) j
            refine s_iload hK dX1_cellsLitFrom_27 rfl ?_
            refine s_bipush hK (v := 6) dX1_cellsLitFrom_29 (by decide) ?_
            refine s_icmpge hK dX1_cellsLitFrom_31 83 (by decide) (fun c_31 => ?_) (fun c_31 => ?_)
            · exact absurd c_31 (nI_ge (b := 6) (by omega) (by omega))
            · refine s_lload hK dX1_cellsLitFrom_34 rfl ?_
              refine s_aload_n hK dX1_cellsLitFrom_36 rfl ?_
              refine s_iload hK dX1_cellsLitFrom_37 rfl ?_
              refine s_V10 hK dX1_cellsLitFrom_39 kV_X1_82 (by first | assumption | exact H.1 | exact H.2.1) (by rfl) ?_
              refine c_walledCells _ hlt H ?_
              refine s_ldc2_w hK dX1_cellsLitFrom_42 kC_X1_80 ?_
              refine s_lxor hK dX1_cellsLitFrom_45 ?_
              refine s_land hK dX1_cellsLitFrom_46 ?_
              refine s_iload hK dX1_cellsLitFrom_47 rfl ?_
              refine s_S20 hK dX1_cellsLitFrom_49 kS_X1_85 (by rfl) ?_
              refine c_moved _ hlt ?_
              refine s_lstore hK dX1_cellsLitFrom_52 rfl ?_
              refine s_lload hK dX1_cellsLitFrom_54 rfl ?_
              refine s_lload hK dX1_cellsLitFrom_56 rfl ?_
              refine s_lor hK dX1_cellsLitFrom_58 ?_
              refine s_lstore hK dX1_cellsLitFrom_59 rfl ?_
              refine s_aload_n hK dX1_cellsLitFrom_61 rfl ?_
              refine s_lload hK dX1_cellsLitFrom_62 rfl ?_
              refine s_lload_n hK dX1_cellsLitFrom_64 rfl ?_
              refine s_ldc2_w hK dX1_cellsLitFrom_65 kC_X1_80 ?_
              refine s_lxor hK dX1_cellsLitFrom_68 ?_
              refine s_land hK dX1_cellsLitFrom_69 ?_
              refine s_iload hK dX1_cellsLitFrom_70 rfl ?_
              refine s_V20 hK dX1_cellsLitFrom_72 kV_X1_89 (by first | assumption | exact H.1 | exact H.2.1) (by rfl) ?_
              refine c_turned _ hlt H ?_
              refine s_istore hK dX1_cellsLitFrom_75 rfl ?_
              refine s_iinck hK (v := 1) dX1_cellsLitFrom_77 rfl (by decide) rfl ?_
              refine s_goto hK dX1_cellsLitFrom_80 27 (by decide) ?_
              rw [nI_1]
              exact ihn (j + 1) (by omega)
        exact inner 6 0 (by omega)
  exact loop 4 0 (by omega) _ _ _
set_option maxRecDepth 10000 in
theorem c_relight (d : Nat) {a r ar : Nat} {L : Nat → Int64} {am : Nat → Int32} {h : gH} (H : HouseAt h a r ar L am) {mc ms : Nat} {Post : Option Value → gH → Prop} {X : String → gH → Prop} (hp : ∀ h', HouseAt h' a r ar (vp_updL L 7 (relit L)) am → gFr [a] h h' → Post none h') : gSafe (d + 3) mX1_relight [.ref a] h mc ms Post X := by
  have H1 := H.1
  refine ⟨Nat.le_of_ble_eq_true rfl, fun K hK => ?_⟩
  show K 0 [some (.ref a), none] [] _ _ _
  refine s_aload_n hK dX1_relight_0 rfl ?_
  refine s_lconst hK (v := 0) dX1_relight_1 (by decide) ?_
  refine s_putH hK dX1_relight_2 kF_X1_42 rfl H (fun h1 H1 F1 => ?_)
  refine s_iconst hK (v := 0) dX1_relight_5 (by decide) ?_
  refine s_istore_n hK dX1_relight_6 rfl ?_
  have e7 : ∀ (v : Int64), (∀ c, litFrom (vp_updL L 7 v) c = litFrom L c) ∧ (vp_updL L 7 v) 1 = L 1 := fun v => ⟨fun c => litFrom_7 L v c, rfl⟩
  have loop : ∀ m i, i + m = 63 → ∀ (h1 : gH), HouseAt h1 a r ar (vp_updL L 7 (relitN L i)) am → gFr [a] h h1 → K 7 [some (.ref a), some (.int (nI i))] [] h1 mc ms := by
    intro m
    induction m with
    | zero =>
      intro i hi h1 H1 F1
      obtain rfl : i = 63 := by omega
      refine s_iload_n hK dX1_relight_7 rfl ?_
      refine s_bipush hK (v := 63) dX1_relight_8 (by decide) ?_
      refine s_icmpge hK dX1_relight_10 44 (by decide) (fun c_10 => ?_) (fun c_10 => ?_)
      · refine s_return hK dX1_relight_44 rfl ?_
        exact hp h1 H1 F1
      · exact absurd (Int32.le_refl (nI 63)) c_10
    | succ m ih =>
      intro i hi h1 H1 F1
      have H11 := H1.1
      refine s_iload_n hK dX1_relight_7 rfl ?_
      refine s_bipush hK (v := 63) dX1_relight_8 (by decide) ?_
      refine s_icmpge hK dX1_relight_10 44 (by decide) (fun c_10 => ?_) (fun c_10 => ?_)
      · exact absurd c_10 (nI_ge (b := 63) (by omega) (by omega))
      · refine s_aload_n hK dX1_relight_13 rfl ?_
        refine s_getfield hK dX1_relight_14 kF_X1_24 (by first | assumption | exact H.1 | exact H.2.1) (by rfl) ?_
        refine s_iload_n hK dX1_relight_17 rfl ?_
        refine s_S20 hK dX1_relight_18 kS_X1_63 (by rfl) ?_
        refine c_holds _ (by omega) ?_
        cases e : lb (L 1) i with
        | false =>
          have e' : lb ((vp_updL L 7 (relitN L i)) 1) i = false := e
          rw [e']
          refine s_ifeq hK dX1_relight_21 38 (by decide) (fun c_21 => ?_) (fun c_21 => ?_)
          · refine s_iinck hK (v := 1) dX1_relight_38 rfl (by decide) rfl ?_
            refine s_goto hK dX1_relight_41 7 (by decide) ?_
            rw [nI_1]
            refine ih (i + 1) (by omega) h1 ?_ F1
            have : relitN L (i + 1) = relitN L i := by simp [relitN, e]
            rw [this]; exact H1
          · exact absurd rfl c_21
        | true =>
          have e' : lb ((vp_updL L 7 (relitN L i)) 1) i = true := e
          rw [e']
          refine s_ifeq hK dX1_relight_21 38 (by decide) (fun c_21 => ?_) (fun c_21 => ?_)
          · exact absurd c_21 (by decide)
          · refine s_aload_n hK dX1_relight_24 rfl ?_
            refine s_dup hK dX1_relight_25 rfl ?_
            refine s_getfield hK dX1_relight_26 kF_X1_42 (by first | assumption | exact H.1 | exact H.2.1) (by rfl) ?_
            refine s_aload_n hK dX1_relight_29 rfl ?_
            refine s_iload_n hK dX1_relight_30 rfl ?_
            refine s_V10 hK dX1_relight_31 kV_X1_93 (by first | assumption | exact H.1 | exact H.2.1) (by rfl) ?_
            refine c_cellsLitFrom _ (by omega) H1 ?_
            refine s_lor hK dX1_relight_34 ?_
            refine s_putH hK dX1_relight_35 kF_X1_42 rfl H1 (fun h2 H2 F2 => ?_)
            refine s_iinck hK (v := 1) dX1_relight_38 rfl (by decide) rfl ?_
            refine s_goto hK dX1_relight_41 7 (by decide) ?_
            rw [nI_1]
            refine ih (i + 1) (by omega) h2 ?_ (F1.tr F2)
            have : relitN L (i + 1) = relitN L i ||| litFrom (vp_updL L 7 (relitN L i)) i := by simp [relitN, e, (e7 (relitN L i)).1]
            rw [this, ← vp_updL_2 L 7 (relitN L i)]; exact H2
  exact loop 63 0 (by omega) h1 H1 F1
