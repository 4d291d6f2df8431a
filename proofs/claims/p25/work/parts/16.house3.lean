/-! House: what is done to it -/
def reL (L : Nat → Int64) : Nat → Int64 := vp_updL L 7 (relit L)
def oCandle (L : Nat → Int64) (c : Nat) : Nat → Int64 := vp_updL (vp_updL L 0 (L 0 ||| bOnly c)) 1 (L 1 ||| bOnly c)
def oMirror (L : Nat → Int64) (c : Nat) (b : Bool) : Nat → Int64 := if b then vp_updL L 2 (L 2 ||| bOnly c) else vp_updL L 3 (L 3 ||| bOnly c)
def oTally (L : Nat → Int64) (c : Nat) : Nat → Int64 := vp_updL L 4 (L 4 ||| bOnly c)
def oClear (L : Nat → Int64) (c : Nat) : Nat → Int64 := vp_updL (vp_updL (vp_updL (vp_updL (vp_updL L 0 (L 0 &&& (bOnly c ^^^ (-1)))) 1 (L 1 &&& (bOnly c ^^^ (-1)))) 2 (L 2 &&& (bOnly c ^^^ (-1)))) 3 (L 3 &&& (bOnly c ^^^ (-1)))) 4 (L 4 &&& (bOnly c ^^^ (-1)))
def oSwitch (L : Nat → Int64) (c : Nat) : Nat → Int64 := vp_updL L 1 (L 1 ^^^ bOnly c)
def oWall (L : Nat → Int64) (c dn : Nat) : Nat → Int64 := match dn with
  | 0 => vp_updL L 6 (L 6 ^^^ bMv (bOnly c) 0)
  | 1 => vp_updL L 5 (L 5 ^^^ bOnly c)
  | 2 => vp_updL L 6 (L 6 ^^^ bOnly c)
  | _ => vp_updL L 5 (L 5 ^^^ bMv (bOnly c) 3)
def oBlow (L : Nat → Int64) (c : Nat) : Nat → Int64 := vp_updL L 1 (L 1 &&& ((nbsI L (bOnly c) false 4 ||| nbsI L (bOnly c) true 4) ^^^ (-1)))
def bdN (L : Nat → Int64) (am : Nat → Int32) : Nat → (Nat → Int64) × (Nat → Int32)
  | 0 => (L, am)
  | n + 1 => let p := bdN L am n
    if lb (p.1 1) n then (if p.2 n - 1 ≤ 0 then vp_updL p.1 1 (p.1 1 &&& (bOnly n ^^^ (-1))) else p.1, upd p.2 n (p.2 n - 1)) else p
def mkNext (m : Int32) : Int32 :=
  let b := if 99 < m + 1 then 0 else m + 1
  if b - b / 13 * 13 = 0 then (b - b / 10 * 10) * 10 + b / 10 else b
set_option maxRecDepth 10000 in
theorem c_addTally (d : Nat) {a r ar c : Nat} {L : Nat → Int64} {am : Nat → Int32} (hc : c < 63) {h : gH} (H : HouseAt h a r ar L am) {mc ms : Nat} {Post : Option Value → gH → Prop} {X : String → gH → Prop} (hp : ∀ h', HouseAt h' a r ar (oTally L c) am → gFr [a, ar] h h' → Post none h') : gSafe (d + 2) mX1_addTally [.ref a, .int (nI c)] h mc ms Post X := by
  have F : gFr [a, ar] h h := gFr_rf _ _
  refine ⟨Nat.le_of_ble_eq_true rfl, fun K hK => ?_⟩
  show K 0 [some (.ref a), some (.int (nI c))] [] _ _ _
  refine s_aload_n hK dX1_addTally_0 rfl ?_
  refine s_dup hK dX1_addTally_1 rfl ?_
  refine s_getfield hK dX1_addTally_2 kF_X1_33 (by first | assumption | exact H.1 | exact H.2.1) (by rfl) ?_
  refine s_iload_n hK dX1_addTally_5 rfl ?_
  refine s_S10 hK dX1_addTally_6 kS_X1_69 (by rfl) ?_
  refine c_only _ ?_
  refine s_lor hK dX1_addTally_9 ?_
  refine s_putH hK dX1_addTally_10 kF_X1_33 rfl H (fun h9 H9 F9 => ?_)
  have F := F.tr F9.to
  have H := H9
  clear H9 F9
  refine s_return hK dX1_addTally_13 rfl ?_
  exact hp _ H F
set_option maxRecDepth 10000 in
theorem c_addCandle (d : Nat) {a r ar c : Nat} {L : Nat → Int64} {am : Nat → Int32} (hc : c < 63) {x : Int32} {h : gH} (H : HouseAt h a r ar L am) {mc ms : Nat} {Post : Option Value → gH → Prop} {X : String → gH → Prop} (hp : ∀ h', HouseAt h' a r ar (reL (oCandle L c)) (upd am c x) → gFr [a, ar] h h' → Post none h') : gSafe (d + 4) mX1_addCandle [.ref a, .int (nI c), .int x] h mc ms Post X := by
  have F : gFr [a, ar] h h := gFr_rf _ _
  refine ⟨Nat.le_of_ble_eq_true rfl, fun K hK => ?_⟩
  show K 0 [some (.ref a), some (.int (nI c)), some (.int x)] [] _ _ _
  refine s_aload_n hK dX1_addCandle_0 rfl ?_
  refine s_dup hK dX1_addCandle_1 rfl ?_
  refine s_getfield hK dX1_addCandle_2 kF_X1_20 (by first | assumption | exact H.1 | exact H.2.1) (by rfl) ?_
  refine s_iload_n hK dX1_addCandle_5 rfl ?_
  refine s_S10 hK dX1_addCandle_6 kS_X1_69 (by rfl) ?_
  refine c_only _ ?_
  refine s_lor hK dX1_addCandle_9 ?_
  refine s_putH hK dX1_addCandle_10 kF_X1_20 rfl H (fun h9 H9 F9 => ?_)
  have F := F.tr F9.to
  have H := H9
  clear H9 F9
  refine s_aload_n hK dX1_addCandle_13 rfl ?_
  refine s_dup hK dX1_addCandle_14 rfl ?_
  refine s_getfield hK dX1_addCandle_15 kF_X1_24 (by first | assumption | exact H.1 | exact H.2.1) (by rfl) ?_
  refine s_iload_n hK dX1_addCandle_18 rfl ?_
  refine s_S10 hK dX1_addCandle_19 kS_X1_69 (by rfl) ?_
  refine c_only _ ?_
  refine s_lor hK dX1_addCandle_22 ?_
  refine s_putH hK dX1_addCandle_23 kF_X1_24 rfl H (fun h9 H9 F9 => ?_)
  have F := F.tr F9.to
  have H := H9
  clear H9 F9
  refine s_aload_n hK dX1_addCandle_26 rfl ?_
  refine s_getfield hK dX1_addCandle_27 kF_X1_14 (by first | assumption | exact H.1 | exact H.2.1) (by rfl) ?_
  refine s_iload_n hK dX1_addCandle_30 rfl ?_
  refine s_iload_n hK dX1_addCandle_31 rfl ?_
  refine s_V20 hK dX1_addCandle_32 kV_X1_73 (by first | assumption | exact H.1 | exact H.2.1) (by rfl) ?_
  refine c_put _ hc (by omega) H.2 (fun h9 R9 F9 => ?_)
  have H : HouseAt h9 a r ar _ _ := ⟨(F9 a (by simp [H.ne.2.1])).trans H.1, R9⟩
  have F := F.tr F9.to
  clear R9 F9
  refine s_aload_n hK dX1_addCandle_35 rfl ?_
  refine s_V00 hK dX1_addCandle_36 kV_X1_77 (by first | assumption | exact H.1 | exact H.2.1) (by rfl) ?_
  refine c_relight _ H (fun h9 H9 F9 => ?_)
  refine s_return hK dX1_addCandle_39 rfl ?_
  exact hp _ H9 (F.tr F9.to)
set_option maxRecDepth 10000 in
theorem c_addMirror (d : Nat) {a r ar c : Nat} {L : Nat → Int64} {am : Nat → Int32} (hc : c < 63) {b : Bool} {h : gH} (H : HouseAt h a r ar L am) {mc ms : Nat} {Post : Option Value → gH → Prop} {X : String → gH → Prop} (hp : ∀ h', HouseAt h' a r ar (reL (oMirror L c b)) am → gFr [a, ar] h h' → Post none h') : gSafe (d + 4) mX1_addMirror [.ref a, .int (nI c), .int (b01 b)] h mc ms Post X := by
  have F : gFr [a, ar] h h := gFr_rf _ _
  refine ⟨Nat.le_of_ble_eq_true rfl, fun K hK => ?_⟩
  show K 0 [some (.ref a), some (.int (nI c)), some (.int (b01 b))] [] _ _ _
  refine s_iload_n hK dX1_addMirror_0 rfl ?_
  cases b with
  | false =>
    refine s_ifeq hK dX1_addMirror_1 20 (by decide) (fun c_1 => ?_) (fun c_1 => ?_)
    · refine s_aload_n hK dX1_addMirror_20 rfl ?_
      refine s_dup hK dX1_addMirror_21 rfl ?_
      refine s_getfield hK dX1_addMirror_22 kF_X1_30 (by first | assumption | exact H.1 | exact H.2.1) (by rfl) ?_
      refine s_iload_n hK dX1_addMirror_25 rfl ?_
      refine s_S10 hK dX1_addMirror_26 kS_X1_69 (by rfl) ?_
      refine c_only _ ?_
      refine s_lor hK dX1_addMirror_29 ?_
      refine s_putH hK dX1_addMirror_30 kF_X1_30 rfl H (fun h9 H9 F9 => ?_)
      have F := F.tr F9.to
      have H := H9
      clear H9 F9
      refine s_aload_n hK dX1_addMirror_33 rfl ?_
      refine s_V00 hK dX1_addMirror_34 kV_X1_77 (by first | assumption | exact H.1 | exact H.2.1) (by rfl) ?_
      refine c_relight _ H (fun h9 H9 F9 => ?_)
      refine s_return hK dX1_addMirror_37 rfl ?_
      exact hp _ H9 (F.tr F9.to)
    · exact absurd rfl c_1
  | true =>
    refine s_ifeq hK dX1_addMirror_1 20 (by decide) (fun c_1 => ?_) (fun c_1 => ?_)
    · exact absurd c_1 (by decide)
    · refine s_aload_n hK dX1_addMirror_4 rfl ?_
      refine s_dup hK dX1_addMirror_5 rfl ?_
      refine s_getfield hK dX1_addMirror_6 kF_X1_27 (by first | assumption | exact H.1 | exact H.2.1) (by rfl) ?_
      refine s_iload_n hK dX1_addMirror_9 rfl ?_
      refine s_S10 hK dX1_addMirror_10 kS_X1_69 (by rfl) ?_
      refine c_only _ ?_
      refine s_lor hK dX1_addMirror_13 ?_
      refine s_putH hK dX1_addMirror_14 kF_X1_27 rfl H (fun h9 H9 F9 => ?_)
      have F := F.tr F9.to
      have H := H9
      clear H9 F9
      refine s_goto hK dX1_addMirror_17 33 (by decide) ?_
      refine s_aload_n hK dX1_addMirror_33 rfl ?_
      refine s_V00 hK dX1_addMirror_34 kV_X1_77 (by first | assumption | exact H.1 | exact H.2.1) (by rfl) ?_
      refine c_relight _ H (fun h9 H9 F9 => ?_)
      refine s_return hK dX1_addMirror_37 rfl ?_
      exact hp _ H9 (F.tr F9.to)
set_option maxRecDepth 10000 in
theorem c_clear (d : Nat) {a r ar c : Nat} {L : Nat → Int64} {am : Nat → Int32} (hc : c < 63) {h : gH} (H : HouseAt h a r ar L am) {mc ms : Nat} {Post : Option Value → gH → Prop} {X : String → gH → Prop} (hp : ∀ h', HouseAt h' a r ar (reL (oClear L c)) (upd am c 0) → gFr [a, ar] h h' → Post none h') : gSafe (d + 4) mX1_clear [.ref a, .int (nI c)] h mc ms Post X := by
  have F : gFr [a, ar] h h := gFr_rf _ _
  refine ⟨Nat.le_of_ble_eq_true rfl, fun K hK => ?_⟩
  show K 0 [some (.ref a), some (.int (nI c)), none, none] [] _ _ _
  refine s_iload_n hK dX1_clear_0 rfl ?_
  refine s_S10 hK dX1_clear_1 kS_X1_69 (by rfl) ?_
  refine c_only _ ?_
  refine s_ldc2_w hK dX1_clear_4 kC_X1_80 ?_
  refine s_lxor hK dX1_clear_7 ?_
  refine s_lstore_n hK dX1_clear_8 rfl ?_
  refine s_aload_n hK dX1_clear_9 rfl ?_
  refine s_dup hK dX1_clear_10 rfl ?_
  refine s_getfield hK dX1_clear_11 kF_X1_20 (by first | assumption | exact H.1 | exact H.2.1) (by rfl) ?_
  refine s_lload_n hK dX1_clear_14 rfl ?_
  refine s_land hK dX1_clear_15 ?_
  refine s_putH hK dX1_clear_16 kF_X1_20 rfl H (fun h9 H9 F9 => ?_)
  have F := F.tr F9.to
  have H := H9
  clear H9 F9
  refine s_aload_n hK dX1_clear_19 rfl ?_
  refine s_dup hK dX1_clear_20 rfl ?_
  refine s_getfield hK dX1_clear_21 kF_X1_24 (by first | assumption | exact H.1 | exact H.2.1) (by rfl) ?_
  refine s_lload_n hK dX1_clear_24 rfl ?_
  refine s_land hK dX1_clear_25 ?_
  refine s_putH hK dX1_clear_26 kF_X1_24 rfl H (fun h9 H9 F9 => ?_)
  have F := F.tr F9.to
  have H := H9
  clear H9 F9
  refine s_aload_n hK dX1_clear_29 rfl ?_
  refine s_dup hK dX1_clear_30 rfl ?_
  refine s_getfield hK dX1_clear_31 kF_X1_27 (by first | assumption | exact H.1 | exact H.2.1) (by rfl) ?_
  refine s_lload_n hK dX1_clear_34 rfl ?_
  refine s_land hK dX1_clear_35 ?_
  refine s_putH hK dX1_clear_36 kF_X1_27 rfl H (fun h9 H9 F9 => ?_)
  have F := F.tr F9.to
  have H := H9
  clear H9 F9
  refine s_aload_n hK dX1_clear_39 rfl ?_
  refine s_dup hK dX1_clear_40 rfl ?_
  refine s_getfield hK dX1_clear_41 kF_X1_30 (by first | assumption | exact H.1 | exact H.2.1) (by rfl) ?_
  refine s_lload_n hK dX1_clear_44 rfl ?_
  refine s_land hK dX1_clear_45 ?_
  refine s_putH hK dX1_clear_46 kF_X1_30 rfl H (fun h9 H9 F9 => ?_)
  have F := F.tr F9.to
  have H := H9
  clear H9 F9
  refine s_aload_n hK dX1_clear_49 rfl ?_
  refine s_dup hK dX1_clear_50 rfl ?_
  refine s_getfield hK dX1_clear_51 kF_X1_33 (by first | assumption | exact H.1 | exact H.2.1) (by rfl) ?_
  refine s_lload_n hK dX1_clear_54 rfl ?_
  refine s_land hK dX1_clear_55 ?_
  refine s_putH hK dX1_clear_56 kF_X1_33 rfl H (fun h9 H9 F9 => ?_)
  have F := F.tr F9.to
  have H := H9
  clear H9 F9
  refine s_aload_n hK dX1_clear_59 rfl ?_
  refine s_getfield hK dX1_clear_60 kF_X1_14 (by first | assumption | exact H.1 | exact H.2.1) (by rfl) ?_
  refine s_iload_n hK dX1_clear_63 rfl ?_
  refine s_iconst hK (v := 0) dX1_clear_64 (by decide) ?_
  refine s_V20 hK dX1_clear_65 kV_X1_73 (by first | assumption | exact H.1 | exact H.2.1) (by rfl) ?_
  refine c_put _ hc (by omega) H.2 (fun h9 R9 F9 => ?_)
  have H : HouseAt h9 a r ar _ _ := ⟨(F9 a (by simp [H.ne.2.1])).trans H.1, R9⟩
  have F := F.tr F9.to
  clear R9 F9
  refine s_aload_n hK dX1_clear_68 rfl ?_
  refine s_V00 hK dX1_clear_69 kV_X1_77 (by first | assumption | exact H.1 | exact H.2.1) (by rfl) ?_
  refine c_relight _ H (fun h9 H9 F9 => ?_)
  refine s_return hK dX1_clear_72 rfl ?_
  exact hp _ H9 (F.tr F9.to)
set_option maxRecDepth 10000 in
theorem c_switchCandle (d : Nat) {a r ar c : Nat} {L : Nat → Int64} {am : Nat → Int32} (hc : c < 63) {h : gH} (H : HouseAt h a r ar L am) {mc ms : Nat} {Post : Option Value → gH → Prop} {X : String → gH → Prop} (hp : ∀ h', HouseAt h' a r ar (reL (oSwitch L c)) am → gFr [a, ar] h h' → Post none h') : gSafe (d + 4) mX1_switchCandle [.ref a, .int (nI c)] h mc ms Post X := by
  have F : gFr [a, ar] h h := gFr_rf _ _
  refine ⟨Nat.le_of_ble_eq_true rfl, fun K hK => ?_⟩
  show K 0 [some (.ref a), some (.int (nI c))] [] _ _ _
  refine s_aload_n hK dX1_switchCandle_0 rfl ?_
  refine s_dup hK dX1_switchCandle_1 rfl ?_
  refine s_getfield hK dX1_switchCandle_2 kF_X1_24 (by first | assumption | exact H.1 | exact H.2.1) (by rfl) ?_
  refine s_iload_n hK dX1_switchCandle_5 rfl ?_
  refine s_S10 hK dX1_switchCandle_6 kS_X1_69 (by rfl) ?_
  refine c_only _ ?_
  refine s_lxor hK dX1_switchCandle_9 ?_
  refine s_putH hK dX1_switchCandle_10 kF_X1_24 rfl H (fun h9 H9 F9 => ?_)
  have F := F.tr F9.to
  have H := H9
  clear H9 F9
  refine s_aload_n hK dX1_switchCandle_13 rfl ?_
  refine s_V00 hK dX1_switchCandle_14 kV_X1_77 (by first | assumption | exact H.1 | exact H.2.1) (by rfl) ?_
  refine c_relight _ H (fun h9 H9 F9 => ?_)
  refine s_return hK dX1_switchCandle_17 rfl ?_
  exact hp _ H9 (F.tr F9.to)
set_option maxRecDepth 10000 in
theorem c_switchWall (d : Nat) {a r ar c : Nat} {L : Nat → Int64} {am : Nat → Int32} (hc : c < 63) {dn : Nat} (hd : dn < 4) {h : gH} (H : HouseAt h a r ar L am) {mc ms : Nat} {Post : Option Value → gH → Prop} {X : String → gH → Prop} (hp : ∀ h', HouseAt h' a r ar (reL (oWall L c dn)) am → gFr [a, ar] h h' → Post none h') : gSafe (d + 4) mX1_switchWall [.ref a, .int (nI c), .int (nI dn)] h mc ms Post X := by
  have F : gFr [a, ar] h h := gFr_rf _ _
  refine ⟨Nat.le_of_ble_eq_true rfl, fun K hK => ?_⟩
  show K 0 [some (.ref a), some (.int (nI c)), some (.int (nI dn)), none, none, none, none] [] _ _ _
  refine s_iload_n hK dX1_switchWall_0 rfl ?_
  refine s_S10 hK dX1_switchWall_1 kS_X1_69 (by rfl) ?_
  refine c_only _ ?_
  refine s_lstore_n hK dX1_switchWall_4 rfl ?_
  refine s_lload_n hK dX1_switchWall_5 rfl ?_
  refine s_iload_n hK dX1_switchWall_6 rfl ?_
  refine s_S20 hK dX1_switchWall_7 kS_X1_85 (by rfl) ?_
  refine c_moved _ hd ?_
  refine s_lstore hK dX1_switchWall_10 rfl ?_
  refine s_iload_n hK dX1_switchWall_12 rfl ?_
  match dn, hd with
  | 0, _ =>
    refine s_tswI hK dX1_switchWall_13 40 (by decide) (by rfl) (by decide) ?_
    refine s_aload_n hK dX1_switchWall_40 rfl ?_
    refine s_dup hK dX1_switchWall_41 rfl ?_
    refine s_getfield hK dX1_switchWall_42 kF_X1_39 (by first | assumption | exact H.1 | exact H.2.1) (by rfl) ?_
    refine s_lload hK dX1_switchWall_45 rfl ?_
    refine s_lxor hK dX1_switchWall_47 ?_
    refine s_putH hK dX1_switchWall_48 kF_X1_39 rfl H (fun h9 H9 F9 => ?_)
    have F := F.tr F9.to
    have H := H9
    clear H9 F9
    refine s_goto hK dX1_switchWall_51 91 (by decide) ?_
    refine s_aload_n hK dX1_switchWall_91 rfl ?_
    refine s_V00 hK dX1_switchWall_92 kV_X1_77 (by first | assumption | exact H.1 | exact H.2.1) (by rfl) ?_
    refine c_relight _ H (fun h9 H9 F9 => ?_)
    refine s_return hK dX1_switchWall_95 rfl ?_
    exact hp _ H9 (F.tr F9.to)
  | 1, _ =>
    refine s_tswI hK dX1_switchWall_13 54 (by decide) (by rfl) (by decide) ?_
    refine s_aload_n hK dX1_switchWall_54 rfl ?_
    refine s_dup hK dX1_switchWall_55 rfl ?_
    refine s_getfield hK dX1_switchWall_56 kF_X1_36 (by first | assumption | exact H.1 | exact H.2.1) (by rfl) ?_
    refine s_lload_n hK dX1_switchWall_59 rfl ?_
    refine s_lxor hK dX1_switchWall_60 ?_
    refine s_putH hK dX1_switchWall_61 kF_X1_36 rfl H (fun h9 H9 F9 => ?_)
    have F := F.tr F9.to
    have H := H9
    clear H9 F9
    refine s_goto hK dX1_switchWall_64 91 (by decide) ?_
    refine s_aload_n hK dX1_switchWall_91 rfl ?_
    refine s_V00 hK dX1_switchWall_92 kV_X1_77 (by first | assumption | exact H.1 | exact H.2.1) (by rfl) ?_
    refine c_relight _ H (fun h9 H9 F9 => ?_)
    refine s_return hK dX1_switchWall_95 rfl ?_
    exact hp _ H9 (F.tr F9.to)
  | 2, _ =>
    refine s_tswI hK dX1_switchWall_13 67 (by decide) (by rfl) (by decide) ?_
    refine s_aload_n hK dX1_switchWall_67 rfl ?_
    refine s_dup hK dX1_switchWall_68 rfl ?_
    refine s_getfield hK dX1_switchWall_69 kF_X1_39 (by first | assumption | exact H.1 | exact H.2.1) (by rfl) ?_
    refine s_lload_n hK dX1_switchWall_72 rfl ?_
    refine s_lxor hK dX1_switchWall_73 ?_
    refine s_putH hK dX1_switchWall_74 kF_X1_39 rfl H (fun h9 H9 F9 => ?_)
    have F := F.tr F9.to
    have H := H9
    clear H9 F9
    refine s_goto hK dX1_switchWall_77 91 (by decide) ?_
    refine s_aload_n hK dX1_switchWall_91 rfl ?_
    refine s_V00 hK dX1_switchWall_92 kV_X1_77 (by first | assumption | exact H.1 | exact H.2.1) (by rfl) ?_
    refine c_relight _ H (fun h9 H9 F9 => ?_)
    refine s_return hK dX1_switchWall_95 rfl ?_
    exact hp _ H9 (F.tr F9.to)
  | 3, _ =>
    refine s_tswO hK dX1_switchWall_13 80 (by decide) (by decide) ?_
    refine s_aload_n hK dX1_switchWall_80 rfl ?_
    refine s_dup hK dX1_switchWall_81 rfl ?_
    refine s_getfield hK dX1_switchWall_82 kF_X1_36 (by first | assumption | exact H.1 | exact H.2.1) (by rfl) ?_
    refine s_lload hK dX1_switchWall_85 rfl ?_
    refine s_lxor hK dX1_switchWall_87 ?_
    refine s_putH hK dX1_switchWall_88 kF_X1_36 rfl H (fun h9 H9 F9 => ?_)
    have F := F.tr F9.to
    have H := H9
    clear H9 F9
    refine s_aload_n hK dX1_switchWall_91 rfl ?_
    refine s_V00 hK dX1_switchWall_92 kV_X1_77 (by first | assumption | exact H.1 | exact H.2.1) (by rfl) ?_
    refine c_relight _ H (fun h9 H9 F9 => ?_)
    refine s_return hK dX1_switchWall_95 rfl ?_
    exact hp _ H9 (F.tr F9.to)
set_option maxRecDepth 10000 in
theorem c_blowOutAround (d : Nat) {a r ar c : Nat} {L : Nat → Int64} {am : Nat → Int32} (hc : c < 63) {h : gH} (H : HouseAt h a r ar L am) {mc ms : Nat} {Post : Option Value → gH → Prop} {X : String → gH → Prop} (hp : ∀ h', HouseAt h' a r ar (reL (oBlow L c)) am → gFr [a, ar] h h' → Post none h') : gSafe (d + 4) mX1_blowOutAround [.ref a, .int (nI c)] h mc ms Post X := by
  have F : gFr [a, ar] h h := gFr_rf _ _
  refine ⟨Nat.le_of_ble_eq_true rfl, fun K hK => ?_⟩
  show K 0 [some (.ref a), some (.int (nI c)), none, none] [] _ _ _
  refine s_iload_n hK dX1_blowOutAround_0 rfl ?_
  refine s_S10 hK dX1_blowOutAround_1 kS_X1_69 (by rfl) ?_
  refine c_only _ ?_
  refine s_lstore_n hK dX1_blowOutAround_4 rfl ?_
  refine s_aload_n hK dX1_blowOutAround_5 rfl ?_
  refine s_dup hK dX1_blowOutAround_6 rfl ?_
  refine s_getfield hK dX1_blowOutAround_7 kF_X1_24 (by first | assumption | exact H.1 | exact H.2.1) (by rfl) ?_
  refine s_aload_n hK dX1_blowOutAround_10 rfl ?_
  refine s_lload_n hK dX1_blowOutAround_11 rfl ?_
  refine s_iconst hK (v := 0) dX1_blowOutAround_12 (by decide) ?_
  refine s_V20 hK dX1_blowOutAround_13 kV_X1_99 (by first | assumption | exact H.1 | exact H.2.1) (by rfl) ?_
  refine c_neighbours (b := false) _ H ?_
  refine s_aload_n hK dX1_blowOutAround_16 rfl ?_
  refine s_lload_n hK dX1_blowOutAround_17 rfl ?_
  refine s_iconst hK (v := 1) dX1_blowOutAround_18 (by decide) ?_
  refine s_V20 hK dX1_blowOutAround_19 kV_X1_99 (by first | assumption | exact H.1 | exact H.2.1) (by rfl) ?_
  refine c_neighbours (b := true) _ H ?_
  refine s_lor hK dX1_blowOutAround_22 ?_
  refine s_ldc2_w hK dX1_blowOutAround_23 kC_X1_80 ?_
  refine s_lxor hK dX1_blowOutAround_26 ?_
  refine s_land hK dX1_blowOutAround_27 ?_
  refine s_putH hK dX1_blowOutAround_28 kF_X1_24 rfl H (fun h9 H9 F9 => ?_)
  have F := F.tr F9.to
  have H := H9
  clear H9 F9
  refine s_aload_n hK dX1_blowOutAround_31 rfl ?_
  refine s_V00 hK dX1_blowOutAround_32 kV_X1_77 (by first | assumption | exact H.1 | exact H.2.1) (by rfl) ?_
  refine c_relight _ H (fun h9 H9 F9 => ?_)
  refine s_return hK dX1_blowOutAround_35 rfl ?_
  exact hp _ H9 (F.tr F9.to)
set_option maxRecDepth 10000 in
theorem c_addMark (d : Nat) {a r ar c : Nat} {L : Nat → Int64} {am : Nat → Int32} (hc : c < 63) {h : gH} (H : HouseAt h a r ar L am) {mc ms : Nat} {Post : Option Value → gH → Prop} {X : String → gH → Prop} (hp : ∀ h', HouseAt h' a r ar L (upd am c (mkNext (am c))) → gFr [a, ar] h h' → Post none h') : gSafe (d + 2) mX1_addMark [.ref a, .int (nI c)] h mc ms Post X := by
  have F : gFr [a, ar] h h := gFr_rf _ _
  refine ⟨Nat.le_of_ble_eq_true rfl, fun K hK => ?_⟩
  show K 0 [some (.ref a), some (.int (nI c)), none] [] _ _ _
  refine s_aload_n hK dX1_addMark_0 rfl ?_
  refine s_getfield hK dX1_addMark_1 kF_X1_14 (by first | assumption | exact H.1 | exact H.2.1) (by rfl) ?_
  refine s_iload_n hK dX1_addMark_4 rfl ?_
  refine s_V10 hK dX1_addMark_5 kV_X1_59 (by first | assumption | exact H.1 | exact H.2.1) (by rfl) ?_
  refine c_get _ hc (by omega) H.2 ?_
  refine s_iconst hK (v := 1) dX1_addMark_8 (by decide) ?_
  refine s_iadd hK dX1_addMark_9 ?_
  refine s_istore_n hK dX1_addMark_10 rfl ?_
  have fin : ∀ v : Int32, v = mkNext (am c) → K 39 [some (.ref a), some (.int (nI c)), some (.int v)] [] h mc ms := by
    intro v hv
    refine s_aload_n hK dX1_addMark_39 rfl ?_
    refine s_getfield hK dX1_addMark_40 kF_X1_14 (by first | assumption | exact H.1 | exact H.2.1) (by rfl) ?_
    refine s_iload_n hK dX1_addMark_43 rfl ?_
    refine s_iload_n hK dX1_addMark_44 rfl ?_
    refine s_V20 hK dX1_addMark_45 kV_X1_73 (by first | assumption | exact H.1 | exact H.2.1) (by rfl) ?_
    refine c_put _ hc (by omega) H.2 (fun h9 R9 F9 => ?_)
    have H : HouseAt h9 a r ar _ _ := ⟨(F9 a (by simp [H.ne.2.1])).trans H.1, R9⟩
    refine s_return hK dX1_addMark_48 rfl ?_
    rw [← hv] at hp
    exact hp _ H F9.to
  have mid : ∀ b : Int32, b = (if 99 < am c + 1 then 0 else am c + 1) → K 19 [some (.ref a), some (.int (nI c)), some (.int b)] [] h mc ms := by
    intro b hb
    refine s_iload_n hK dX1_addMark_19 rfl ?_
    refine s_bipush hK (v := 13) dX1_addMark_20 (by decide) ?_
    refine s_irem hK dX1_addMark_22 (by decide) ?_
    refine s_ifne hK dX1_addMark_23 39 (by decide) (fun c_23 => ?_) (fun c_23 => ?_)
    · refine fin _ ?_
      unfold mkNext
      simp only [← hb]
      rw [if_neg c_23]
    · refine s_iload_n hK dX1_addMark_26 rfl ?_
      refine s_bipush hK (v := 10) dX1_addMark_27 (by decide) ?_
      refine s_irem hK dX1_addMark_29 (by decide) ?_
      refine s_bipush hK (v := 10) dX1_addMark_30 (by decide) ?_
      refine s_imul hK dX1_addMark_32 ?_
      refine s_iload_n hK dX1_addMark_33 rfl ?_
      refine s_bipush hK (v := 10) dX1_addMark_34 (by decide) ?_
      refine s_idiv hK dX1_addMark_36 (by decide) ?_
      refine s_iadd hK dX1_addMark_37 ?_
      refine s_istore_n hK dX1_addMark_38 rfl ?_
      refine fin _ ?_
      unfold mkNext
      simp only [← hb]
      rw [if_pos c_23]
  refine s_iload_n hK dX1_addMark_11 rfl ?_
  refine s_bipush hK (v := 99) dX1_addMark_12 (by decide) ?_
  refine s_icmple hK dX1_addMark_14 19 (by decide) (fun c_14 => ?_) (fun c_14 => ?_)
  · refine mid _ ?_
    rw [if_neg (Int32.not_lt.mpr c_14)]
  · refine s_iconst hK (v := 0) dX1_addMark_17 (by decide) ?_
    refine s_istore_n hK dX1_addMark_18 rfl ?_
    refine mid _ ?_
    rw [if_pos (Int32.not_le.mp c_14)]
set_option maxRecDepth 10000 in
theorem c_burnDown (d : Nat) {a r ar : Nat} {L : Nat → Int64} {am : Nat → Int32}  {h : gH} (H : HouseAt h a r ar L am) {mc ms : Nat} {Post : Option Value → gH → Prop} {X : String → gH → Prop} (hp : ∀ h', HouseAt h' a r ar (reL (bdN L am 63).1) (bdN L am 63).2 → gFr [a, ar] h h' → Post none h') : gSafe (d + 4) mX1_burnDown [.ref a] h mc ms Post X := by
  have F : gFr [a, ar] h h := gFr_rf _ _
  refine ⟨Nat.le_of_ble_eq_true rfl, fun K hK => ?_⟩
  show K 0 [some (.ref a), none, none] [] _ _ _
  refine s_iconst hK (v := 0) dX1_burnDown_0 (by decide) ?_
  refine s_istore_n hK dX1_burnDown_1 rfl ?_
  have loop : ∀ m i, i + m = 63 → ∀ (v2 : Option Value) (h1 : gH), HouseAt h1 a r ar (bdN L am i).1 (bdN L am i).2 → gFr [a, ar] h h1 → K 2 [some (.ref a), some (.int (nI i)), v2] [] h1 mc ms := by
    intro m
    induction m with
    | zero =>
      intro i hi v2 h1 H F
      obtain rfl : i = 63 := by omega
      refine s_iload_n hK dX1_burnDown_2 rfl ?_
      refine s_bipush hK (v := 63) dX1_burnDown_3 (by decide) ?_
      refine s_icmpge hK dX1_burnDown_5 63 (by decide) (fun c_5 => ?_) (fun c_5 => ?_)
      · refine s_aload_n hK dX1_burnDown_63 rfl ?_
        refine s_V00 hK dX1_burnDown_64 kV_X1_77 (by first | assumption | exact H.1 | exact H.2.1) (by rfl) ?_
        refine c_relight _ H (fun h9 H9 F9 => ?_)
        refine s_return hK dX1_burnDown_67 rfl ?_
        exact hp _ H9 (F.tr F9.to)
      · exact absurd (Int32.le_refl (nI 63)) c_5
    | succ m ih =>
      intro i hi v2 h1 H F
      refine s_iload_n hK dX1_burnDown_2 rfl ?_
      refine s_bipush hK (v := 63) dX1_burnDown_3 (by decide) ?_
      refine s_icmpge hK dX1_burnDown_5 63 (by decide) (fun c_5 => ?_) (fun c_5 => ?_)
      · exact absurd c_5 (nI_ge (b := 63) (by omega) (by omega))
      · refine s_aload_n hK dX1_burnDown_8 rfl ?_
        refine s_iload_n hK dX1_burnDown_9 rfl ?_
        refine s_V10 hK dX1_burnDown_10 kV_X1_96 (by first | assumption | exact H.1 | exact H.2.1) (by rfl) ?_
        refine c_isBurning _ (by omega) H ?_
        cases e : lb ((bdN L am i).1 1) i with
        | false =>
          have hs : bdN L am (i + 1) = bdN L am i := by simp [bdN, e]
          refine s_ifeq hK dX1_burnDown_13 57 (by decide) (fun c_13 => ?_) (fun c_13 => ?_)
          · refine s_iinck hK (v := 1) dX1_burnDown_57 rfl (by decide) rfl ?_
            refine s_goto hK dX1_burnDown_60 2 (by decide) ?_
            rw [nI_1]
            exact ih (i + 1) (by omega) _ h1 (by rw [hs]; exact H) F
          · exact absurd rfl c_13
        | true =>
          have hs : bdN L am (i + 1) = (if (bdN L am i).2 i - 1 ≤ 0 then vp_updL (bdN L am i).1 1 ((bdN L am i).1 1 &&& (bOnly i ^^^ (-1))) else (bdN L am i).1, upd (bdN L am i).2 i ((bdN L am i).2 i - 1)) := by simp [bdN, e]
          refine s_ifeq hK dX1_burnDown_13 57 (by decide) (fun c_13 => ?_) (fun c_13 => ?_)
          · exact absurd c_13 (by decide)
          · refine s_aload_n hK dX1_burnDown_16 rfl ?_
            refine s_getfield hK dX1_burnDown_17 kF_X1_14 (by first | assumption | exact H.1 | exact H.2.1) (by rfl) ?_
            refine s_iload_n hK dX1_burnDown_20 rfl ?_
            refine s_V10 hK dX1_burnDown_21 kV_X1_59 (by first | assumption | exact H.1 | exact H.2.1) (by rfl) ?_
            refine c_get _ (by omega) (by omega) H.2 ?_
            refine s_iconst hK (v := 1) dX1_burnDown_24 (by decide) ?_
            refine s_isub hK dX1_burnDown_25 ?_
            refine s_istore_n hK dX1_burnDown_26 rfl ?_
            refine s_aload_n hK dX1_burnDown_27 rfl ?_
            refine s_getfield hK dX1_burnDown_28 kF_X1_14 (by first | assumption | exact H.1 | exact H.2.1) (by rfl) ?_
            refine s_iload_n hK dX1_burnDown_31 rfl ?_
            refine s_iload_n hK dX1_burnDown_32 rfl ?_
            refine s_V20 hK dX1_burnDown_33 kV_X1_73 (by first | assumption | exact H.1 | exact H.2.1) (by rfl) ?_
            refine c_put _ (by omega) (by omega) H.2 (fun h9 R9 F9 => ?_)
            have H : HouseAt h9 a r ar _ _ := ⟨(F9 a (by simp [H.ne.2.1])).trans H.1, R9⟩
            have F := F.tr F9.to
            clear R9 F9
            refine s_iload_n hK dX1_burnDown_36 rfl ?_
            refine s_ifgt hK dX1_burnDown_37 57 (by decide) (fun c_37 => ?_) (fun c_37 => ?_)
            · refine s_iinck hK (v := 1) dX1_burnDown_57 rfl (by decide) rfl ?_
              refine s_goto hK dX1_burnDown_60 2 (by decide) ?_
              rw [nI_1]
              refine ih (i + 1) (by omega) _ h9 ?_ F
              rw [hs, if_neg (Int32.not_le.mpr c_37)]
              exact H
            · refine s_aload_n hK dX1_burnDown_40 rfl ?_
              refine s_dup hK dX1_burnDown_41 rfl ?_
              refine s_getfield hK dX1_burnDown_42 kF_X1_24 (by first | assumption | exact H.1 | exact H.2.1) (by rfl) ?_
              refine s_iload_n hK dX1_burnDown_45 rfl ?_
              refine s_S10 hK dX1_burnDown_46 kS_X1_69 (by rfl) ?_
              refine c_only _ ?_
              refine s_ldc2_w hK dX1_burnDown_49 kC_X1_80 ?_
              refine s_lxor hK dX1_burnDown_52 ?_
              refine s_land hK dX1_burnDown_53 ?_
              refine s_putH hK dX1_burnDown_54 kF_X1_24 rfl H (fun h9 H9 F9 => ?_)
              have F := F.tr F9.to
              have H := H9
              clear H9 F9
              refine s_iinck hK (v := 1) dX1_burnDown_57 rfl (by decide) rfl ?_
              refine s_goto hK dX1_burnDown_60 2 (by decide) ?_
              rw [nI_1]
              refine ih (i + 1) (by omega) _ h9 ?_ F
              rw [hs, if_pos (Int32.not_lt.mp c_37)]
              exact H
  exact loop 63 0 (by omega) _ h H F
set_option maxRecDepth 10000 in
theorem c_houseCopy (d : Nat) {a r ar a2 r2 ar2 : Nat} {L L2 : Nat → Int64} {am am2 : Nat → Int32} {h : gH} (H : HouseAt h a r ar L am) (G : HouseAt h a2 r2 ar2 L2 am2) (hna : a ≠ a2) (hnr : ar ≠ ar2) {mc ms : Nat} {Post : Option Value → gH → Prop} {X : String → gH → Prop} (hp : ∀ h' L', (∀ k, k < 8 → L' k = L2 k) → HouseAt h' a r ar L' am2 → gFr [a, ar] h h' → Post none h') : gSafe (d + 3) mX1_copyFrom [.ref a, .ref a2] h mc ms Post X := by
  have F : gFr [a, ar] h h := gFr_rf _ _
  have q1 : a2 ∉ [a, ar] := by
    have : a2 ≠ ar := by
      obtain ⟨-, -, f', h2, -⟩ := H
      intro e
      have := G.1
      rw [e, h2] at this
      cases this
    simp [hna.symm, this]
  have q2 : r2 ∉ [a, ar] := by
    have e1 : r2 ≠ ar := by
      obtain ⟨-, -, f', h2, -⟩ := H
      intro e
      have := G.2.1
      rw [e, h2] at this
      cases this
    have e2 : r2 ≠ a := by
      intro e
      have := G.2.1
      rw [e, H.1] at this
      cases this
    simp [e1, e2]
  have q3 : ar2 ∉ [a, ar] := by
    have e2 : ar2 ≠ a := by
      obtain ⟨-, -, f', h2, -⟩ := G
      intro e
      rw [e, H.1] at h2
      cases h2
    simp [hnr.symm, e2]
  have G1 := G.1
  have F0 := F
  refine ⟨Nat.le_of_ble_eq_true rfl, fun K hK => ?_⟩
  show K 0 [some (.ref a), some (.ref a2)] [] _ _ _
  refine s_aload_n hK dX1_copyFrom_0 rfl ?_
  refine s_aload_n hK dX1_copyFrom_1 rfl ?_
  refine s_getfield hK dX1_copyFrom_2 kF_X1_20 (by first | assumption | exact H.1 | exact H.2.1) (by rfl) ?_
  refine s_putH hK dX1_copyFrom_5 kF_X1_20 rfl H (fun h9 H9 F9 => ?_)
  have F := F.tr F9.to
  have H := H9
  clear H9 F9
  have G := G.keep (F a2 q1 |>.trans (F0 a2 q1).symm) (F r2 q2 |>.trans (F0 r2 q2).symm) (F ar2 q3 |>.trans (F0 ar2 q3).symm)
  have F0 := F
  have G1 := G.1
  refine s_aload_n hK dX1_copyFrom_8 rfl ?_
  refine s_aload_n hK dX1_copyFrom_9 rfl ?_
  refine s_getfield hK dX1_copyFrom_10 kF_X1_24 (by first | assumption | exact H.1 | exact H.2.1) (by rfl) ?_
  refine s_putH hK dX1_copyFrom_13 kF_X1_24 rfl H (fun h9 H9 F9 => ?_)
  have F := F.tr F9.to
  have H := H9
  clear H9 F9
  have G := G.keep (F a2 q1 |>.trans (F0 a2 q1).symm) (F r2 q2 |>.trans (F0 r2 q2).symm) (F ar2 q3 |>.trans (F0 ar2 q3).symm)
  have F0 := F
  have G1 := G.1
  refine s_aload_n hK dX1_copyFrom_16 rfl ?_
  refine s_aload_n hK dX1_copyFrom_17 rfl ?_
  refine s_getfield hK dX1_copyFrom_18 kF_X1_27 (by first | assumption | exact H.1 | exact H.2.1) (by rfl) ?_
  refine s_putH hK dX1_copyFrom_21 kF_X1_27 rfl H (fun h9 H9 F9 => ?_)
  have F := F.tr F9.to
  have H := H9
  clear H9 F9
  have G := G.keep (F a2 q1 |>.trans (F0 a2 q1).symm) (F r2 q2 |>.trans (F0 r2 q2).symm) (F ar2 q3 |>.trans (F0 ar2 q3).symm)
  have F0 := F
  have G1 := G.1
  refine s_aload_n hK dX1_copyFrom_24 rfl ?_
  refine s_aload_n hK dX1_copyFrom_25 rfl ?_
  refine s_getfield hK dX1_copyFrom_26 kF_X1_30 (by first | assumption | exact H.1 | exact H.2.1) (by rfl) ?_
  refine s_putH hK dX1_copyFrom_29 kF_X1_30 rfl H (fun h9 H9 F9 => ?_)
  have F := F.tr F9.to
  have H := H9
  clear H9 F9
  have G := G.keep (F a2 q1 |>.trans (F0 a2 q1).symm) (F r2 q2 |>.trans (F0 r2 q2).symm) (F ar2 q3 |>.trans (F0 ar2 q3).symm)
  have F0 := F
  have G1 := G.1
  refine s_aload_n hK dX1_copyFrom_32 rfl ?_
  refine s_aload_n hK dX1_copyFrom_33 rfl ?_
  refine s_getfield hK dX1_copyFrom_34 kF_X1_33 (by first | assumption | exact H.1 | exact H.2.1) (by rfl) ?_
  refine s_putH hK dX1_copyFrom_37 kF_X1_33 rfl H (fun h9 H9 F9 => ?_)
  have F := F.tr F9.to
  have H := H9
  clear H9 F9
  have G := G.keep (F a2 q1 |>.trans (F0 a2 q1).symm) (F r2 q2 |>.trans (F0 r2 q2).symm) (F ar2 q3 |>.trans (F0 ar2 q3).symm)
  have F0 := F
  have G1 := G.1
  refine s_aload_n hK dX1_copyFrom_40 rfl ?_
  refine s_aload_n hK dX1_copyFrom_41 rfl ?_
  refine s_getfield hK dX1_copyFrom_42 kF_X1_36 (by first | assumption | exact H.1 | exact H.2.1) (by rfl) ?_
  refine s_putH hK dX1_copyFrom_45 kF_X1_36 rfl H (fun h9 H9 F9 => ?_)
  have F := F.tr F9.to
  have H := H9
  clear H9 F9
  have G := G.keep (F a2 q1 |>.trans (F0 a2 q1).symm) (F r2 q2 |>.trans (F0 r2 q2).symm) (F ar2 q3 |>.trans (F0 ar2 q3).symm)
  have F0 := F
  have G1 := G.1
  refine s_aload_n hK dX1_copyFrom_48 rfl ?_
  refine s_aload_n hK dX1_copyFrom_49 rfl ?_
  refine s_getfield hK dX1_copyFrom_50 kF_X1_39 (by first | assumption | exact H.1 | exact H.2.1) (by rfl) ?_
  refine s_putH hK dX1_copyFrom_53 kF_X1_39 rfl H (fun h9 H9 F9 => ?_)
  have F := F.tr F9.to
  have H := H9
  clear H9 F9
  have G := G.keep (F a2 q1 |>.trans (F0 a2 q1).symm) (F r2 q2 |>.trans (F0 r2 q2).symm) (F ar2 q3 |>.trans (F0 ar2 q3).symm)
  have F0 := F
  have G1 := G.1
  refine s_aload_n hK dX1_copyFrom_56 rfl ?_
  refine s_aload_n hK dX1_copyFrom_57 rfl ?_
  refine s_getfield hK dX1_copyFrom_58 kF_X1_42 (by first | assumption | exact H.1 | exact H.2.1) (by rfl) ?_
  refine s_putH hK dX1_copyFrom_61 kF_X1_42 rfl H (fun h9 H9 F9 => ?_)
  have F := F.tr F9.to
  have H := H9
  clear H9 F9
  have G := G.keep (F a2 q1 |>.trans (F0 a2 q1).symm) (F r2 q2 |>.trans (F0 r2 q2).symm) (F ar2 q3 |>.trans (F0 ar2 q3).symm)
  have F0 := F
  have G1 := G.1
  refine s_aload_n hK dX1_copyFrom_64 rfl ?_
  refine s_getfield hK dX1_copyFrom_65 kF_X1_14 (by first | assumption | exact H.1 | exact H.2.1) (by rfl) ?_
  refine s_aload_n hK dX1_copyFrom_68 rfl ?_
  refine s_getfield hK dX1_copyFrom_69 kF_X1_14 (by first | assumption | exact H.1 | exact H.2.1) (by rfl) ?_
  refine s_V10 hK dX1_copyFrom_72 kV_X1_45 (by first | assumption | exact H.1 | exact H.2.1) (by rfl) ?_
  refine c_rowCopy _ (by omega) H.2 G.2 hnr (fun h9 R9 F9 => ?_)
  have H : HouseAt h9 a r ar _ _ := ⟨(F9 a (by simp [H.ne.2.1])).trans H.1, R9⟩
  have F := F.tr F9.to
  refine s_return hK dX1_copyFrom_75 rfl ?_
  refine hp _ _ (fun k hk => ?_) H F
  match k, hk with
  | 0, _ => rfl
  | 1, _ => rfl
  | 2, _ => rfl
  | 3, _ => rfl
  | 4, _ => rfl
  | 5, _ => rfl
  | 6, _ => rfl
  | 7, _ => rfl
