/-! a new model -/
theorem gB_X6 : gBegin TX6 12 [.int 0, .null, .null, .null, .null, .null, .int 0, .null, .null, .null, .null, .null] := ⟨rfl, fun j hj => by
  match j, hj with
  | 0, _ => exact ⟨.int, by decide +kernel, rfl⟩
  | 1, _ => exact ⟨.array .boolean, by decide +kernel, rfl⟩
  | 2, _ => exact ⟨.array .boolean, by decide +kernel, rfl⟩
  | 3, _ => exact ⟨.array .int, by decide +kernel, rfl⟩
  | 4, _ => exact ⟨.array .int, by decide +kernel, rfl⟩
  | 5, _ => exact ⟨.array .int, by decide +kernel, rfl⟩
  | 6, _ => exact ⟨.int, by decide +kernel, rfl⟩
  | 7, _ => exact ⟨.array .int, by decide +kernel, rfl⟩
  | 8, _ => exact ⟨.array .int, by decide +kernel, rfl⟩
  | 9, _ => exact ⟨.array .boolean, by decide +kernel, rfl⟩
  | 10, _ => exact ⟨.array .int, by decide +kernel, rfl⟩
  | 11, _ => exact ⟨.array .int, by decide +kernel, rfl⟩
  | j + 12, q => exact absurd q (by omega)⟩
def rfI (m : Nat → Nat) (i k : Nat) : Value := if k ≤ i then .ref (m k) else .null
def mFi (m : Nat → Nat) (i : Nat) : List Value := [.int 0, rfI m i 1, rfI m i 2, rfI m i 3, rfI m i 4, rfI m i 5, .int 0, rfI m i 6, rfI m i 7, rfI m i 8, rfI m i 9, rfI m i 10]
def mU (m : Nat → Nat) (i q : Nat) : Nat → Nat := fun k => if k = i then q else m k
/-- i of its rows are made -/
def PI (h : gH) (a : Nat) (h1 : gH) (m : Nat → Nat) (i : Nat) : Prop := m 0 = a ∧ h1 a = some (.inr (5, mFi m i)) ∧ (∀ k, 1 ≤ k → k ≤ i → h1 (m k) = some (.inl (mT k, mLen k, .inl (fun _ => 0))) ∧ h (m k) = none) ∧ (∀ j k, j ≤ i → k ≤ i → m j = m k → j = k) ∧ gNw [a] h h1
theorem mi_step {h h1 : gH} {a i q : Nat} {m : Nat → Nat} (P : PI h a h1 m i) (Q : h1 q = none) {fs : List Value} (ef : fs = mFi (mU m (i + 1) q) (i + 1)) : PI h a (gU (gU h1 q (.inl (mT (i + 1), mLen (i + 1), .inl (fun _ => 0)))) a (.inr (5, fs))) (mU m (i + 1) q) (i + 1) := by
  obtain ⟨p0, p1, p2, p3, p4⟩ := P
  have qa : a ≠ q := fun z => by rw [z, Q] at p1; cases p1
  have mo : ∀ k, k ≤ i → mU m (i + 1) q k = m k := fun k hk => if_neg (by omega)
  have mn : mU m (i + 1) q (i + 1) = q := if_pos rfl
  have old : ∀ k, k ≤ i → m k ≠ q := fun k hk z => by
    by_cases e : k = 0
    · rw [e, p0] at z
      exact qa z
    · have := (p2 k (by omega) hk).1
      rw [z, Q] at this
      cases this
  have hq : h q = none := p4.none Q (by simpa using qa.symm)
  refine ⟨(mo 0 (by omega)).trans p0, by rw [gU_eq, ef], fun k k1 k2 => ?_, fun j k hj hk e => ?_, gNw.set (gNw.al p4 Q _) (by simp) _⟩
  · by_cases e : k = i + 1
    · rw [e, mn]
      exact ⟨by rw [gU_ne qa.symm, gU_eq], hq⟩
    · have k3 : k ≤ i := by omega
      rw [mo k k3]
      have ka : m k ≠ a := fun z => by
        have := p3 k 0 k3 (by omega) (z.trans p0.symm)
        omega
      exact ⟨by rw [gU_ne ka, gU_ne (old k k3)]; exact (p2 k k1 k3).1, (p2 k k1 k3).2⟩
  · by_cases ej : j = i + 1
    · by_cases ek : k = i + 1
      · rw [ej, ek]
      · rw [ej, mn, mo k (by omega)] at e
        exact absurd e.symm (old k (by omega))
    · by_cases ek : k = i + 1
      · rw [ek, mn, mo j (by omega)] at e
        exact absurd e (old j (by omega))
      · rw [mo j (by omega), mo k (by omega)] at e
        exact p3 j k (by omega) (by omega) e
theorem PI_end {h h1 : gH} {a : Nat} {m : Nat → Nat} (P : PI h a h1 m 10) : MdlAt h1 m 0 S0 (fun _ => false) (fun _ => 0) (fun _ => 0) := by
  obtain ⟨p0, p1, p2, p3, p4⟩ := P
  refine ⟨by rw [p0]; exact p1, fun k k1 k2 => ⟨_, (p2 k k1 (by omega)).1, fun j hj => ?_⟩, fun i j hi hj e => p3 i j (by omega) (by omega) e⟩
  show (0 : Int32) = mC S0 (fun _ => false) (fun _ => 0) (fun _ => 0) k j
  rcases (show k = 1 ∨ k = 2 ∨ k = 3 ∨ k = 4 ∨ k = 5 ∨ k = 6 ∨ k = 7 ∨ k = 8 ∨ k = 9 ∨ k = 10 by omega) with rfl | rfl | rfl | rfl | rfl | rfl | rfl | rfl | rfl | rfl
  · show (0 : Int32) = b01 (lb 0 j)
    rw [lb_0]
    rfl
  · show (0 : Int32) = b01 (lb 0 j)
    rw [lb_0]
    rfl
  · show (0 : Int32) = nI (thg (fun _ => 0) j)
    unfold thg
    simp only [lb_0]
    rfl
  · rfl
  · show (0 : Int32) = b01 (lb 0 j)
    rw [lb_0]
    rfl
  · rfl
  · show (0 : Int32) = if j = 0 then nI 0 else nI 0
    split <;> rfl
  · rfl
  · rfl
  · rfl
set_option maxRecDepth 10000 in
theorem c_mdlInit (d : Nat) {a : Nat} {h : gH} (h0 : h a = some (.inr (5, [.int 0, .null, .null, .null, .null, .null, .int 0, .null, .null, .null, .null, .null]))) {mc ms : Nat} (hmc : 10 ≤ mc) (hms : 668 ≤ ms) {Post : Option Value → gH → Prop} {X : String → gH → Prop} (hp : ∀ h' m, m 0 = a → MdlAt h' m 0 S0 (fun _ => false) (fun _ => 0) (fun _ => 0) → (∀ i, 0 < i → i < 11 → h (m i) = none) → gNw [a] h h' → Post none h') : gSafe (d + 1) mX6_init [.ref a] h mc ms Post X := by
  have P : PI h a h (fun _ => a) 0 := ⟨rfl, h0, fun k k1 k2 => by omega, fun j k hj hk _ => by omega, gNw.rf _ _⟩
  refine ⟨Nat.le_of_ble_eq_true rfl, fun K hK => ?_⟩
  show K 0 [some (.ref a)] [] _ _ _
  refine s_aload_n hK dX6_init_0 rfl ?_
  refine s_objinit hK dX6_init_1 kO_X6_1 (by omega) (by rfl) ?_
  refine s_aload_n hK dX6_init_4 rfl ?_
  refine s_bipush hK (v := 63) dX6_init_5 (by decide) ?_
  refine s_newarray hK (N := 63) dX6_init_7 rfl (by first | decide | exact nI_pos (by omega)) (by first | rfl | exact nI_clamp (by omega)) (by omega) (by omega) (by omega) (fun q1 Q1 => ?_)
  have A1 : gU h q1 (.inl (1, 63, .inl (fun _ => 0))) a = some (.inr (5, mFi (fun _ => a) 0)) := (gU_ne (fun z => by have r := P.2.1; rw [z, Q1] at r; cases r)).trans P.2.1
  refine s_putfinal hK dX6_init_9 kF_X6_9 rfl rfl (by assumption) (by rfl) (by rfl) (by rfl) ?_
  have P := mi_step (fs := (mFi (fun _ => a) 0).set 1 (.ref q1)) P Q1 rfl
  have P : PI h a (gU (gU h q1 (.inl (1, 63, .inl (fun _ => 0)))) a (.inr (5, (mFi (fun _ => a) 0).set 1 (.ref q1)))) (mU (fun _ => a) 1 q1) 1 := P
  generalize gU (gU h q1 (.inl (1, 63, .inl (fun _ => 0)))) a (.inr (5, (mFi (fun _ => a) 0).set 1 (.ref q1))) = h1 at P
  generalize mU (fun _ => a) 1 q1 = m1 at P
  clear A1 Q1
  refine s_aload_n hK dX6_init_12 rfl ?_
  refine s_bipush hK (v := 63) dX6_init_13 (by decide) ?_
  refine s_newarray hK (N := 63) dX6_init_15 rfl (by first | decide | exact nI_pos (by omega)) (by first | rfl | exact nI_clamp (by omega)) (by omega) (by omega) (by omega) (fun q2 Q2 => ?_)
  have A2 : gU h1 q2 (.inl (1, 63, .inl (fun _ => 0))) a = some (.inr (5, mFi m1 1)) := (gU_ne (fun z => by have r := P.2.1; rw [z, Q2] at r; cases r)).trans P.2.1
  refine s_putfinal hK dX6_init_17 kF_X6_13 rfl rfl (by assumption) (by rfl) (by rfl) (by rfl) ?_
  have P := mi_step (fs := (mFi m1 1).set 2 (.ref q2)) P Q2 rfl
  have P : PI h a (gU (gU h1 q2 (.inl (1, 63, .inl (fun _ => 0)))) a (.inr (5, (mFi m1 1).set 2 (.ref q2)))) (mU m1 2 q2) 2 := P
  generalize gU (gU h1 q2 (.inl (1, 63, .inl (fun _ => 0)))) a (.inr (5, (mFi m1 1).set 2 (.ref q2))) = h2 at P
  generalize mU m1 2 q2 = m2 at P
  clear A2 Q2
  refine s_aload_n hK dX6_init_20 rfl ?_
  refine s_bipush hK (v := 63) dX6_init_21 (by decide) ?_
  refine s_newarray hK (N := 63) dX6_init_23 rfl (by first | decide | exact nI_pos (by omega)) (by first | rfl | exact nI_clamp (by omega)) (by omega) (by omega) (by omega) (fun q3 Q3 => ?_)
  have A3 : gU h2 q3 (.inl (0, 63, .inl (fun _ => 0))) a = some (.inr (5, mFi m2 2)) := (gU_ne (fun z => by have r := P.2.1; rw [z, Q3] at r; cases r)).trans P.2.1
  refine s_putfinal hK dX6_init_25 kF_X6_16 rfl rfl (by assumption) (by rfl) (by rfl) (by rfl) ?_
  have P := mi_step (fs := (mFi m2 2).set 3 (.ref q3)) P Q3 rfl
  have P : PI h a (gU (gU h2 q3 (.inl (0, 63, .inl (fun _ => 0)))) a (.inr (5, (mFi m2 2).set 3 (.ref q3)))) (mU m2 3 q3) 3 := P
  generalize gU (gU h2 q3 (.inl (0, 63, .inl (fun _ => 0)))) a (.inr (5, (mFi m2 2).set 3 (.ref q3))) = h3 at P
  generalize mU m2 3 q3 = m3 at P
  clear A3 Q3
  refine s_aload_n hK dX6_init_28 rfl ?_
  refine s_bipush hK (v := 63) dX6_init_29 (by decide) ?_
  refine s_newarray hK (N := 63) dX6_init_31 rfl (by first | decide | exact nI_pos (by omega)) (by first | rfl | exact nI_clamp (by omega)) (by omega) (by omega) (by omega) (fun q4 Q4 => ?_)
  have A4 : gU h3 q4 (.inl (0, 63, .inl (fun _ => 0))) a = some (.inr (5, mFi m3 3)) := (gU_ne (fun z => by have r := P.2.1; rw [z, Q4] at r; cases r)).trans P.2.1
  refine s_putfinal hK dX6_init_33 kF_X6_20 rfl rfl (by assumption) (by rfl) (by rfl) (by rfl) ?_
  have P := mi_step (fs := (mFi m3 3).set 4 (.ref q4)) P Q4 rfl
  have P : PI h a (gU (gU h3 q4 (.inl (0, 63, .inl (fun _ => 0)))) a (.inr (5, (mFi m3 3).set 4 (.ref q4)))) (mU m3 4 q4) 4 := P
  generalize gU (gU h3 q4 (.inl (0, 63, .inl (fun _ => 0)))) a (.inr (5, (mFi m3 3).set 4 (.ref q4))) = h4 at P
  generalize mU m3 4 q4 = m4 at P
  clear A4 Q4
  refine s_aload_n hK dX6_init_36 rfl ?_
  refine s_bipush hK (v := 63) dX6_init_37 (by decide) ?_
  refine s_newarray hK (N := 63) dX6_init_39 rfl (by first | decide | exact nI_pos (by omega)) (by first | rfl | exact nI_clamp (by omega)) (by omega) (by omega) (by omega) (fun q5 Q5 => ?_)
  have A5 : gU h4 q5 (.inl (0, 63, .inl (fun _ => 0))) a = some (.inr (5, mFi m4 4)) := (gU_ne (fun z => by have r := P.2.1; rw [z, Q5] at r; cases r)).trans P.2.1
  refine s_putfinal hK dX6_init_41 kF_X6_23 rfl rfl (by assumption) (by rfl) (by rfl) (by rfl) ?_
  have P := mi_step (fs := (mFi m4 4).set 5 (.ref q5)) P Q5 rfl
  have P : PI h a (gU (gU h4 q5 (.inl (0, 63, .inl (fun _ => 0)))) a (.inr (5, (mFi m4 4).set 5 (.ref q5)))) (mU m4 5 q5) 5 := P
  generalize gU (gU h4 q5 (.inl (0, 63, .inl (fun _ => 0)))) a (.inr (5, (mFi m4 4).set 5 (.ref q5))) = h5 at P
  generalize mU m4 5 q5 = m5 at P
  clear A5 Q5
  refine s_aload_n hK dX6_init_44 rfl ?_
  refine s_bipush hK (v := 36) dX6_init_45 (by decide) ?_
  refine s_newarray hK (N := 36) dX6_init_47 rfl (by first | decide | exact nI_pos (by omega)) (by first | rfl | exact nI_clamp (by omega)) (by omega) (by omega) (by omega) (fun q6 Q6 => ?_)
  have A6 : gU h5 q6 (.inl (0, 36, .inl (fun _ => 0))) a = some (.inr (5, mFi m5 5)) := (gU_ne (fun z => by have r := P.2.1; rw [z, Q6] at r; cases r)).trans P.2.1
  refine s_putfinal hK dX6_init_49 kF_X6_26 rfl rfl (by assumption) (by rfl) (by rfl) (by rfl) ?_
  have P := mi_step (fs := (mFi m5 5).set 7 (.ref q6)) P Q6 rfl
  have P : PI h a (gU (gU h5 q6 (.inl (0, 36, .inl (fun _ => 0)))) a (.inr (5, (mFi m5 5).set 7 (.ref q6)))) (mU m5 6 q6) 6 := P
  generalize gU (gU h5 q6 (.inl (0, 36, .inl (fun _ => 0)))) a (.inr (5, (mFi m5 5).set 7 (.ref q6))) = h6 at P
  generalize mU m5 6 q6 = m6 at P
  clear A6 Q6
  refine s_aload_n hK dX6_init_52 rfl ?_
  refine s_iconst hK (v := 2) dX6_init_53 (by decide) ?_
  refine s_newarray hK (N := 2) dX6_init_54 rfl (by first | decide | exact nI_pos (by omega)) (by first | rfl | exact nI_clamp (by omega)) (by omega) (by omega) (by omega) (fun q7 Q7 => ?_)
  have A7 : gU h6 q7 (.inl (0, 2, .inl (fun _ => 0))) a = some (.inr (5, mFi m6 6)) := (gU_ne (fun z => by have r := P.2.1; rw [z, Q7] at r; cases r)).trans P.2.1
  refine s_putfinal hK dX6_init_56 kF_X6_29 rfl rfl (by assumption) (by rfl) (by rfl) (by rfl) ?_
  have P := mi_step (fs := (mFi m6 6).set 8 (.ref q7)) P Q7 rfl
  have P : PI h a (gU (gU h6 q7 (.inl (0, 2, .inl (fun _ => 0)))) a (.inr (5, (mFi m6 6).set 8 (.ref q7)))) (mU m6 7 q7) 7 := P
  generalize gU (gU h6 q7 (.inl (0, 2, .inl (fun _ => 0)))) a (.inr (5, (mFi m6 6).set 8 (.ref q7))) = h7 at P
  generalize mU m6 7 q7 = m7 at P
  clear A7 Q7
  refine s_aload_n hK dX6_init_59 rfl ?_
  refine s_bipush hK (v := 63) dX6_init_60 (by decide) ?_
  refine s_newarray hK (N := 63) dX6_init_62 rfl (by first | decide | exact nI_pos (by omega)) (by first | rfl | exact nI_clamp (by omega)) (by omega) (by omega) (by omega) (fun q8 Q8 => ?_)
  have A8 : gU h7 q8 (.inl (1, 63, .inl (fun _ => 0))) a = some (.inr (5, mFi m7 7)) := (gU_ne (fun z => by have r := P.2.1; rw [z, Q8] at r; cases r)).trans P.2.1
  refine s_putfinal hK dX6_init_64 kF_X6_32 rfl rfl (by assumption) (by rfl) (by rfl) (by rfl) ?_
  have P := mi_step (fs := (mFi m7 7).set 9 (.ref q8)) P Q8 rfl
  have P : PI h a (gU (gU h7 q8 (.inl (1, 63, .inl (fun _ => 0)))) a (.inr (5, (mFi m7 7).set 9 (.ref q8)))) (mU m7 8 q8) 8 := P
  generalize gU (gU h7 q8 (.inl (1, 63, .inl (fun _ => 0)))) a (.inr (5, (mFi m7 7).set 9 (.ref q8))) = h8 at P
  generalize mU m7 8 q8 = m8 at P
  clear A8 Q8
  refine s_aload_n hK dX6_init_67 rfl ?_
  refine s_bipush hK (v := 126) dX6_init_68 (by decide) ?_
  refine s_newarray hK (N := 126) dX6_init_70 rfl (by first | decide | exact nI_pos (by omega)) (by first | rfl | exact nI_clamp (by omega)) (by omega) (by omega) (by omega) (fun q9 Q9 => ?_)
  have A9 : gU h8 q9 (.inl (0, 126, .inl (fun _ => 0))) a = some (.inr (5, mFi m8 8)) := (gU_ne (fun z => by have r := P.2.1; rw [z, Q9] at r; cases r)).trans P.2.1
  refine s_putfinal hK dX6_init_72 kF_X6_35 rfl rfl (by assumption) (by rfl) (by rfl) (by rfl) ?_
  have P := mi_step (fs := (mFi m8 8).set 10 (.ref q9)) P Q9 rfl
  have P : PI h a (gU (gU h8 q9 (.inl (0, 126, .inl (fun _ => 0)))) a (.inr (5, (mFi m8 8).set 10 (.ref q9)))) (mU m8 9 q9) 9 := P
  generalize gU (gU h8 q9 (.inl (0, 126, .inl (fun _ => 0)))) a (.inr (5, (mFi m8 8).set 10 (.ref q9))) = h9 at P
  generalize mU m8 9 q9 = m9 at P
  clear A9 Q9
  refine s_aload_n hK dX6_init_75 rfl ?_
  refine s_bipush hK (v := 126) dX6_init_76 (by decide) ?_
  refine s_newarray hK (N := 126) dX6_init_78 rfl (by first | decide | exact nI_pos (by omega)) (by first | rfl | exact nI_clamp (by omega)) (by omega) (by omega) (by omega) (fun q10 Q10 => ?_)
  have A10 : gU h9 q10 (.inl (0, 126, .inl (fun _ => 0))) a = some (.inr (5, mFi m9 9)) := (gU_ne (fun z => by have r := P.2.1; rw [z, Q10] at r; cases r)).trans P.2.1
  refine s_putfinal hK dX6_init_80 kF_X6_38 rfl rfl (by assumption) (by rfl) (by rfl) (by rfl) ?_
  have P := mi_step (fs := (mFi m9 9).set 11 (.ref q10)) P Q10 rfl
  have P : PI h a (gU (gU h9 q10 (.inl (0, 126, .inl (fun _ => 0)))) a (.inr (5, (mFi m9 9).set 11 (.ref q10)))) (mU m9 10 q10) 10 := P
  generalize gU (gU h9 q10 (.inl (0, 126, .inl (fun _ => 0)))) a (.inr (5, (mFi m9 9).set 11 (.ref q10))) = h10 at P
  generalize mU m9 10 q10 = m10 at P
  clear A10 Q10
  refine s_return hK dX6_init_83 rfl ?_
  refine hp h10 m10 P.1 (PI_end P) (fun i i1 i2 => (P.2.2.1 i (by omega) (by omega)).2) P.2.2.2.2
