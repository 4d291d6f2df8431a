section
-- ===== PART A: goes FIRST, ahead of the names: the tables' words, and 'selects' of the private methods out of them =====
/-- a private method of a class that the tables say can be made, by its rows of tables_1 -/
def lw_okq (q : MethodName × Nat) : Prop := (q.1.cls ≠ "java/lang/invoke/MethodHandle" ∧ q.1.cls ≠ "java/lang/invoke/VarHandle") ∧ Cond.instantiable q.1.cls q.2 ∈ tables_1 ∧ Cond.privateMethod q.1 ∈ tables_1 ∧ Cond.instanceMethod q.1 ∈ tables_1
theorem lw_p0 : lw_okq (⟨"java/lang/Throwable", "fillInStackTrace", "(I)Ljava/lang/Throwable;"⟩, 6) := ⟨⟨by decide +kernel, by decide +kernel⟩, List.mem_of_getElem? (i := 285) (by decide +kernel), List.mem_of_getElem? (i := 283) (by decide +kernel), List.mem_of_getElem? (i := 284) (by decide +kernel)⟩
theorem lw_p1 : lw_okq (⟨"GhostCandles$House", "relight", "()V"⟩, 9) := ⟨⟨by decide +kernel, by decide +kernel⟩, List.mem_of_getElem? (i := 32) (by decide +kernel), List.mem_of_getElem? (i := 368) (by decide +kernel), List.mem_of_getElem? (i := 369) (by decide +kernel)⟩
theorem lw_p2 : lw_okq (⟨"GhostCandles$House", "turned", "(JI)I"⟩, 9) := ⟨⟨by decide +kernel, by decide +kernel⟩, List.mem_of_getElem? (i := 32) (by decide +kernel), List.mem_of_getElem? (i := 377) (by decide +kernel), List.mem_of_getElem? (i := 378) (by decide +kernel)⟩
theorem lw_p3 : lw_okq (⟨"GhostCandles", "checkRoomFor", "(III)V"⟩, 2) := ⟨⟨by decide +kernel, by decide +kernel⟩, List.mem_of_getElem? (i := 18) (by decide +kernel), List.mem_of_getElem? (i := 390) (by decide +kernel), List.mem_of_getElem? (i := 391) (by decide +kernel)⟩
theorem lw_p4 : lw_okq (⟨"GhostCandles", "checkGhost", "(I)V"⟩, 2) := ⟨⟨by decide +kernel, by decide +kernel⟩, List.mem_of_getElem? (i := 18) (by decide +kernel), List.mem_of_getElem? (i := 489) (by decide +kernel), List.mem_of_getElem? (i := 490) (by decide +kernel)⟩
theorem lw_p5 : lw_okq (⟨"GhostCandles$Night", "takeStep", "(I)V"⟩, 5) := ⟨⟨by decide +kernel, by decide +kernel⟩, List.mem_of_getElem? (i := 26) (by decide +kernel), List.mem_of_getElem? (i := 613) (by decide +kernel), List.mem_of_getElem? (i := 614) (by decide +kernel)⟩
theorem lw_p6 : lw_okq (⟨"GhostCandles$Night", "hauntsOrFears", "(I)Z"⟩, 5) := ⟨⟨by decide +kernel, by decide +kernel⟩, List.mem_of_getElem? (i := 26) (by decide +kernel), List.mem_of_getElem? (i := 627) (by decide +kernel), List.mem_of_getElem? (i := 628) (by decide +kernel)⟩
theorem lw_p7 : lw_okq (⟨"GhostCandles", "hauntsAhead", "(II)I"⟩, 2) := ⟨⟨by decide +kernel, by decide +kernel⟩, List.mem_of_getElem? (i := 18) (by decide +kernel), List.mem_of_getElem? (i := 643) (by decide +kernel), List.mem_of_getElem? (i := 644) (by decide +kernel)⟩
theorem lw_p8 : lw_okq (⟨"GhostCandlesModel", "fail", "(I)I"⟩, 12) := ⟨⟨by decide +kernel, by decide +kernel⟩, List.mem_of_getElem? (i := 684) (by decide +kernel), List.mem_of_getElem? (i := 749) (by decide +kernel), List.mem_of_getElem? (i := 750) (by decide +kernel)⟩
theorem lw_p9 : lw_okq (⟨"GhostCandlesModel", "things", "(II)I"⟩, 12) := ⟨⟨by decide +kernel, by decide +kernel⟩, List.mem_of_getElem? (i := 684) (by decide +kernel), List.mem_of_getElem? (i := 753) (by decide +kernel), List.mem_of_getElem? (i := 754) (by decide +kernel)⟩
theorem lw_p10 : lw_okq (⟨"GhostCandlesModel", "set", "(IIII)I"⟩, 12) := ⟨⟨by decide +kernel, by decide +kernel⟩, List.mem_of_getElem? (i := 684) (by decide +kernel), List.mem_of_getElem? (i := 757) (by decide +kernel), List.mem_of_getElem? (i := 758) (by decide +kernel)⟩
theorem lw_p11 : lw_okq (⟨"GhostCandlesModel", "shine", "(I)V"⟩, 12) := ⟨⟨by decide +kernel, by decide +kernel⟩, List.mem_of_getElem? (i := 684) (by decide +kernel), List.mem_of_getElem? (i := 781) (by decide +kernel), List.mem_of_getElem? (i := 782) (by decide +kernel)⟩
theorem lw_p12 : lw_okq (⟨"GhostCandlesModel", "hasWall", "(II)Z"⟩, 12) := ⟨⟨by decide +kernel, by decide +kernel⟩, List.mem_of_getElem? (i := 684) (by decide +kernel), List.mem_of_getElem? (i := 785) (by decide +kernel), List.mem_of_getElem? (i := 786) (by decide +kernel)⟩
theorem lw_p13 : lw_okq (⟨"GhostCandlesModel", "turned", "(II)I"⟩, 12) := ⟨⟨by decide +kernel, by decide +kernel⟩, List.mem_of_getElem? (i := 684) (by decide +kernel), List.mem_of_getElem? (i := 789) (by decide +kernel), List.mem_of_getElem? (i := 790) (by decide +kernel)⟩
theorem lw_p14 : lw_okq (⟨"GhostCandlesModel", "litCells", "()I"⟩, 12) := ⟨⟨by decide +kernel, by decide +kernel⟩, List.mem_of_getElem? (i := 684) (by decide +kernel), List.mem_of_getElem? (i := 793) (by decide +kernel), List.mem_of_getElem? (i := 794) (by decide +kernel)⟩
theorem lw_p15 : lw_okq (⟨"GhostCandlesModel", "isGhost", "(I)Z"⟩, 12) := ⟨⟨by decide +kernel, by decide +kernel⟩, List.mem_of_getElem? (i := 684) (by decide +kernel), List.mem_of_getElem? (i := 801) (by decide +kernel), List.mem_of_getElem? (i := 802) (by decide +kernel)⟩
def lw_privs_1 : List (MethodName × Nat) := [(⟨"java/lang/Throwable", "fillInStackTrace", "(I)Ljava/lang/Throwable;"⟩, 6), (⟨"GhostCandles$House", "relight", "()V"⟩, 9), (⟨"GhostCandles$House", "turned", "(JI)I"⟩, 9), (⟨"GhostCandles", "checkRoomFor", "(III)V"⟩, 2), (⟨"GhostCandles", "checkGhost", "(I)V"⟩, 2), (⟨"GhostCandles$Night", "takeStep", "(I)V"⟩, 5), (⟨"GhostCandles$Night", "hauntsOrFears", "(I)Z"⟩, 5), (⟨"GhostCandles", "hauntsAhead", "(II)I"⟩, 2), (⟨"GhostCandlesModel", "fail", "(I)I"⟩, 12), (⟨"GhostCandlesModel", "things", "(II)I"⟩, 12), (⟨"GhostCandlesModel", "set", "(IIII)I"⟩, 12), (⟨"GhostCandlesModel", "shine", "(I)V"⟩, 12), (⟨"GhostCandlesModel", "hasWall", "(II)Z"⟩, 12), (⟨"GhostCandlesModel", "turned", "(II)I"⟩, 12), (⟨"GhostCandlesModel", "litCells", "()I"⟩, 12), (⟨"GhostCandlesModel", "isGhost", "(I)Z"⟩, 12)]
theorem lw_r1 : ∀ q ∈ lw_privs_1, lw_okq q := List.forall_mem_cons.mpr ⟨lw_p0, List.forall_mem_cons.mpr ⟨lw_p1, List.forall_mem_cons.mpr ⟨lw_p2, List.forall_mem_cons.mpr ⟨lw_p3, List.forall_mem_cons.mpr ⟨lw_p4, List.forall_mem_cons.mpr ⟨lw_p5, List.forall_mem_cons.mpr ⟨lw_p6, List.forall_mem_cons.mpr ⟨lw_p7, List.forall_mem_cons.mpr ⟨lw_p8, List.forall_mem_cons.mpr ⟨lw_p9, List.forall_mem_cons.mpr ⟨lw_p10, List.forall_mem_cons.mpr ⟨lw_p11, List.forall_mem_cons.mpr ⟨lw_p12, List.forall_mem_cons.mpr ⟨lw_p13, List.forall_mem_cons.mpr ⟨lw_p14, List.forall_mem_cons.mpr ⟨lw_p15, fun _ h => absurd h List.not_mem_nil⟩⟩⟩⟩⟩⟩⟩⟩⟩⟩⟩⟩⟩⟩⟩⟩
theorem lw_p16 : lw_okq (⟨"GhostCandlesModel", "wayOf", "(II)I"⟩, 12) := ⟨⟨by decide +kernel, by decide +kernel⟩, List.mem_of_getElem? (i := 684) (by decide +kernel), List.mem_of_getElem? (i := 805) (by decide +kernel), List.mem_of_getElem? (i := 806) (by decide +kernel)⟩
theorem lw_p17 : lw_okq (⟨"GhostCandlesModel", "reckonLight", "()V"⟩, 12) := ⟨⟨by decide +kernel, by decide +kernel⟩, List.mem_of_getElem? (i := 684) (by decide +kernel), List.mem_of_getElem? (i := 809) (by decide +kernel), List.mem_of_getElem? (i := 810) (by decide +kernel)⟩
theorem lw_p18 : lw_okq (⟨"GhostCandlesModel", "reckonWays", "(I)V"⟩, 12) := ⟨⟨by decide +kernel, by decide +kernel⟩, List.mem_of_getElem? (i := 684) (by decide +kernel), List.mem_of_getElem? (i := 813) (by decide +kernel), List.mem_of_getElem? (i := 814) (by decide +kernel)⟩
theorem lw_p19 : lw_okq (⟨"GhostCandlesModel", "sp", "(II)I"⟩, 12) := ⟨⟨by decide +kernel, by decide +kernel⟩, List.mem_of_getElem? (i := 684) (by decide +kernel), List.mem_of_getElem? (i := 817) (by decide +kernel), List.mem_of_getElem? (i := 818) (by decide +kernel)⟩
theorem lw_p20 : lw_okq (⟨"GhostCandlesModel", "from", "(II)I"⟩, 12) := ⟨⟨by decide +kernel, by decide +kernel⟩, List.mem_of_getElem? (i := 684) (by decide +kernel), List.mem_of_getElem? (i := 821) (by decide +kernel), List.mem_of_getElem? (i := 822) (by decide +kernel)⟩
theorem lw_p21 : lw_okq (⟨"GhostCandlesModel", "nextOf", "(I)I"⟩, 12) := ⟨⟨by decide +kernel, by decide +kernel⟩, List.mem_of_getElem? (i := 684) (by decide +kernel), List.mem_of_getElem? (i := 832) (by decide +kernel), List.mem_of_getElem? (i := 833) (by decide +kernel)⟩
theorem lw_p22 : lw_okq (⟨"GhostCandlesModel", "put", "(III)V"⟩, 12) := ⟨⟨by decide +kernel, by decide +kernel⟩, List.mem_of_getElem? (i := 684) (by decide +kernel), List.mem_of_getElem? (i := 847) (by decide +kernel), List.mem_of_getElem? (i := 848) (by decide +kernel)⟩
theorem lw_p23 : lw_okq (⟨"GhostCandlesModel", "cellTold", "(II)I"⟩, 12) := ⟨⟨by decide +kernel, by decide +kernel⟩, List.mem_of_getElem? (i := 684) (by decide +kernel), List.mem_of_getElem? (i := 859) (by decide +kernel), List.mem_of_getElem? (i := 860) (by decide +kernel)⟩
theorem lw_p24 : lw_okq (⟨"GhostCandlesModel", "ghostTold", "(II)I"⟩, 12) := ⟨⟨by decide +kernel, by decide +kernel⟩, List.mem_of_getElem? (i := 684) (by decide +kernel), List.mem_of_getElem? (i := 871) (by decide +kernel), List.mem_of_getElem? (i := 872) (by decide +kernel)⟩
theorem lw_p25 : lw_okq (⟨"GhostCandlesModel", "counted", "(I)I"⟩, 12) := ⟨⟨by decide +kernel, by decide +kernel⟩, List.mem_of_getElem? (i := 684) (by decide +kernel), List.mem_of_getElem? (i := 879) (by decide +kernel), List.mem_of_getElem? (i := 880) (by decide +kernel)⟩
theorem lw_p26 : lw_okq (⟨"GhostCandlesModel", "burning", "()I"⟩, 12) := ⟨⟨by decide +kernel, by decide +kernel⟩, List.mem_of_getElem? (i := 684) (by decide +kernel), List.mem_of_getElem? (i := 883) (by decide +kernel), List.mem_of_getElem? (i := 884) (by decide +kernel)⟩
theorem lw_p27 : lw_okq (⟨"GhostCandlesModel", "walls", "()I"⟩, 12) := ⟨⟨by decide +kernel, by decide +kernel⟩, List.mem_of_getElem? (i := 684) (by decide +kernel), List.mem_of_getElem? (i := 887) (by decide +kernel), List.mem_of_getElem? (i := 888) (by decide +kernel)⟩
theorem lw_p28 : lw_okq (⟨"GhostCandlesModel", "marks", "()I"⟩, 12) := ⟨⟨by decide +kernel, by decide +kernel⟩, List.mem_of_getElem? (i := 684) (by decide +kernel), List.mem_of_getElem? (i := 891) (by decide +kernel), List.mem_of_getElem? (i := 892) (by decide +kernel)⟩
theorem lw_p29 : lw_okq (⟨"GhostCandlesModel", "hoursOn", "(I)V"⟩, 12) := ⟨⟨by decide +kernel, by decide +kernel⟩, List.mem_of_getElem? (i := 684) (by decide +kernel), List.mem_of_getElem? (i := 899) (by decide +kernel), List.mem_of_getElem? (i := 900) (by decide +kernel)⟩
theorem lw_p30 : lw_okq (⟨"GhostCandlesModel", "hourOn", "()V"⟩, 12) := ⟨⟨by decide +kernel, by decide +kernel⟩, List.mem_of_getElem? (i := 684) (by decide +kernel), List.mem_of_getElem? (i := 903) (by decide +kernel), List.mem_of_getElem? (i := 904) (by decide +kernel)⟩
theorem lw_p31 : lw_okq (⟨"GhostCandlesModel", "step", "(I)Z"⟩, 12) := ⟨⟨by decide +kernel, by decide +kernel⟩, List.mem_of_getElem? (i := 684) (by decide +kernel), List.mem_of_getElem? (i := 907) (by decide +kernel), List.mem_of_getElem? (i := 908) (by decide +kernel)⟩
def lw_privs_2 : List (MethodName × Nat) := [(⟨"GhostCandlesModel", "wayOf", "(II)I"⟩, 12), (⟨"GhostCandlesModel", "reckonLight", "()V"⟩, 12), (⟨"GhostCandlesModel", "reckonWays", "(I)V"⟩, 12), (⟨"GhostCandlesModel", "sp", "(II)I"⟩, 12), (⟨"GhostCandlesModel", "from", "(II)I"⟩, 12), (⟨"GhostCandlesModel", "nextOf", "(I)I"⟩, 12), (⟨"GhostCandlesModel", "put", "(III)V"⟩, 12), (⟨"GhostCandlesModel", "cellTold", "(II)I"⟩, 12), (⟨"GhostCandlesModel", "ghostTold", "(II)I"⟩, 12), (⟨"GhostCandlesModel", "counted", "(I)I"⟩, 12), (⟨"GhostCandlesModel", "burning", "()I"⟩, 12), (⟨"GhostCandlesModel", "walls", "()I"⟩, 12), (⟨"GhostCandlesModel", "marks", "()I"⟩, 12), (⟨"GhostCandlesModel", "hoursOn", "(I)V"⟩, 12), (⟨"GhostCandlesModel", "hourOn", "()V"⟩, 12), (⟨"GhostCandlesModel", "step", "(I)Z"⟩, 12)]
theorem lw_r2 : ∀ q ∈ lw_privs_2, lw_okq q := List.forall_mem_cons.mpr ⟨lw_p16, List.forall_mem_cons.mpr ⟨lw_p17, List.forall_mem_cons.mpr ⟨lw_p18, List.forall_mem_cons.mpr ⟨lw_p19, List.forall_mem_cons.mpr ⟨lw_p20, List.forall_mem_cons.mpr ⟨lw_p21, List.forall_mem_cons.mpr ⟨lw_p22, List.forall_mem_cons.mpr ⟨lw_p23, List.forall_mem_cons.mpr ⟨lw_p24, List.forall_mem_cons.mpr ⟨lw_p25, List.forall_mem_cons.mpr ⟨lw_p26, List.forall_mem_cons.mpr ⟨lw_p27, List.forall_mem_cons.mpr ⟨lw_p28, List.forall_mem_cons.mpr ⟨lw_p29, List.forall_mem_cons.mpr ⟨lw_p30, List.forall_mem_cons.mpr ⟨lw_p31, fun _ h => absurd h List.not_mem_nil⟩⟩⟩⟩⟩⟩⟩⟩⟩⟩⟩⟩⟩⟩⟩⟩
theorem lw_p32 : lw_okq (⟨"GhostCandlesModel", "haunt", "(I)V"⟩, 12) := ⟨⟨by decide +kernel, by decide +kernel⟩, List.mem_of_getElem? (i := 684) (by decide +kernel), List.mem_of_getElem? (i := 911) (by decide +kernel), List.mem_of_getElem? (i := 912) (by decide +kernel)⟩
theorem lw_p33 : lw_okq (⟨"GhostCandlesModel", "kept", "()[[I"⟩, 12) := ⟨⟨by decide +kernel, by decide +kernel⟩, List.mem_of_getElem? (i := 684) (by decide +kernel), List.mem_of_getElem? (i := 919) (by decide +kernel), List.mem_of_getElem? (i := 920) (by decide +kernel)⟩
theorem lw_p34 : lw_okq (⟨"GhostCandlesModel", "bringBack", "([[I)V"⟩, 12) := ⟨⟨by decide +kernel, by decide +kernel⟩, List.mem_of_getElem? (i := 684) (by decide +kernel), List.mem_of_getElem? (i := 931) (by decide +kernel), List.mem_of_getElem? (i := 932) (by decide +kernel)⟩
def lw_privs_3 : List (MethodName × Nat) := [(⟨"GhostCandlesModel", "haunt", "(I)V"⟩, 12), (⟨"GhostCandlesModel", "kept", "()[[I"⟩, 12), (⟨"GhostCandlesModel", "bringBack", "([[I)V"⟩, 12)]
theorem lw_r3 : ∀ q ∈ lw_privs_3, lw_okq q := List.forall_mem_cons.mpr ⟨lw_p32, List.forall_mem_cons.mpr ⟨lw_p33, List.forall_mem_cons.mpr ⟨lw_p34, fun _ h => absurd h List.not_mem_nil⟩⟩⟩
def lw_privs : List (MethodName × Nat) := lw_privs_1 ++ (lw_privs_2 ++ (lw_privs_3))
def lw_tbl : List Cond := k2_sels lw_privs ++ tables_1
theorem lw_privs_ok : ∀ q ∈ lw_privs, lw_okq q := by
  show ∀ q ∈ lw_privs_1 ++ (lw_privs_2 ++ (lw_privs_3)), lw_okq q
  exact List.forall_mem_append.mpr ⟨lw_r1, List.forall_mem_append.mpr ⟨lw_r2, lw_r3⟩⟩
/-- the streams that the claim lets the run draw from -/
abbrev lw_cs : List Choice := [Jvm.Choice.named "NaN.bits"]
theorem lw_bits : nanBits ∈ lw_cs := by first | decide | exact List.mem_cons_self | simp [lw_cs, nanBits]

/-! ===== BEGIN words of one list among another's, by their places ===== -/
theorem goodIn_r {big : List Cond} (ws : List Cond) (ps : List Nat) (hp : ws = ps.filterMap (fun i => big[i]?)) (h : ws.all goodWord = true) : GoodIn big ws := by
  intro w hw
  have h1 := List.all_eq_true.mp h w hw
  rw [hp] at hw
  obtain ⟨i, -, hi⟩ := List.mem_filterMap.mp hw
  have hm : w ∈ big := by first | exact List.mem_of_getElem? hi | exact List.getElem?_mem hi
  exact ⟨hm, good_of_word h1⟩
theorem goodIn_app {big a b : List Cond} (ha : GoodIn big a) (hb : GoodIn big b) : GoodIn big (a ++ b) := fun w h => (List.mem_append.mp h).elim (ha w) (hb w)
theorem goodIn_ca {big a b : List Cond} {c : Cond} (ha : GoodIn big (c :: a)) (hb : GoodIn big b) : GoodIn big (c :: (a ++ b)) := fun w h => (List.mem_cons.mp h).elim (fun e => ha w (List.mem_cons.mpr (Or.inl e))) (fun h => (List.mem_append.mp h).elim (fun h => ha w (List.mem_cons.mpr (Or.inr h))) (hb w))
theorem goodIn_sub {big ws : List Cond} (hm : ∀ w ∈ ws, w ∈ big) (h : ws.all goodWord = true) : GoodIn big ws := fun w hw => ⟨hm w hw, good_of_word (List.all_eq_true.mp h w hw)⟩
/-! ===== END ===== -/

/-! ===== BEGIN exceptions that leave a method, and their catching by the caller (launches without stack traces) ===== -/
section VXA
/-! The laws vx_back, vx_callV, vx_callS, vx_callSW, vx_throw0, vx_throwS follow proofs of the library, with one case more: JvmDerived/Free/Laws.lean (Back.of_free), Shelf42/LK1.lean (callV, callS), Shelf/KitTraced.lean (throwNew0V, throwNewS). -/
/-- where a method has thrown q: the class by its name, the cell, what was written, the world -/
def vx_T (XC : String → State → State → Prop) (st : State) (q : Addr) (t : State) (mc ms : Nat) (free : Addr → Prop) : Prop :=
  ∃ (E : String) (ce : Cell) (L : List Loc), XC E st t ∧ t.heap[q]? = some ce ∧ ce.vm = .none ∧ st.vm.findClass E = some ce.cls ∧ st.WarmedH t.vm ∧ st.sameButNew ({ t with vm := st.vm } : State) L mc ms ∧ ∀ z ∈ L, free z.base
def vx_Q (Qc : Array Value → State → Outcome → State → Prop) (XC : String → State → State → Prop) (mc ms : Nat) (free : Addr → Prop) : Array Value → State → Outcome → State → Prop := fun a st o t =>
  (Qc a st o t ∧ ∃ L, FrameEnd st o t L mc ms ∧ ∀ q ∈ L, free q.base) ∨ ∃ q, o = .threw q ∧ vx_T XC st q t mc ms free
/-- a callee that returns or throws -/
def vx_Met (l : Launch) (y : MethodName) (ws : List Cond) (rm : Room) (Pc : Array Value → State → Prop) (Qc : Array Value → State → Outcome → State → Prop) (XC : String → State → State → Prop) (mc ms : Nat) (free : Addr → Prop) : Prop :=
  MetFree l y (headSpec ws rm) Pc (fun _ _ _ _ _ => True) (vx_Q Qc XC mc ms free)
def vx_Post (XC : String → State → State → Prop) (mc ms : Nat) (free : Addr → Prop) : Pt → Array Value → Addr → Pt → Prop := fun A a q B =>
  ∃ (g : JFrame) (mk : MethodId) (t : State) (L : List Loc) (E : String) (ce : Cell), B.U.heap = t.heap ∧ B.U.vm = t.vm ∧ XC E (A.U.calling g mk a) t ∧ t.heap[q]? = some ce ∧ ce.vm = .none ∧ A.U.vm.findClass E = some ce.cls ∧ B.locs = A.locs ++ L ∧ (∀ z ∈ L, free z.base) ∧ B.cells = A.cells + mc ∧ B.slots = A.slots + ms
def vx_Back (l : Launch) (R : Room) (p : Program) (e : Env) (below : List Frame) (s : State) (sargs : Array Value) (y : MethodName) (len W9 : Nat)
    (Pre : Pt → Array Value → Prop) (Post : Pt → Array Value → Option Value → Pt → Prop) (PostX : Pt → Array Value → Addr → Pt → Prop) : Prop :=
  ∀ (m : MethodId) (meth : Method) (c : Code) (A : Pt) (g : JFrame) (ig : Instr) (mk : MethodId) (a : Array Value),
    Stand p l e R s m sargs below meth c A.U A.locs A.cells A.slots → g.method = m → g.locals.size = c.maxLocals → decode c.code g.pc = .ok (ig, len) →
    2 * g.monitorRoom + (g.stack.map fun v => v.category).sum ≤ W9 → A.U.methodNamed? y = some mk → Pre A a →
    (∃ (v : Option Value) (B : Pt), Stand p l e R s m sargs below meth c B.U B.locs B.cells B.slots ∧ Post A a v B ∧
      Steps p.tables e below (doInvoke e (A.U.setTop g) [] mk a).1 (B.U.setTop { g with pc := g.pc + len, stack := v.toList ++ g.stack })) ∨
    (∃ (q : Addr) (B : Pt), Stand p l e R s m sargs below meth c B.U B.locs B.cells B.slots ∧ PostX A a q B ∧
      Steps p.tables e below (doInvoke e (A.U.setTop g) [] mk a).1 ((B.U.setTop g).pushFrame (.throwing q)))
section Payer
variable {l : Launch} {R : Room} {p : Program} {e : Env} {below : List Frame} {s : State} {sargs : Array Value} {y : MethodName} {len W9 : Nat}
theorem vx_back {ws : List Cond} {rm : Room} {Pc : Array Value → State → Prop} {Qc : Array Value → State → Outcome → State → Prop} {XC : String → State → State → Prop} {mc ms : Nat} {free : Addr → Prop} {bytes : ByteArray} {maxL : Nat} {ret : Option FieldType}
    (hM : vx_Met l y ws rm Pc Qc XC mc ms free) (hblind : FrameBlind Pc) (hrc : rm.cells = mc) (hrs : rm.slots = ms)
    (hframes : rm.frames + 1 ≤ R.frames) (hlocals : W9 + (maxL + 11) + rm.locals ≤ R.locals)
    (hws : ∀ w ∈ ws, ∀ a' U, s.WarmedH U.vm → w.before a' U = true) (hcode : Cond.code y bytes maxL ret ∈ ws) (hinit : ∀ a' U, s.WarmedH U.vm → (Cond.initialized y.cls).before a' U = true) :
    vx_Back l R p e below s sargs y len W9 (PreOf R mc ms Pc) (PostOf Qc mc ms free) (vx_Post XC mc ms free) := by
  intro m meth c A g ig mk a X hg hsize hdg hW hn hp
  have h1 : (headSpec ws rm).pre.before a A.U = true := atoms_intro fun w hw => hws w hw _ _ X.warmed
  have h2 : (Cond.code y bytes maxL ret).before a A.U = true := hws _ hcode _ _ X.warmed
  have h3 : (Cond.initialized y.cls).before a A.U = true := hinit _ _ X.warmed
  have h4 : A.cells + (headSpec ws rm).room.cells ≤ R.cells := by rw [show (headSpec ws rm).room.cells = mc from hrc]; exact hp.1
  have h5 : A.slots + (headSpec ws rm).room.slots ≤ R.slots := by rw [show (headSpec ws rm).room.slots = ms from hrs]; exact hp.2.1
  have hPc : Pc a (A.U.calling g mk a) := hblind _ _ _ _ hp.2.2
  obtain ⟨U, Ls, c0, s0⟩ := A
  dsimp only [Pt.U, Pt.locs, Pt.cells, Pt.slots] at h1 h2 h3 h4 h5 X hn hPc ⊢
  obtain ⟨methY, cY, hmY, hcY, -, hlY, -, -, -, -⟩ := Cond.code_spec hn h2
  obtain ⟨kY, hkY, -⟩ := className_of_methodNamed hn
  have hinitY : kY.init = .initialized := Cond.initialized_spec (findClass_of_methodNamed hn) hkY h3
  have h : At U g.method c below := by rw [hg]; exact X.here
  have hlocals9 : W9 + (maxL + 11) + (headSpec ws rm).room.locals ≤ R.locals := hlocals
  have happ : (headSpec ws rm).appliesLoose y e.platform (U.calling g mk a) = true :=
    Spec.appliesLoose_calling (g := g) h hdg hn hkY hinitY
      (X.room_calling (g := g) (R' := (headSpec ws rm).room) hsize hmY hcY hframes (by rw [hlY]; omega) h4 h5) h1
  obtain ⟨mid, hmid⟩ := h.above
  have hfr : (U.setTop g).frames = (.java g :: mid) ++ below := by rw [State.frames_setTop' g h.top, hmid]; rfl
  obtain ⟨o, s₂, hsteps, -, hend, hq⟩ := Steps.callFree hM p X.admits X.cas X.clock (acts := []) hfr happ hPc trivial
  have hq' : vx_Q Qc XC mc ms free a (U.calling g mk a) o s₂ := hq
  rw [State.frames_setTop' g h.top] at hend
  obtain ⟨g₀, hg0⟩ := Option.isSome_iff_exists.mp h.top
  obtain ⟨r, hr⟩ := State.topJava?_eq_some.mp hg0
  have hr' : (({ U with heap := s₂.heap, slotsUsed := s₂.slotsUsed } : State).setVm s₂.vm).frames = .java g₀ :: r := hr
  rcases hq' with ⟨hqc, L, hfe, hL⟩ | ⟨q, rfl, E, ce, L, hx, hce, hcv, hcl, hW₂, hsm, hL⟩
  · obtain ⟨⟨v, rfl⟩, hW₂, e2, q2, q3, q4, q5, q6⟩ := id hfe
    have e3 : s₂ = ({ (U.calling g mk a).setFrames s₂.frames with heap := s₂.heap, slotsUsed := s₂.slotsUsed } : State).setVm s₂.vm := by
      have : s₂ = ({ s₂ with vm := (U.calling g mk a).vm } : State).setVm s₂.vm := rfl
      rw [e2] at this
      exact this
    obtain ⟨c₂, i₂, len₂, hc₂, hd₂, hf₂⟩ := hend
    have hW' : U.WarmedH s₂.vm := hW₂
    have hcc : c₂ = c := by
      have h1 : s₂.code? g.method = U.code? g.method := by
        rw [State.code?_eq, State.code?_eq, hW'.alike.method?]
      exact Option.some.inj (hc₂.symm.trans (h1.trans h.code))
    subst hcc
    have hlen : len₂ = len := by rw [hdg] at hd₂; cases hd₂; rfl
    subst hlen
    have hs₂ : s₂ = (({ U with heap := s₂.heap, slotsUsed := s₂.slotsUsed } : State).setVm s₂.vm).setTop { g with pc := g.pc + len₂, stack := v.toList ++ g.stack } := by
      refine e3.trans ?_
      rw [hf₂, State.calling_eq h.top, State.setFrames_setFrames, State.setTop_of_frames _ hr', hr]
      rfl
    have hsame : U.sameButNew ({ U with heap := s₂.heap, slotsUsed := s₂.slotsUsed } : State) L mc ms := by
      refine ⟨?_, q2, q3, q4, q5, q6⟩
      obtain ⟨t, ht, -⟩ := State.frames_cons hr
      show ({ U with heap := s₂.heap, slotsUsed := s₂.slotsUsed } : State) = { U.setFrames U.frames with heap := s₂.heap, slotsUsed := s₂.slotsUsed }
      rw [State.setFrames_self ht]
    subst hg
    refine Or.inl ⟨v, ⟨(({ U with heap := s₂.heap, slotsUsed := s₂.slotsUsed } : State).setVm s₂.vm), Ls ++ L, c0 + mc, s0 + ms⟩,
      ⟨X.admits, X.cas, X.clock, X.frames, X.room, X.hears, X.method, X.code, (X.here.setHeapUsed s₂.heap s₂.slotsUsed).setVm hW'.alike, X.tail, State.WarmedH.trans X.warmed hW', X.limits, X.bytes, X.same.trans (hsame.setVm s.vm)⟩,
      ⟨g, mk, s₂, L, rfl, rfl, hqc, rfl, hL, rfl, rfl⟩, ?_⟩
    show Steps p.tables e below _ ((({ U with heap := s₂.heap, slotsUsed := s₂.slotsUsed } : State).setVm s₂.vm).setTop { g with pc := g.pc + len₂, stack := v.toList ++ g.stack })
    rw [← hs₂]
    exact hsteps
  · obtain ⟨e2, q2, q3, q4, q5, q6⟩ := id hsm
    have e3 : s₂ = ({ (U.calling g mk a).setFrames s₂.frames with heap := s₂.heap, slotsUsed := s₂.slotsUsed } : State).setVm s₂.vm := by
      have : s₂ = ({ s₂ with vm := (U.calling g mk a).vm } : State).setVm s₂.vm := rfl
      rw [e2] at this
      exact this
    have hf₂ : s₂.frames = .throwing q :: .java g :: U.frames.tail := hend
    have hW' : U.WarmedH s₂.vm := hW₂
    have hs₂ : s₂ = ((({ U with heap := s₂.heap, slotsUsed := s₂.slotsUsed } : State).setVm s₂.vm).setTop g).pushFrame (.throwing q) := by
      refine e3.trans ?_
      rw [hf₂, State.calling_eq h.top, State.setFrames_setFrames, State.pushFrame, State.frames_setTop _ hr', State.setTop_of_frames _ hr', State.setFrames_setFrames, hr]
      rfl
    have hsame : U.sameButNew ({ U with heap := s₂.heap, slotsUsed := s₂.slotsUsed } : State) L mc ms := by
      refine ⟨?_, q2, q3, q4, q5, q6⟩
      obtain ⟨t, ht, -⟩ := State.frames_cons hr
      show ({ U with heap := s₂.heap, slotsUsed := s₂.slotsUsed } : State) = { U.setFrames U.frames with heap := s₂.heap, slotsUsed := s₂.slotsUsed }
      rw [State.setFrames_self ht]
    subst hg
    refine Or.inr ⟨q, ⟨(({ U with heap := s₂.heap, slotsUsed := s₂.slotsUsed } : State).setVm s₂.vm), Ls ++ L, c0 + mc, s0 + ms⟩,
      ⟨X.admits, X.cas, X.clock, X.frames, X.room, X.hears, X.method, X.code, (X.here.setHeapUsed s₂.heap s₂.slotsUsed).setVm hW'.alike, X.tail, State.WarmedH.trans X.warmed hW', X.limits, X.bytes, X.same.trans (hsame.setVm s.vm)⟩,
      ⟨g, mk, s₂, L, E, ce, rfl, rfl, hx, hce, hcv, hcl, rfl, hL, rfl, rfl⟩, ?_⟩
    show Steps p.tables e below _ (((({ U with heap := s₂.heap, slotsUsed := s₂.slotsUsed } : State).setVm s₂.vm).setTop g).pushFrame (.throwing q))
    rw [← hs₂]
    exact hsteps
end Payer
section Calls
variable {p : Program} {l : Launch} {e : Env} {R : Room} {s : State} {m : MethodId} {args : Array Value} {below : List Frame} {meth : Method} {c : Code} {T : State} {locs : List Loc} {cells slots : Nat}
theorem vx_callV (X : Stand p l e R s m args below meth c T locs cells slots) (hexec : p.tables.exec = Jvm.exec) {own C : String} {index : Nat} {y : MethodName} {bytes : ByteArray} {maxL : Nat} {ret : Option FieldType}
    (hown : s.vm.findClass own = some m.cls) (hlink : (Cond.methodLink own index y).before args s = true) (hinst : (Cond.instanceMethod y).before args s = true) (hsel : (Cond.selects C y y).before args s = true)
    (hcode : (Cond.code y bytes maxL ret).before args s = true) (hy : y.cls ≠ "java/lang/invoke/MethodHandle" ∧ y.cls ≠ "java/lang/invoke/VarHandle")
    {W9 : Nat} {Pre : Pt → Array Value → Prop} {Post : Pt → Array Value → Option Value → Pt → Prop} {PostX : Pt → Array Value → Addr → Pt → Prop} (hK : vx_Back l R p e below s args y 3 W9 Pre Post PostX)
    {b : Addr} {cellB : Cell} (hcell : T.heap[b]? = some cellB) (hobj : cellB.vm.isStatics = false) (hcls : s.vm.findClass C = some cellB.cls)
    {g : JFrame} (hg : g.method = m) (hsize : g.locals.size = c.maxLocals) {argsL rest : List Value} (hlen : ∀ sig, parseMethodDescriptor y.desc = some sig → argsL.length = sig.parameters.length)
    (hstack : g.stack = argsL.reverse ++ .ref b :: rest) (hW : 2 * g.monitorRoom + (rest.map fun v => v.category).sum ≤ W9) (hdg : decode c.code g.pc = .ok (.invokevirtual index, 3))
    (hpre : ∀ vm₁, s.WarmedH vm₁ → Pre ⟨T.setVm vm₁, locs, cells, slots⟩ (Value.ref b :: argsL).toArray) :
    (∃ (v : Option Value) (vm₁ : Vm) (B : Pt), s.WarmedH vm₁ ∧ Stand p l e R s m args below meth c B.U B.locs B.cells B.slots ∧ Post ⟨T.setVm vm₁, locs, cells, slots⟩ (Value.ref b :: argsL).toArray v B ∧
      ∀ target, Steps p.tables e below (B.U.setTop { g with pc := g.pc + 3, stack := v.toList ++ rest }) target → Steps p.tables e below (T.setTop g) target) ∨
    (∃ (q : Addr) (vm₁ : Vm) (B : Pt), s.WarmedH vm₁ ∧ Stand p l e R s m args below meth c B.U B.locs B.cells B.slots ∧ PostX ⟨T.setVm vm₁, locs, cells, slots⟩ (Value.ref b :: argsL).toArray q B ∧
      Steps p.tables e below (T.setTop g) ((B.U.setTop { g with stack := rest }).pushFrame (.throwing q))) := by
  obtain ⟨mk, methM, hnamed, hmethM, hstM, habM⟩ := Cond.instanceMethod_spec hinst
  obtain ⟨methM', cM, hmethM', -, -, -, -, -, -, hsigM⟩ := Cond.code_spec hnamed hcode
  cases hmethM.symm.trans hmethM'
  obtain ⟨c2, r2, m2, q1, q2, q3, q4, kP, hkP, hkPi⟩ := Cond.selects_spec hsel
  cases hcls.symm.trans q1
  cases (State.methodFound?_of_named hnamed hy).symm.trans q2
  cases hnamed.symm.trans q3
  have hselP : selectMethod e.platform s.vm cellB.cls mk = .method mk := by rw [Launch.admits_selectMethod X.admits]; exact q4
  obtain ⟨vm₁, X₁, hstep₁⟩ := X.invokevirtual hexec hown hlink hnamed hmethM hstM hkP hkPi hy (a := b) (cell := cellB) hcell
    (fun z h => by rw [h] at hobj; cases hobj) hselP hmethM habM hkP hkPi (g := g) hg (argsL := argsL) (rest := rest) (hlen _ hsigM) hstack hdg
  rcases hK m meth c ⟨T.setVm vm₁, locs, cells, slots⟩ { g with stack := rest } (.invokevirtual index) mk (Value.ref b :: argsL).toArray X₁ hg hsize hdg hW (X₁.named hnamed) (hpre vm₁ X₁.warmed) with ⟨v, B, X', hpost, hsteps⟩ | ⟨q, B, X', hpost, hsteps⟩
  · exact Or.inl ⟨v, vm₁, B, X₁.warmed, X', hpost, fun target h => hstep₁ _ fun acts => by rw [doInvoke_state]; exact hsteps.trans h⟩
  · exact Or.inr ⟨q, vm₁, B, X₁.warmed, X', hpost, hstep₁ _ fun acts => by rw [doInvoke_state]; exact hsteps⟩
theorem vx_callS (X : Stand p l e R s m args below meth c T locs cells slots) (hexec : p.tables.exec = Jvm.exec) {own : String} {index : Nat} {y : MethodName} {bytes : ByteArray} {maxL : Nat} {ret : Option FieldType}
    (hown : s.vm.findClass own = some m.cls) (hlink : (Cond.methodLink own index y).before args s = true) (hstat : (Cond.static y).before args s = true) (hinit : (Cond.initialized y.cls).before args s = true)
    (hcode : (Cond.code y bytes maxL ret).before args s = true) (hy : y.cls ≠ "java/lang/invoke/MethodHandle" ∧ y.cls ≠ "java/lang/invoke/VarHandle")
    {W9 : Nat} {Pre : Pt → Array Value → Prop} {Post : Pt → Array Value → Option Value → Pt → Prop} {PostX : Pt → Array Value → Addr → Pt → Prop} (hK : vx_Back l R p e below s args y 3 W9 Pre Post PostX)
    {g : JFrame} (hg : g.method = m) (hsize : g.locals.size = c.maxLocals) {argsL rest : List Value} (hlen : ∀ sig, parseMethodDescriptor y.desc = some sig → argsL.length = sig.parameters.length)
    (hstack : g.stack = argsL.reverse ++ rest) (hW : 2 * g.monitorRoom + (rest.map fun v => v.category).sum ≤ W9) (hdg : decode c.code g.pc = .ok (.invokestatic index, 3))
    (hpre : ∀ vm₁, s.WarmedH vm₁ → Pre ⟨T.setVm vm₁, locs, cells, slots⟩ argsL.toArray) :
    (∃ (v : Option Value) (vm₁ : Vm) (B : Pt), s.WarmedH vm₁ ∧ Stand p l e R s m args below meth c B.U B.locs B.cells B.slots ∧ Post ⟨T.setVm vm₁, locs, cells, slots⟩ argsL.toArray v B ∧
      ∀ target, Steps p.tables e below (B.U.setTop { g with pc := g.pc + 3, stack := v.toList ++ rest }) target → Steps p.tables e below (T.setTop g) target) ∨
    (∃ (q : Addr) (vm₁ : Vm) (B : Pt), s.WarmedH vm₁ ∧ Stand p l e R s m args below meth c B.U B.locs B.cells B.slots ∧ PostX ⟨T.setVm vm₁, locs, cells, slots⟩ argsL.toArray q B ∧
      Steps p.tables e below (T.setTop g) ((B.U.setTop { g with stack := rest }).pushFrame (.throwing q))) := by
  obtain ⟨mk, hnamed⟩ := Cond.code_named hcode
  obtain ⟨methM, cM, hmethM, -, -, -, -, -, -, hsigM⟩ := Cond.code_spec hnamed hcode
  have hstatic : methM.isStatic = true := Cond.static_spec hnamed hmethM hstat
  obtain ⟨kP, hkP, -⟩ := className_of_methodNamed hnamed
  have hinitP : kP.init = .initialized := Cond.initialized_spec (findClass_of_methodNamed hnamed) hkP hinit
  obtain ⟨vm₁, X₁, hstep₁⟩ := X.invokestatic hexec hown hlink hnamed hmethM hstatic hkP hinitP hy (g := g) hg (argsL := argsL) (rest := rest) (hlen _ hsigM) hstack hdg
  rcases hK m meth c ⟨T.setVm vm₁, locs, cells, slots⟩ { g with stack := rest } (.invokestatic index) mk argsL.toArray X₁ hg hsize hdg hW (X₁.named hnamed) (hpre vm₁ X₁.warmed) with ⟨v, B, X', hpost, hsteps⟩ | ⟨q, B, X', hpost, hsteps⟩
  · exact Or.inl ⟨v, vm₁, B, X₁.warmed, X', hpost, fun target h => hstep₁ _ fun acts => by rw [doInvoke_state]; exact hsteps.trans h⟩
  · exact Or.inr ⟨q, vm₁, B, X₁.warmed, X', hpost, hstep₁ _ fun acts => by rw [doInvoke_state]; exact hsteps⟩
end Calls
theorem vx_cls {s : State} {T : State} {vm₁ : Vm} {E : String} {k : ClassId} (hW : s.WarmedH vm₁) (h : (T.setVm vm₁).vm.findClass E = some k) : s.vm.findClass E = some k := by
  have h1 : vm₁.findClass E = some k := h
  rw [hW.alike.findClass] at h1
  exact h1
/-- the method's frame g, with q thrown over it -/
def vx_W (p : Program) (l : Launch) (e : Env) (R : Room) (s : State) (m : MethodId) (args : Array Value) (below : List Frame) (meth : Method) (c : Code) (H : Heap) (locs : List Loc) (cells slots : Nat) (Q : State → Prop) (g : JFrame) (q : Addr) : Prop :=
  ∀ T : State, T.heap = H → Stand p l e R s m args below meth c T locs cells slots → ∃ t, Steps p.tables e below ((T.setTop g).pushFrame (.throwing q)) t ∧ Q t
def vx_Run (p : Program) (l : Launch) (e : Env) (R : Room) (s : State) (m : MethodId) (args : Array Value) (below : List Frame) (meth : Method) (c : Code) (H : Heap) (locs : List Loc) (cells slots mc ms : Nat) (g : JFrame) (rest : List Value) (Qa : State → Outcome → State → Prop) (XC : String → State → State → Prop) (free : Addr → Prop) : Prop :=
  ∀ T : State, T.heap = H → Stand p l e R s m args below meth c T locs cells slots →
    (∃ (v : Option Value) (st₀ t T' : State) (L : List Loc), st₀.heap = H ∧ Stand p l e R s m args below meth c T' (locs ++ L) (cells + mc) (slots + ms) ∧ (∀ q ∈ L, free q.base) ∧ T'.heap = t.heap ∧ T'.vm = t.vm ∧ Qa st₀ (.returned v) t ∧
      Goes p e below T g T' { g with pc := g.pc + 3, stack := v.toList ++ rest }) ∨
    (∃ (q : Addr) (st₀ t T' : State) (L : List Loc) (E : String) (ce : Cell), st₀.heap = H ∧ Stand p l e R s m args below meth c T' (locs ++ L) (cells + mc) (slots + ms) ∧ (∀ z ∈ L, free z.base) ∧ T'.heap = t.heap ∧ T'.vm = t.vm ∧ XC E st₀ t ∧ t.heap[q]? = some ce ∧ ce.vm = .none ∧ s.vm.findClass E = some ce.cls ∧
      Steps p.tables e below (T.setTop g) ((T'.setTop { g with stack := rest }).pushFrame (.throwing q)))
def vx_X {S : Type} (px : S → Prop) (B : String → S → State → Prop) (A : Nat → Prop) : String → State → State → Prop := fun E st t => ∃ u : S, px u ∧ B E u t ∧ va_F A st t
section Runs
variable {p : Program} {l : Launch} {e : Env} {R : Room} {s : State} {m : MethodId} {args : Array Value} {below : List Frame} {meth : Method} {c : Code} {H : Heap} {locs : List Loc} {cells slots : Nat}
variable {y : MethodName} {bytes cc : ByteArray} {maxL nL mc ms n index : Nat} {ret : Option FieldType} {ws : List Cond} {rm : Room} {Pc : Array Value → State → Prop} {Qc : Array Value → State → Outcome → State → Prop} {XC : String → State → State → Prop} {free : Addr → Prop} {Ts : List Cond} {own C : String} {b : Addr} {As rest : List Value} {g : JFrame}
theorem vx_callBack (cb : CallB R s args own index y bytes maxL ret ws rm mc ms n) (hM : vx_Met l y ws rm Pc Qc XC mc ms free) (hbl : FrameBlind Pc) : vx_Back l R p e below s args y 3 8 (PreOf R mc ms Pc) (PostOf Qc mc ms free) (vx_Post XC mc ms free) := by
  obtain ⟨hrc, hrs, hfr, hlo, hws, hcw, -, hini, -⟩ := cb
  exact vx_back (bytes := bytes) (maxL := maxL) (ret := ret) hM hbl hrc hrs hfr hlo hws hcw (fun a' U hW => word_at hW (Or.inl (by first | rfl | simp [Cond.onTables, Cond.keeps, Cond.steady])) hini)
theorem vx_runV (S : CallFix p m c cc nL s args Ts own) (hM : vx_Met l y ws rm Pc Qc XC mc ms free) (cw : CallW R s args own C index y bytes maxL ret ws rm mc ms n) (hp : PreV s H C b Pc As)
    (hg : g.method = m) (hn : As.length = n) (hsize : g.locals.size = nL) (hstack : g.stack = As.reverse ++ .ref b :: rest) (hW : 2 * g.monitorRoom + (rest.map fun v => v.category).sum ≤ 8) (hdg : decode cc g.pc = .ok (.invokevirtual index, 3)) (hf : cells + mc ≤ R.cells ∧ slots + ms ≤ R.slots) :
    vx_Run p l e R s m args below meth c H locs cells slots mc ms g rest (Qc (Value.ref b :: As).toArray) XC free := by
  have hK : vx_Back l R p e below s args y 3 8 (PreOf R mc ms Pc) (PostOf Qc mc ms free) (vx_Post XC mc ms free) := vx_callBack cw.1 hM hp.1
  obtain ⟨⟨-, -, -, -, -, -, hcode, -, hy, hlen, hl⟩, hin, hse⟩ := cw
  obtain ⟨hx, hb, hml, ho, -⟩ := S
  obtain ⟨-, ⟨cellB, hcB, hoB, hclB⟩, hPc⟩ := hp
  intro T hT X
  rcases vx_callV X hx (C := C) (bytes := bytes) (maxL := maxL) (ret := ret) ho hl hin hse hcode hy hK (by rw [hT]; exact hcB) hoB hclB hg (hsize.trans hml.symm) (argsL := As) (rest := rest) (fun sig h => hn.trans (hlen sig h)) hstack hW (by rw [hb]; exact hdg)
    (fun vm₁ hW₁ => ⟨hf.1, hf.2, hPc (T.setVm vm₁) hT hW₁⟩) with ⟨v, vm₁, ⟨U', l2, c2, s2⟩, hW₁, X', ⟨g', mk, t, L, e1, e2, hq, h1, hL, h2, h3⟩, st⟩ | ⟨q, vm₁, ⟨U', l2, c2, s2⟩, hW₁, X', ⟨g', mk, t, L, E, ce, e1, e2, hq, hce, hcv, hcl, h1, hL, h2, h3⟩, st⟩
  · dsimp only [Pt.U, Pt.locs, Pt.cells, Pt.slots] at X' e1 e2 h1 h2 h3 st
    subst h1; subst h2; subst h3
    exact Or.inl ⟨v, (T.setVm vm₁).calling g' mk (Value.ref b :: As).toArray, t, U', L, hT, X', hL, e1, e2, hq, st⟩
  · dsimp only [Pt.U, Pt.locs, Pt.cells, Pt.slots] at X' e1 e2 h1 h2 h3 st hcl
    subst h1; subst h2; subst h3
    exact Or.inr ⟨q, (T.setVm vm₁).calling g' mk (Value.ref b :: As).toArray, t, U', L, E, ce, hT, X', hL, e1, e2, hq, hce, hcv, vx_cls hW₁ hcl, st⟩
theorem vx_runS (S : CallFix p m c cc nL s args Ts own) (hM : vx_Met l y ws rm Pc Qc XC mc ms free) (cw : CallB R s args own index y bytes maxL ret ws rm mc ms n ∧ (Cond.static y).before args s = true) (hp : PreS s H Pc As)
    (hg : g.method = m) (hn : As.length = n) (hsize : g.locals.size = nL) (hstack : g.stack = As.reverse ++ rest) (hW : 2 * g.monitorRoom + (rest.map fun v => v.category).sum ≤ 8) (hdg : decode cc g.pc = .ok (.invokestatic index, 3)) (hf : cells + mc ≤ R.cells ∧ slots + ms ≤ R.slots) :
    vx_Run p l e R s m args below meth c H locs cells slots mc ms g rest (Qc As.toArray) XC free := by
  have hK : vx_Back l R p e below s args y 3 8 (PreOf R mc ms Pc) (PostOf Qc mc ms free) (vx_Post XC mc ms free) := vx_callBack cw.1 hM hp.1
  obtain ⟨⟨-, -, -, -, -, -, hcode, hini, hy, hlen, hl⟩, hstt⟩ := cw
  obtain ⟨hx, hb, hml, ho, -⟩ := S
  intro T hT X
  rcases vx_callS X hx (bytes := bytes) (maxL := maxL) (ret := ret) ho hl hstt hini hcode hy hK hg (hsize.trans hml.symm) (argsL := As) (rest := rest) (fun sig h => hn.trans (hlen sig h)) hstack hW (by rw [hb]; exact hdg)
    (fun vm₁ hW₁ => ⟨hf.1, hf.2, hp.2 (T.setVm vm₁) hT hW₁⟩) with ⟨v, vm₁, ⟨U', l2, c2, s2⟩, hW₁, X', ⟨g', mk, t, L, e1, e2, hq, h1, hL, h2, h3⟩, st⟩ | ⟨q, vm₁, ⟨U', l2, c2, s2⟩, hW₁, X', ⟨g', mk, t, L, E, ce, e1, e2, hq, hce, hcv, hcl, h1, hL, h2, h3⟩, st⟩
  · dsimp only [Pt.U, Pt.locs, Pt.cells, Pt.slots] at X' e1 e2 h1 h2 h3 st
    subst h1; subst h2; subst h3
    exact Or.inl ⟨v, (T.setVm vm₁).calling g' mk As.toArray, t, U', L, hT, X', hL, e1, e2, hq, st⟩
  · dsimp only [Pt.U, Pt.locs, Pt.cells, Pt.slots] at X' e1 e2 h1 h2 h3 st hcl
    subst h1; subst h2; subst h3
    exact Or.inr ⟨q, (T.setVm vm₁).calling g' mk As.toArray, t, U', L, E, ce, hT, X', hL, e1, e2, hq, hce, hcv, vx_cls hW₁ hcl, st⟩
end Runs
section Rows
variable {p : Program} {l : Launch} {e : Env} {R : Room} {s : State} {m : MethodId} {args : Array Value} {below : List Frame} {meth : Method} {c : Code} {H : Heap} {locs : List Loc} {cells slots : Nat} {Q : State → Prop}
variable {mc ms : Nat} {free : Addr → Prop} {A0 A1 : Nat → Prop} {H0 : Heap} {a : Array Value} {pc : Nat} {ls : Array Slot} {st0 rest : List Value}
theorem vx_keep {st₀ t T' : State} {L : List Loc} (h0 : st₀.heap = H) (e1 : T'.heap = t.heap) (hS : va_S A0 H0 H locs) (hA : ∀ q, q < H.size → A1 q → A0 q) (hf : ∀ q, free q → A0 q) (hL : ∀ q ∈ L, free q.base) (hF : va_F A1 st₀ t) :
    H.size ≤ T'.heap.size ∧ (∀ q : Nat, q < H.size → ¬ A1 q → T'.heap[q]? = H[q]?) ∧ va_S A0 H0 T'.heap (locs ++ L) := by
  obtain ⟨hz, hk⟩ := hF
  rw [h0] at hz hk
  exact ⟨by rw [e1]; exact hz, fun q h1 h2 => by rw [e1]; exact hk q h1 h2,
    ⟨Nat.le_trans hS.1 (by rw [e1]; exact hz), fun q h1 h2 => by rw [e1, hk q (Nat.lt_of_lt_of_le h1 hS.1) (fun z => h2 (hA q (Nat.lt_of_lt_of_le h1 hS.1) z))]; exact hS.2.1 q h1 h2, fun q hq => by
      rcases List.mem_append.mp hq with h | h
      · exact hS.2.2 q h
      · exact hf _ (hL q h)⟩⟩
theorem vx_calli {S SX : Type} {post : Int32 → S → Prop} {px : SX → Prop} {B : S → State → Prop} {BX : String → SX → State → Prop} {AX : Nat → Prop} (hr : vx_Run p l e R s m args below meth c H locs cells slots mc ms (F0 m pc ls st0) rest (va_Qi post B A1 a) (vx_X px BX AX) free) (hS : va_S A0 H0 H locs) (hA : ∀ q, q < H.size → A1 q → A0 q) (hf : ∀ q, free q → A0 q) (hAX : ∀ q, q < H.size → AX q → A0 q)
    (kx : ∀ (E : String) (ce : Cell) (q9 : Addr) (u : SX) (t : State) (H1 : Heap) (locs1 : List Loc), t.heap = H1 → s.vm.Alike t.vm → px u → BX E u t → H.size ≤ H1.size → (∀ q : Nat, q < H.size → ¬ AX q → H1[q]? = H[q]?) → va_S A0 H0 H1 locs1 → H1[q9]? = some ce → ce.vm = .none → s.vm.findClass E = some ce.cls → vx_W p l e R s m args below meth c H1 locs1 (cells + mc) (slots + ms) Q (F0 m pc ls rest) q9)
    (kk : ∀ (r : Int32) (u : S) (t : State) (H1 : Heap) (locs1 : List Loc), t.heap = H1 → s.vm.Alike t.vm → post r u → B u t → H.size ≤ H1.size → (∀ q : Nat, q < H.size → ¬ A1 q → H1[q]? = H[q]?) → va_S A0 H0 H1 locs1 → W p l e R s m args below meth c H1 locs1 (cells + mc) (slots + ms) Q (F0 m (pc + 3) ls (.int r :: rest))) : W p l e R s m args below meth c H locs cells slots Q (F0 m pc ls st0) := by
  intro T hT X
  rcases hr T hT X with ⟨v, st₀, t, T', L, h0, X', hL, e1, e2, ⟨⟨r, u, hv, hp, hb⟩, hF⟩, st⟩ | ⟨q, st₀, t, T', L, E, ce, h0, X', hL, e1, e2, ⟨u, hp, hb, hF⟩, hce, hcv, hcl, st⟩
  · cases hv
    obtain ⟨k1, k2, k3⟩ := vx_keep h0 e1 hS hA hf hL hF
    obtain ⟨t2, a1, b1⟩ := kk r u t T'.heap (locs ++ L) e1.symm (by rw [← e2]; exact X'.warmed.alike) hp hb k1 k2 k3 T' rfl X'
    exact ⟨t2, st t2 a1, b1⟩
  · obtain ⟨k1, k2, k3⟩ := vx_keep h0 e1 hS hAX hf hL hF
    obtain ⟨t2, a1, b1⟩ := kx E ce q u t T'.heap (locs ++ L) e1.symm (by rw [← e2]; exact X'.warmed.alike) hp hb k1 k2 k3 (by rw [e1]; exact hce) hcv hcl T' rfl X'
    exact ⟨t2, st.trans a1, b1⟩
theorem vx_calll {S SX : Type} {post : Int64 → S → Prop} {px : SX → Prop} {B : S → State → Prop} {BX : String → SX → State → Prop} {AX : Nat → Prop} (hr : vx_Run p l e R s m args below meth c H locs cells slots mc ms (F0 m pc ls st0) rest (va_Ql post B A1 a) (vx_X px BX AX) free) (hS : va_S A0 H0 H locs) (hA : ∀ q, q < H.size → A1 q → A0 q) (hf : ∀ q, free q → A0 q) (hAX : ∀ q, q < H.size → AX q → A0 q)
    (kx : ∀ (E : String) (ce : Cell) (q9 : Addr) (u : SX) (t : State) (H1 : Heap) (locs1 : List Loc), t.heap = H1 → s.vm.Alike t.vm → px u → BX E u t → H.size ≤ H1.size → (∀ q : Nat, q < H.size → ¬ AX q → H1[q]? = H[q]?) → va_S A0 H0 H1 locs1 → H1[q9]? = some ce → ce.vm = .none → s.vm.findClass E = some ce.cls → vx_W p l e R s m args below meth c H1 locs1 (cells + mc) (slots + ms) Q (F0 m pc ls rest) q9)
    (kk : ∀ (r : Int64) (u : S) (t : State) (H1 : Heap) (locs1 : List Loc), t.heap = H1 → s.vm.Alike t.vm → post r u → B u t → H.size ≤ H1.size → (∀ q : Nat, q < H.size → ¬ A1 q → H1[q]? = H[q]?) → va_S A0 H0 H1 locs1 → W p l e R s m args below meth c H1 locs1 (cells + mc) (slots + ms) Q (F0 m (pc + 3) ls (.long r :: rest))) : W p l e R s m args below meth c H locs cells slots Q (F0 m pc ls st0) := by
  intro T hT X
  rcases hr T hT X with ⟨v, st₀, t, T', L, h0, X', hL, e1, e2, ⟨⟨r, u, hv, hp, hb⟩, hF⟩, st⟩ | ⟨q, st₀, t, T', L, E, ce, h0, X', hL, e1, e2, ⟨u, hp, hb, hF⟩, hce, hcv, hcl, st⟩
  · cases hv
    obtain ⟨k1, k2, k3⟩ := vx_keep h0 e1 hS hA hf hL hF
    obtain ⟨t2, a1, b1⟩ := kk r u t T'.heap (locs ++ L) e1.symm (by rw [← e2]; exact X'.warmed.alike) hp hb k1 k2 k3 T' rfl X'
    exact ⟨t2, st t2 a1, b1⟩
  · obtain ⟨k1, k2, k3⟩ := vx_keep h0 e1 hS hAX hf hL hF
    obtain ⟨t2, a1, b1⟩ := kx E ce q u t T'.heap (locs ++ L) e1.symm (by rw [← e2]; exact X'.warmed.alike) hp hb k1 k2 k3 (by rw [e1]; exact hce) hcv hcl T' rfl X'
    exact ⟨t2, st.trans a1, b1⟩
theorem vx_callf {S SX : Type} {post : UInt32 → S → Prop} {px : SX → Prop} {B : S → State → Prop} {BX : String → SX → State → Prop} {AX : Nat → Prop} (hr : vx_Run p l e R s m args below meth c H locs cells slots mc ms (F0 m pc ls st0) rest (va_Qf post B A1 a) (vx_X px BX AX) free) (hS : va_S A0 H0 H locs) (hA : ∀ q, q < H.size → A1 q → A0 q) (hf : ∀ q, free q → A0 q) (hAX : ∀ q, q < H.size → AX q → A0 q)
    (kx : ∀ (E : String) (ce : Cell) (q9 : Addr) (u : SX) (t : State) (H1 : Heap) (locs1 : List Loc), t.heap = H1 → s.vm.Alike t.vm → px u → BX E u t → H.size ≤ H1.size → (∀ q : Nat, q < H.size → ¬ AX q → H1[q]? = H[q]?) → va_S A0 H0 H1 locs1 → H1[q9]? = some ce → ce.vm = .none → s.vm.findClass E = some ce.cls → vx_W p l e R s m args below meth c H1 locs1 (cells + mc) (slots + ms) Q (F0 m pc ls rest) q9)
    (kk : ∀ (r : UInt32) (u : S) (t : State) (H1 : Heap) (locs1 : List Loc), t.heap = H1 → s.vm.Alike t.vm → post r u → B u t → H.size ≤ H1.size → (∀ q : Nat, q < H.size → ¬ A1 q → H1[q]? = H[q]?) → va_S A0 H0 H1 locs1 → W p l e R s m args below meth c H1 locs1 (cells + mc) (slots + ms) Q (F0 m (pc + 3) ls (.float r :: rest))) : W p l e R s m args below meth c H locs cells slots Q (F0 m pc ls st0) := by
  intro T hT X
  rcases hr T hT X with ⟨v, st₀, t, T', L, h0, X', hL, e1, e2, ⟨⟨r, u, hv, hp, hb⟩, hF⟩, st⟩ | ⟨q, st₀, t, T', L, E, ce, h0, X', hL, e1, e2, ⟨u, hp, hb, hF⟩, hce, hcv, hcl, st⟩
  · cases hv
    obtain ⟨k1, k2, k3⟩ := vx_keep h0 e1 hS hA hf hL hF
    obtain ⟨t2, a1, b1⟩ := kk r u t T'.heap (locs ++ L) e1.symm (by rw [← e2]; exact X'.warmed.alike) hp hb k1 k2 k3 T' rfl X'
    exact ⟨t2, st t2 a1, b1⟩
  · obtain ⟨k1, k2, k3⟩ := vx_keep h0 e1 hS hAX hf hL hF
    obtain ⟨t2, a1, b1⟩ := kx E ce q u t T'.heap (locs ++ L) e1.symm (by rw [← e2]; exact X'.warmed.alike) hp hb k1 k2 k3 (by rw [e1]; exact hce) hcv hcl T' rfl X'
    exact ⟨t2, st.trans a1, b1⟩
theorem vx_calld {S SX : Type} {post : UInt64 → S → Prop} {px : SX → Prop} {B : S → State → Prop} {BX : String → SX → State → Prop} {AX : Nat → Prop} (hr : vx_Run p l e R s m args below meth c H locs cells slots mc ms (F0 m pc ls st0) rest (va_Qd post B A1 a) (vx_X px BX AX) free) (hS : va_S A0 H0 H locs) (hA : ∀ q, q < H.size → A1 q → A0 q) (hf : ∀ q, free q → A0 q) (hAX : ∀ q, q < H.size → AX q → A0 q)
    (kx : ∀ (E : String) (ce : Cell) (q9 : Addr) (u : SX) (t : State) (H1 : Heap) (locs1 : List Loc), t.heap = H1 → s.vm.Alike t.vm → px u → BX E u t → H.size ≤ H1.size → (∀ q : Nat, q < H.size → ¬ AX q → H1[q]? = H[q]?) → va_S A0 H0 H1 locs1 → H1[q9]? = some ce → ce.vm = .none → s.vm.findClass E = some ce.cls → vx_W p l e R s m args below meth c H1 locs1 (cells + mc) (slots + ms) Q (F0 m pc ls rest) q9)
    (kk : ∀ (r : UInt64) (u : S) (t : State) (H1 : Heap) (locs1 : List Loc), t.heap = H1 → s.vm.Alike t.vm → post r u → B u t → H.size ≤ H1.size → (∀ q : Nat, q < H.size → ¬ A1 q → H1[q]? = H[q]?) → va_S A0 H0 H1 locs1 → W p l e R s m args below meth c H1 locs1 (cells + mc) (slots + ms) Q (F0 m (pc + 3) ls (.double r :: rest))) : W p l e R s m args below meth c H locs cells slots Q (F0 m pc ls st0) := by
  intro T hT X
  rcases hr T hT X with ⟨v, st₀, t, T', L, h0, X', hL, e1, e2, ⟨⟨r, u, hv, hp, hb⟩, hF⟩, st⟩ | ⟨q, st₀, t, T', L, E, ce, h0, X', hL, e1, e2, ⟨u, hp, hb, hF⟩, hce, hcv, hcl, st⟩
  · cases hv
    obtain ⟨k1, k2, k3⟩ := vx_keep h0 e1 hS hA hf hL hF
    obtain ⟨t2, a1, b1⟩ := kk r u t T'.heap (locs ++ L) e1.symm (by rw [← e2]; exact X'.warmed.alike) hp hb k1 k2 k3 T' rfl X'
    exact ⟨t2, st t2 a1, b1⟩
  · obtain ⟨k1, k2, k3⟩ := vx_keep h0 e1 hS hAX hf hL hF
    obtain ⟨t2, a1, b1⟩ := kx E ce q u t T'.heap (locs ++ L) e1.symm (by rw [← e2]; exact X'.warmed.alike) hp hb k1 k2 k3 (by rw [e1]; exact hce) hcv hcl T' rfl X'
    exact ⟨t2, st.trans a1, b1⟩
theorem vx_callv {S SX : Type} {post : S → Prop} {px : SX → Prop} {B : S → State → Prop} {BX : String → SX → State → Prop} {AX : Nat → Prop} (hr : vx_Run p l e R s m args below meth c H locs cells slots mc ms (F0 m pc ls st0) rest (va_Qv post B A1 a) (vx_X px BX AX) free) (hS : va_S A0 H0 H locs) (hA : ∀ q, q < H.size → A1 q → A0 q) (hf : ∀ q, free q → A0 q) (hAX : ∀ q, q < H.size → AX q → A0 q)
    (kx : ∀ (E : String) (ce : Cell) (q9 : Addr) (u : SX) (t : State) (H1 : Heap) (locs1 : List Loc), t.heap = H1 → s.vm.Alike t.vm → px u → BX E u t → H.size ≤ H1.size → (∀ q : Nat, q < H.size → ¬ AX q → H1[q]? = H[q]?) → va_S A0 H0 H1 locs1 → H1[q9]? = some ce → ce.vm = .none → s.vm.findClass E = some ce.cls → vx_W p l e R s m args below meth c H1 locs1 (cells + mc) (slots + ms) Q (F0 m pc ls rest) q9)
    (kk : ∀ (u : S) (t : State) (H1 : Heap) (locs1 : List Loc), t.heap = H1 → s.vm.Alike t.vm → post u → B u t → H.size ≤ H1.size → (∀ q : Nat, q < H.size → ¬ A1 q → H1[q]? = H[q]?) → va_S A0 H0 H1 locs1 → W p l e R s m args below meth c H1 locs1 (cells + mc) (slots + ms) Q (F0 m (pc + 3) ls (rest))) : W p l e R s m args below meth c H locs cells slots Q (F0 m pc ls st0) := by
  intro T hT X
  rcases hr T hT X with ⟨v, st₀, t, T', L, h0, X', hL, e1, e2, ⟨⟨u, hv, hp, hb⟩, hF⟩, st⟩ | ⟨q, st₀, t, T', L, E, ce, h0, X', hL, e1, e2, ⟨u, hp, hb, hF⟩, hce, hcv, hcl, st⟩
  · cases hv
    obtain ⟨k1, k2, k3⟩ := vx_keep h0 e1 hS hA hf hL hF
    obtain ⟨t2, a1, b1⟩ := kk u t T'.heap (locs ++ L) e1.symm (by rw [← e2]; exact X'.warmed.alike) hp hb k1 k2 k3 T' rfl X'
    exact ⟨t2, st t2 a1, b1⟩
  · obtain ⟨k1, k2, k3⟩ := vx_keep h0 e1 hS hAX hf hL hF
    obtain ⟨t2, a1, b1⟩ := kx E ce q u t T'.heap (locs ++ L) e1.symm (by rw [← e2]; exact X'.warmed.alike) hp hb k1 k2 k3 (by rw [e1]; exact hce) hcv hcl T' rfl X'
    exact ⟨t2, st.trans a1, b1⟩
/-- caught by the row x of this method's table; the rows ahead don't take it -/
theorem vx_catch {own name : String} {E : String} {ce : Cell} {q : Addr} (hown : s.vm.findClass own = some m.cls) (pre : List ExceptionTableEntry) (x : ExceptionTableEntry) (suf : List ExceptionTableEntry) (hsplit : c.exceptionTable.toList = pre ++ x :: suf)
    (hpass : ∀ z ∈ pre, covers z pc = false ∨ (z.catchType ≠ 0 ∧ ∃ nm : String, (Cond.classLink own z.catchType nm).before args s = true ∧ va_Nc E nm s)) (hx : covers x pc = true) (h0 : x.catchType ≠ 0)
    (hlink : (Cond.classLink own x.catchType name).before args s = true) (hcast : (Cond.castable E name).before args s = true) (hcell : H[q]? = some ce) (hv : ce.vm = .none) (hcl : s.vm.findClass E = some ce.cls)
    (kk : W p l e R s m args below meth c H locs cells slots Q (F0 m x.handlerPc ls [.ref q])) : vx_W p l e R s m args below meth c H locs cells slots Q (F0 m pc ls rest) q := by
  intro T hT X
  have hpl : e.platform.magicAccessors = ({} : Platform).magicAccessors := by rw [X.admits.platform]
  obtain ⟨c3, c4, hc3, hc4, hasg⟩ := Cond.castable_spec hcast
  cases Option.some.inj (hc3.symm.trans hcl)
  obtain ⟨c5, hc5, hcl5⟩ := Cond.classLink_spec hown hlink e.platform hpl
  cases Option.some.inj (hc4.symm.trans hc5)
  obtain ⟨vm', X', st⟩ := X.thenCaughtThrough q (g := F0 m pc ls rest) rfl (Steps.refl _) (by rw [hT]; exact hcell) (by rw [hv]; rfl) (by obtain ⟨k9, h9, -⟩ := Vm.findClass_spec hcl; exact ⟨k9, h9⟩) pre x suf hsplit
    (fun z hz => by
      rcases hpass z hz with h | ⟨hz0, nm, hl1, hn1⟩
      · exact Or.inl h
      · obtain ⟨c6, hc6, hcl6⟩ := Cond.classLink_spec hown hl1 e.platform hpl
        obtain ⟨a8, b8, h1, h2, h3⟩ := hn1
        cases Option.some.inj (h1.symm.trans hcl)
        cases Option.some.inj (h2.symm.trans hc6)
        exact Or.inr ⟨hz0, _, hcl6, h3⟩) hx (Or.inr ⟨h0, c4, hcl5, hasg⟩)
  obtain ⟨t, a1, b1⟩ := kk (T.setVm vm') hT X'
  exact ⟨t, st.trans a1, b1⟩
end Rows
section Ends
variable {p : Program} {l : Launch} {e : Env} {R : Room} {s : State} {m : MethodId} {args : Array Value} {below : List Frame} {meth : Method} {c : Code} {H : Heap} {locs : List Loc} {cells slots : Nat} {Q : State → Prop}
variable {mc ms : Nat} {free : Addr → Prop} {A0 A1 : Nat → Prop} {H0 : Heap} {a : Array Value} {ls : Array Slot} {st0 rest : List Value}
variable {Qc : Array Value → State → Outcome → State → Prop} {XC : String → State → State → Prop}
/-- what a body that may throw owes at its end -/
def vx_MQ (below : List Frame) (Qc : Array Value → State → Outcome → State → Prop) (XC : String → State → State → Prop) (a : Array Value) (s : State) (mc ms : Nat) (free : Addr → Prop) : State → Prop := fun t =>
  ∃ o, t.status = .running ∧ Ended t below o ∧ vx_Q Qc XC mc ms free a s o t
theorem vx_ret {g : JFrame} {mc ms : Nat} (k : W p l e R s m args below meth c H locs cells slots (MQ below Qc args s mc ms free) g) : W p l e R s m args below meth c H locs cells slots (vx_MQ below Qc XC args s mc ms free) g := by
  intro T hT X
  obtain ⟨t, a1, o, b1, b2, b3, b4⟩ := k T hT X
  exact ⟨t, a1, o, b1, b2, Or.inl ⟨b3, b4⟩⟩
/-- not caught here: it goes on to the caller -/
theorem vx_widen {g : JFrame} {q : Addr} {k n : Nat} (h1 : cells ≤ k) (h2 : slots ≤ n) (kk : vx_W p l e R s m args below meth c H locs k n Q g q) : vx_W p l e R s m args below meth c H locs cells slots Q g q := fun T hT X => kk T hT (stand_widen X h1 h2)
theorem vx_out {pc : Nat} {E : String} {ce : Cell} {q : Addr} {mc ms : Nat} (hout : ∀ x ∈ c.exceptionTable.toList, covers x pc = false) (hlocks : meth.locks = false) (hcell : H[q]? = some ce) (hv : ce.vm = .none) (hcl : s.vm.findClass E = some ce.cls)
    (hx : ∀ t : State, t.heap = H → s.vm.Alike t.vm → XC E s t) (hf : ∀ z ∈ locs, free z.base) (hc : cells ≤ mc) (hs : slots ≤ ms) :
    vx_W p l e R s m args below meth c H locs cells slots (vx_MQ below Qc XC args s mc ms free) (F0 m pc ls rest) q := by
  intro T hT X
  obtain ⟨st1, hrun, hend, hW, hsm⟩ := X.leaveThrown q (g := F0 m pc ls rest) rfl rfl rfl hout hlocks
  have hcell9 : (T.setFrames (.throwing q :: below)).heap[q]? = some ce := by
    show T.heap[q]? = some ce
    rw [hT]; exact hcell
  exact ⟨_, st1, .threw q, hrun, hend, Or.inr ⟨q, rfl, E, ce, locs, hx _ hT hW.alike, hcell9, hv, hcl, hW, hsm.mono hc hs, hf⟩⟩
theorem vx_frame {U : State} {k n : Nat} (h : s.sameButNew ({ U with vm := s.vm } : State) locs k n) : s.heap.size ≤ U.heap.size ∧ ∀ q : Nat, q < s.heap.size → (∀ z ∈ locs, z.base ≠ q) → U.heap[q]? = s.heap[q]? := by
  obtain ⟨-, h2, -, -, -, h6⟩ := h
  refine ⟨h2, fun q hq hz => ?_⟩
  obtain ⟨c9, e1, e2, e3, e4⟩ := h6 q _ (Array.getElem?_eq_getElem hq)
  have hs : c9.slots = (s.heap[q]).slots := Array.ext_getElem? fun i => e4 i fun hm => hz _ hm rfl
  have h9 : c9 = s.heap[q] := by
    rw [hs] at e2
    exact e2
  have e5 : U.heap[q]? = some c9 := e1
  rw [e5, h9, Array.getElem?_eq_getElem hq]
/-- the words of a throw but the four that speak of the heap -/
def vx_no (w : Cond) : Bool := decide (w ≠ .isRef (.static Bundle.tN "UNASSIGNED_STACK" Bundle.steD)) && decide (w ≠ .isRef (.static Bundle.tN "SUPPRESSED_SENTINEL" Bundle.listD)) && decide (w ≠ .laysStatic Bundle.tN "UNASSIGNED_STACK" Bundle.steD) && decide (w ≠ .laysStatic Bundle.tN "SUPPRESSED_SENTINEL" Bundle.listD)
def vx_at0 (own : String) (ic : Nat) (X : String) (names : List String) : List Cond := (Bundle.ownAtoms0 own ic X names).filter vx_no
def vx_atS (own : String) (ic : Nat) (X : String) (names : List String) : List Cond := (Bundle.ownAtoms own ic X names).filter vx_no
/-- a word that the tables alone decide, or a good one -/
def vx_ot (w : Cond) : Bool := w.onTables || goodWord w
theorem vx_ot_at {args a' : Array Value} {s U : State} {w : Cond} (hW : s.WarmedH U.vm) (hvm : s.vm = U.vm) (hg : vx_ot w = true) (h : w.before args s = true) : w.before a' U = true := by
  simp only [vx_ot, Bool.or_eq_true] at hg
  rcases hg with hg | hg
  · exact va_tabs hg hvm h
  · exact word_at hW (good_of_word hg) h
/-- a list's words: the good ones out of the method's own list, the others by premises of their own -/
theorem vx_hat {args : Array Value} {s : State} {L B : List Cond} (h1 : ∀ w ∈ L.filter goodWord, w.before args s = true) (h2 : ∀ w ∈ L.filter (fun w => !goodWord w), w ∈ B) (h3 : ∀ w ∈ B, w.before args s = true) : ∀ w ∈ L, w.before args s = true := by
  intro w hw
  by_cases g : goodWord w = true
  · exact h1 w (List.mem_filter.mpr ⟨hw, g⟩)
  · refine h3 w (h2 w (List.mem_filter.mpr ⟨hw, ?_⟩))
    show (!goodWord w) = true
    cases hgw : goodWord w
    · rfl
    · exact absurd hgw g
theorem vx_c {args : Array Value} {s : State} {w : Cond} {B : List Cond} (h : w.before args s = true) (t : ∀ w ∈ B, w.before args s = true) : ∀ w' ∈ w :: B, w'.before args s = true := fun w' h' => (List.mem_cons.mp h').elim (fun e => by rw [e]; exact h) (t w')
theorem vx_n {args : Array Value} {s : State} : ∀ w ∈ ([] : List Cond), w.before args s = true := fun _ h => nomatch h
theorem vx_own {args : Array Value} {s : State} {L : List Cond} (h1 : ∀ w ∈ L.filter vx_no, w.before args s = true)
    (hU : (Cond.isRef (.static Bundle.tN "UNASSIGNED_STACK" Bundle.steD)).before args s = true) (hN : (Cond.isRef (.static Bundle.tN "SUPPRESSED_SENTINEL" Bundle.listD)).before args s = true)
    (lU : (Cond.laysStatic Bundle.tN "UNASSIGNED_STACK" Bundle.steD).before args s = true) (lN : (Cond.laysStatic Bundle.tN "SUPPRESSED_SENTINEL" Bundle.listD).before args s = true) : ∀ w ∈ L, w.before args s = true := by
  intro w hw
  by_cases e1 : w = .isRef (.static Bundle.tN "UNASSIGNED_STACK" Bundle.steD)
  · rw [e1]; exact hU
  · by_cases e2 : w = .isRef (.static Bundle.tN "SUPPRESSED_SENTINEL" Bundle.listD)
    · rw [e2]; exact hN
    · by_cases e3 : w = .laysStatic Bundle.tN "UNASSIGNED_STACK" Bundle.steD
      · rw [e3]; exact lU
      · by_cases e4 : w = .laysStatic Bundle.tN "SUPPRESSED_SENTINEL" Bundle.listD
        · rw [e4]; exact lN
        · exact h1 w (List.mem_filter.mpr ⟨hw, by unfold vx_no; rw [decide_eq_true e1, decide_eq_true e2, decide_eq_true e3, decide_eq_true e4]; rfl⟩)
/-- where a static field lies, its class's statics cell in H -/
def vx_L (C n d : String) (A : Nat → Prop) (U : State) (H : Heap) : Prop := ∃ (c : ClassId) (k : Class) (i : Nat) (f : Field) (a : Nat) (cell : Cell), U.vm.findClass C = some c ∧ U.fieldFound? C n d = some (c, k, i, f) ∧ f.isStatic = true ∧ k.statics = some a ∧ H[a]? = some cell ∧ cell.vm.isStatics = true ∧ cell.cls = c ∧ f.slot < cell.slots.size ∧ k.staticTypes[f.slot]? = some f.type ∧ ¬ A a
theorem vx_L.moved {C n d : String} {A : Nat → Prop} {u U : State} {H : Heap} (hvm : u.vm.Alike U.vm) (h : vx_L C n d A u H) : vx_L C n d A U H := by
  obtain ⟨c, k, i, f, a, cell, h1, h2, h3, h4, h5, h6, h7, h8, h9, h10⟩ := h
  obtain ⟨k', hi', he⟩ := State.fieldFound?_setVm hvm h2
  exact ⟨c, k', i, f, a, cell, by rw [hvm.findClass]; exact h1, hi', h3, by rw [he]; exact h4, h5, h6, h7, h8, by rw [he]; exact h9, h10⟩
theorem vx_L.kept {C n d : String} {A : Nat → Prop} {U : State} {H H1 : Heap} (h : vx_L C n d A U H) (hq : ∀ a : Nat, a < H.size → ¬ A a → H1[a]? = H[a]?) : vx_L C n d A U H1 := by
  obtain ⟨c, k, i, f, a, cell, h1, h2, h3, h4, h5, h6, h7, h8, h9, h10⟩ := h
  exact ⟨c, k, i, f, a, cell, h1, h2, h3, h4, by rw [hq a (Array.getElem?_eq_some_iff.mp h5).1 h10]; exact h5, h6, h7, h8, h9, h10⟩
theorem vx_L.narrow {C n d : String} {A B : Nat → Prop} {U : State} {H : Heap} (h : vx_L C n d A U H) (hAB : ∀ q, B q → A q) : vx_L C n d B U H := by
  obtain ⟨c, k, i, f, a, cell, h1, h2, h3, h4, h5, h6, h7, h8, h9, h10⟩ := h
  exact ⟨c, k, i, f, a, cell, h1, h2, h3, h4, h5, h6, h7, h8, h9, fun z => h10 (hAB _ z)⟩
theorem vx_L.word {C n d : String} {A : Nat → Prop} {s : State} {args : Array Value} (h : vx_L C n d A s s.heap) : (Cond.laysStatic C n d).before args s = true := by
  obtain ⟨c, k, i, f, a, cell, h1, h2, h3, h4, h5, h6, h7, h8, h9, -⟩ := h
  show (Cond.laysStatic C n d).holds args s none s [] = true
  exact Cond.laysStatic_of h1 h2 h3 h4 h5 h6 h7 h8 h9
/-- .. and what it holds: null or some reference -/
def vx_Zq (C n d : String) (A : Nat → Prop) (U : State) (H : Heap) : Prop := va_Zq C n d A U H ∧ vx_L C n d A U H
theorem vx_Zq.moved {C n d : String} {A : Nat → Prop} {u U : State} {H : Heap} (hvm : u.vm.Alike U.vm) (h : vx_Zq C n d A u H) : vx_Zq C n d A U H := ⟨va_Zq.moved hvm h.1, vx_L.moved hvm h.2⟩
theorem vx_Zq.kept {C n d : String} {A : Nat → Prop} {U : State} {H H1 : Heap} (h : vx_Zq C n d A U H) (hq : ∀ a : Nat, a < H.size → ¬ A a → H1[a]? = H[a]?) : vx_Zq C n d A U H1 := ⟨va_Zq.kept h.1 hq, vx_L.kept h.2 hq⟩
theorem vx_Zq.narrow {C n d : String} {A B : Nat → Prop} {U : State} {H : Heap} (h : vx_Zq C n d A U H) (hAB : ∀ q, B q → A q) : vx_Zq C n d B U H := ⟨va_Zq.narrow h.1 hAB, vx_L.narrow h.2 hAB⟩
theorem vx_Zqof {args : Array Value} {s : State} {C n d : String} {A : Nat → Prop} (hl : (Cond.laysStatic C n d).before args s = true) (hini : (Cond.initialized C).before args s = true) (h : (Cond.isRef (.static C n d)).before args s = true) (hA : ∀ a : Nat, a < s.heap.size → ¬ A a) : vx_Zq C n d A s s.heap := by
  refine ⟨va_Zqof hl hini h hA, ?_⟩
  obtain ⟨c, k, i, f, a, cell, h1, h2, h3, h4, h5, h6, h7, h8, h9⟩ := Cond.laysStatic_spec hl
  exact ⟨c, k, i, f, a, cell, h1, h2, h3, h4, h5, h6, h7, h8, h9, hA a (Array.getElem?_eq_some_iff.mp h5).1⟩
theorem vx_isRef {C n d : String} {v : Value} {A : Nat → Prop} {s : State} {args : Array Value} (h : va_Z C n d v A s s.heap) (hv : v.isRef = true) : (Cond.isRef (.static C n d)).before args s = true := by
  obtain ⟨cf, kf, fi, f, a, cell, h1, h2, h3, h4, h5, h6, h7, -⟩ := h
  have he : (Term.static C n d).eval args s none [] s = some v := by
    simp [Term.eval, State.fieldNamed?, h1, h2, h4, h5, h6, h7]
  simp only [Cond.before, Cond.holds, Cond.value, he]
  cases v <;> simp_all [Value.isRef]
theorem vx_isRefq {C n d : String} {A : Nat → Prop} {s : State} {args : Array Value} (h : va_Zq C n d A s s.heap) : (Cond.isRef (.static C n d)).before args s = true := by
  rcases h with h | ⟨t, h⟩
  · exact vx_isRef h rfl
  · exact vx_isRef h rfl
/-- the same frame, seen from here: as if the method were called anew in this heap -/
theorem vx_rebase {T : State} (X : Stand p l e R s m args below meth c T locs cells slots) {R' : Room} (hf : R'.frames ≤ R.frames) (hl : R'.locals ≤ R.locals) (hc : cells + R'.cells ≤ R.cells) (hs : slots + R'.slots ≤ R.slots) :
    Stand p l e R' ((T.setVm s.vm).setFrames (.invoking m args :: below)) m args below meth c T [] 0 0 := by
  have htop : (T.setVm s.vm).topJava?.isSome := X.here.top
  have hF : ((T.setVm s.vm).setFrames (.invoking m args :: below)).frames = .invoking m args :: below := State.frames_setFrames _ (State.cur_lt_of_top htop)
  obtain ⟨g₀, hg0⟩ := Option.isSome_iff_exists.mp htop
  obtain ⟨r, hr⟩ := State.topJava?_eq_some.mp hg0
  have hl9 : e.platform.stackLimits (T.setVm s.vm).me = e.platform.stackLimits s.me := X.limits
  have hb9 : (T.setVm s.vm).me.stackBytes = s.me.stackBytes := X.bytes
  refine ⟨X.admits, X.cas, X.clock, hF, ?_, X.hears, X.method, X.code, X.here, X.tail, X.warmed, ?_, ?_, ?_⟩
  · have h := X.room
    have hU : ((T.setVm s.vm).setFrames (.invoking m args :: below)).localsInUse = s.localsInUse := by
      rw [State.localsInUse_invoking hF (meth := meth) (c := c) X.method X.code, State.localsInUse_invoking X.frames X.method X.code]
    simp only [State.hasRoom, Bool.and_eq_true, decide_eq_true_eq] at h ⊢
    obtain ⟨⟨⟨⟨h1, h2, h3, h4, h5, h6⟩, h7⟩, h8⟩, h9⟩ := h
    rw [X.frames, List.length_cons] at h2 h3
    have q1 := X.heapSize
    have q2 := X.used
    simp only [hF, hU, List.length_cons, State.stackLimits_setFrames, State.stackBytes_setFrames, hl9, hb9]
    refine ⟨⟨⟨⟨by omega, by omega, by omega, by omega, by omega, h6⟩, ?_⟩, ?_⟩, X.book⟩
    · show T.heap.size + R'.cells ≤ e.platform.maxCells
      omega
    · show T.slotsUsed + R'.slots ≤ e.platform.maxSlots
      omega
  · rw [State.stackLimits_setFrames]; rfl
  · rw [State.stackBytes_setFrames]; rfl
  · refine ⟨?_, Nat.le_refl _, Nat.le_refl _, ?_, ?_, fun a c9 h9 => ⟨c9, h9, rfl, rfl, fun _ _ => rfl⟩⟩
    · obtain ⟨t, ht, -⟩ := State.frames_cons hr
      show T.setVm s.vm = { ((T.setVm s.vm).setFrames (.invoking m args :: below)).setFrames (T.setVm s.vm).frames with heap := T.heap, slotsUsed := T.slotsUsed }
      rw [State.setFrames_setFrames, State.setFrames_self ht]
      rfl
    · show T.slotsUsed = T.slotsUsed + ((T.heap.toList.drop T.heap.size).map (·.slots.size)).sum
      rw [List.drop_eq_nil_of_le (Nat.le_of_eq Array.length_toList)]
      rfl
    · show ((T.heap.toList.drop T.heap.size).map (·.slots.size)).sum ≤ 0
      rw [List.drop_eq_nil_of_le (Nat.le_of_eq Array.length_toList)]
      exact Nat.le_refl _
/-- 'throw new E()': new; dup; invokespecial; athrow -/
theorem vx_throw0 {cc : ByteArray} {pc : Nat} (hexec : p.tables.exec = Jvm.exec) (hb : c.code = cc) (hl : l.stackTraces = false) {own cls : String} {names : List String} {ik ic mc ms : Nat} {A : Nat → Prop}
    (hown : s.vm.findClass own = some m.cls) (hcls : Bundle.fit cls = true) (hnames : ∀ n ∈ names, Bundle.fit n = true)
    (hk : (Cond.classLink own ik cls).before args s = true) (hini : (Cond.initialized cls).before args s = true) (hat : ∀ w ∈ vx_at0 own ic cls names, w.before args s = true)
    (hgood : ∀ w ∈ Cond.classLink own ik cls :: Cond.initialized cls :: vx_at0 own ic cls names, vx_ot w = true)
    (hU : vx_Zq Bundle.tN "UNASSIGNED_STACK" Bundle.steD A s s.heap) (hN : vx_Zq Bundle.tN "SUPPRESSED_SENTINEL" Bundle.listD A s s.heap) (hS : va_S A s.heap H locs) (hsize : ls.size = c.maxLocals)
    (d0 : decode cc pc = .ok (.new ik, 3)) (d3 : decode cc (pc + 3) = .ok (.dup, 1)) (d4 : decode cc (pc + 4) = .ok (.invokespecial ic, 3)) (d7 : decode cc (pc + 7) = .ok (.athrow, 1))
    (hout : ∀ x ∈ c.exceptionTable.toList, covers x (pc + 7) = false)
    (hRframes : names.length + 3 < R.frames) (hRlocals : (rest.map fun v => v.category).sum + (13 * (names.length + 1) + 42) ≤ R.locals) (hRcells : cells + 1 ≤ R.cells) (hRslots : slots + 6 ≤ R.slots) (hlocks : meth.locks = false)
    (hx : ∀ t : State, s.vm.Alike t.vm → H.size ≤ t.heap.size → (∀ q : Nat, q < H.size → t.heap[q]? = H[q]?) → XC cls s t)
    (hf : ∀ z ∈ locs, free z.base) (hc : cells + 1 ≤ mc) (hs : slots + 6 ≤ ms) :
    W p l e R s m args below meth c H locs cells slots (vx_MQ below Qc XC args s mc ms free) (F0 m pc ls rest) := by
  intro T hT X
  have htr : e.platform.stackTraces = false := (show e.platform.stackTraces = l.stackTraces by rw [X.admits.platform]).trans hl
  have Y := vx_rebase X (R' := { frames := R.frames, locals := R.locals, cells := 1, slots := 6 }) (Nat.le_refl _) (Nat.le_refl _) hRcells hRslots
  obtain ⟨s', hA⟩ : ∃ z, z = (T.setVm s.vm).setFrames (.invoking m args :: below) := ⟨_, rfl⟩
  rw [← hA] at Y
  have hvm : s'.vm = s.vm := by rw [hA]; rfl
  have hhp : s'.heap = H := by rw [hA]; exact hT
  have hW0 : s.WarmedH s'.vm := by rw [hvm]; exact State.WarmedH.refl s
  have hat' : ∀ w ∈ vx_at0 own ic cls names, w.before args s' = true := fun w hw => vx_ot_at hW0 hvm.symm (hgood w (List.mem_cons_of_mem _ (List.mem_cons_of_mem _ hw))) (hat w hw)
  have hk' : (Cond.classLink own ik cls).before args s' = true := vx_ot_at hW0 hvm.symm (hgood _ List.mem_cons_self) hk
  have hini' : (Cond.initialized cls).before args s' = true := vx_ot_at hW0 hvm.symm (hgood _ (List.mem_cons_of_mem _ List.mem_cons_self)) hini
  have hU' : vx_Zq Bundle.tN "UNASSIGNED_STACK" Bundle.steD A s' s'.heap := by rw [hhp]; exact vx_Zq.moved hW0.alike (hU.kept hS.2.1)
  have hN' : vx_Zq Bundle.tN "SUPPRESSED_SENTINEL" Bundle.listD A s' s'.heap := by rw [hhp]; exact vx_Zq.moved hW0.alike (hN.kept hS.2.1)
  have h : ∀ w ∈ Bundle.ownAtoms0 own ic cls names, w.before args s' = true := vx_own hat' (vx_isRefq hU'.1) (vx_isRefq hN'.1) hU'.2.word hN'.2.word
  have hown' : s'.vm.findClass own = some m.cls := by rw [hvm]; exact hown
  have hins : (Cond.instantiable cls 6).before args s' = true := h _ (by simp [Bundle.ownAtoms0])
  obtain ⟨vm₁, cX, kX, hfX, hkX, -, -, X₁, st1⟩ := Y.newCold hexec (own := own) (C := cls) (index := ik) (n := 6) hown' hk' hins hini'
    (g := F0 m pc ls rest) rfl (by rw [hb]; exact d0) (Nat.le_refl _) (Nat.le_refl _)
  generalize hT1 : (T.setVm vm₁).pushCell { cls := cX, slots := kX.instanceTypes.map defaultValue, vm := .none } = T1 at X₁ st1
  have hcat : (Value.ref T.heap.size).category = 1 := rfl
  have hcellA : T1.heap[T.heap.size]? = some (freshCell cX kX) := by rw [← hT1]; exact State.heap_pushCell_size _ _
  have d3' : decode c.code (pc + 3) = .ok (.dup, 1) := by rw [hb]; exact d3
  obtain ⟨U, hsteps, hrun, hend, hW, hsame, ce, hce, hO⟩ := X₁.ctorThrow0 hexec htr (own := own) (cls := cls) (names := names) (ic := ic) hown' hcls hnames h (fun x hx => nomatch hx) hfX hkX hcellA (by rw [hhp, hT]; exact Nat.le_refl _)
    (g := { method := m, pc := pc + 4, locals := ls, stack := .ref T.heap.size :: .ref T.heap.size :: rest, locked := none }) rfl hsize rfl rfl (rest := rest) rfl
    (by rw [hb]; exact d4) (by rw [hb]; exact d7) hout hRframes (by simp only [List.map_cons, List.sum_cons, hcat]; omega) hlocks
  obtain ⟨f1, f2⟩ := vx_frame hsame
  rw [hhp] at f1 f2
  have hWs : s.WarmedH U.vm := State.WarmedH.trans hW0 hW
  have hcl : s.vm.findClass cls = some ce.cls := by
    have h9 := hO.cls
    rw [hvm] at h9
    exact h9
  have hall : s.sameButNew ({ U with vm := s.vm } : State) locs mc ms := by
    subst hA
    obtain ⟨e1, e2⟩ := hsame
    rw [State.setFrames_setFrames] at e1
    have h2 : (T.setVm s.vm).sameButNew ({ U with vm := s.vm } : State) [] (0 + 1) (0 + 6) := ⟨e1, e2⟩
    have h3 := X.same.trans h2
    rw [List.append_nil] at h3
    exact h3.mono hc hs
  refine ⟨U, ?_, .threw T.heap.size, hrun, hend, Or.inr ⟨T.heap.size, rfl, cls, ce, locs, hx U hWs.alike f1 (fun q hq => f2 q hq (fun z hz => nomatch hz)), hce, hO.vm, hcl, hWs, hall, hf⟩⟩
  refine st1 _ ?_
  show Steps p.tables e below (T1.setTop { method := m, pc := pc + 3, locals := ls, stack := .ref T.heap.size :: rest, locked := none }) _
  jvm_step X₁.here [X₁.here.top, hexec, d3', Value.category]
  exact hsteps
/-- 'throw new E("text")': new; dup; ldc; invokespecial; athrow -/
theorem vx_throwS {cc : ByteArray} {pc : Nat} (hexec : p.tables.exec = Jvm.exec) (hb : c.code = cc) (hl : l.stackTraces = false) {own cls text : String} {names : List String} {ik is ic mc ms sa : Nat} {A : Nat → Prop}
    (hown : s.vm.findClass own = some m.cls) (hcls : Bundle.fit cls = true) (hnames : ∀ n ∈ names, Bundle.fit n = true)
    (hk : (Cond.classLink own ik cls).before args s = true) (hini : (Cond.initialized cls).before args s = true) (hstr : vk_R own is text sa s) (hat : ∀ w ∈ vx_atS own ic cls names, w.before args s = true)
    (hgood : ∀ w ∈ Cond.classLink own ik cls :: Cond.initialized cls :: vx_atS own ic cls names, vx_ot w = true)
    (hU : vx_Zq Bundle.tN "UNASSIGNED_STACK" Bundle.steD A s s.heap) (hN : vx_Zq Bundle.tN "SUPPRESSED_SENTINEL" Bundle.listD A s s.heap) (hS : va_S A s.heap H locs) (hsize : ls.size = c.maxLocals)
    (d0 : decode cc pc = .ok (.new ik, 3)) (d3 : decode cc (pc + 3) = .ok (.dup, 1)) (d4 : decode cc (pc + 4) = .ok (.ldc is, 2)) (d6 : decode cc (pc + 6) = .ok (.invokespecial ic, 3)) (d9 : decode cc (pc + 9) = .ok (.athrow, 1))
    (hout : ∀ x ∈ c.exceptionTable.toList, covers x (pc + 9) = false)
    (hRframes : names.length + 3 < R.frames) (hRlocals : (rest.map fun v => v.category).sum + (13 * (names.length + 1) + 43) ≤ R.locals) (hRcells : cells + 1 ≤ R.cells) (hRslots : slots + 6 ≤ R.slots) (hlocks : meth.locks = false)
    (hx : ∀ t : State, s.vm.Alike t.vm → H.size ≤ t.heap.size → (∀ q : Nat, q < H.size → t.heap[q]? = H[q]?) → XC cls s t)
    (hf : ∀ z ∈ locs, free z.base) (hc : cells + 1 ≤ mc) (hs : slots + 6 ≤ ms) :
    W p l e R s m args below meth c H locs cells slots (vx_MQ below Qc XC args s mc ms free) (F0 m pc ls rest) := by
  intro T hT X
  have htr : e.platform.stackTraces = false := (show e.platform.stackTraces = l.stackTraces by rw [X.admits.platform]).trans hl
  have Y := vx_rebase X (R' := { frames := R.frames, locals := R.locals, cells := 1, slots := 6 }) (Nat.le_refl _) (Nat.le_refl _) hRcells hRslots
  obtain ⟨s', hA⟩ : ∃ z, z = (T.setVm s.vm).setFrames (.invoking m args :: below) := ⟨_, rfl⟩
  rw [← hA] at Y
  have hvm : s'.vm = s.vm := by rw [hA]; rfl
  have hhp : s'.heap = H := by rw [hA]; exact hT
  have hW0 : s.WarmedH s'.vm := by rw [hvm]; exact State.WarmedH.refl s
  have hat' : ∀ w ∈ vx_atS own ic cls names, w.before args s' = true := fun w hw => vx_ot_at hW0 hvm.symm (hgood w (List.mem_cons_of_mem _ (List.mem_cons_of_mem _ hw))) (hat w hw)
  have hk' : (Cond.classLink own ik cls).before args s' = true := vx_ot_at hW0 hvm.symm (hgood _ List.mem_cons_self) hk
  have hini' : (Cond.initialized cls).before args s' = true := vx_ot_at hW0 hvm.symm (hgood _ (List.mem_cons_of_mem _ List.mem_cons_self)) hini
  have hU' : vx_Zq Bundle.tN "UNASSIGNED_STACK" Bundle.steD A s' s'.heap := by rw [hhp]; exact vx_Zq.moved hW0.alike (hU.kept hS.2.1)
  have hN' : vx_Zq Bundle.tN "SUPPRESSED_SENTINEL" Bundle.listD A s' s'.heap := by rw [hhp]; exact vx_Zq.moved hW0.alike (hN.kept hS.2.1)
  have h : ∀ w ∈ Bundle.ownAtoms own ic cls names, w.before args s' = true := vx_own hat' (vx_isRefq hU'.1) (vx_isRefq hN'.1) hU'.2.word hN'.2.word
  have hown' : s'.vm.findClass own = some m.cls := by rw [hvm]; exact hown
  have hins : (Cond.instantiable cls 6).before args s' = true := h _ (by simp [Bundle.ownAtoms])
  obtain ⟨vm₁, cX, kX, hfX, hkX, -, -, X₁, st1⟩ := Y.newCold hexec (own := own) (C := cls) (index := ik) (n := 6) hown' hk' hins hini'
    (g := F0 m pc ls rest) rfl (by rw [hb]; exact d0) (Nat.le_refl _) (Nat.le_refl _)
  generalize hT1 : (T.setVm vm₁).pushCell { cls := cX, slots := kX.instanceTypes.map defaultValue, vm := .none } = T1 at X₁ st1
  have hcat : (Value.ref T.heap.size).category = 1 := rfl
  have hcellA : T1.heap[T.heap.size]? = some (freshCell cX kX) := by rw [← hT1]; exact State.heap_pushCell_size _ _
  have d3' : decode c.code (pc + 3) = .ok (.dup, 1) := by rw [hb]; exact d3
  have d4' : decode c.code (pc + 4) = .ok (.ldc is, 2) := by rw [hb]; exact d4
  have hstr' : vk_R own is text sa s' := vk_R.warm hW0 hstr
  obtain ⟨U, hsteps, hrun, hend, hW, hsame, ce, hce, hO⟩ := X₁.ctorThrowS hexec htr (own := own) (cls := cls) (names := names) (ic := ic) hown' hcls hnames h (fun x hx => nomatch hx) hfX hkX hcellA (by rw [hhp, hT]; exact Nat.le_refl _) (msg := .ref sa) rfl
    (g := { method := m, pc := pc + 6, locals := ls, stack := .ref sa :: .ref T.heap.size :: .ref T.heap.size :: rest, locked := none }) rfl hsize rfl rfl (rest := rest) rfl
    (by rw [hb]; exact d6) (by rw [hb]; exact d9) hout hRframes (by simp only [List.map_cons, List.sum_cons, hcat]; omega) hlocks
  obtain ⟨f1, f2⟩ := vx_frame hsame
  rw [hhp] at f1 f2
  have hWs : s.WarmedH U.vm := State.WarmedH.trans hW0 hW
  have hcl : s.vm.findClass cls = some ce.cls := by
    have h9 := hO.cls
    rw [hvm] at h9
    exact h9
  have hall : s.sameButNew ({ U with vm := s.vm } : State) locs mc ms := by
    subst hA
    obtain ⟨e1, e2⟩ := hsame
    rw [State.setFrames_setFrames] at e1
    have h2 : (T.setVm s.vm).sameButNew ({ U with vm := s.vm } : State) [] (0 + 1) (0 + 6) := ⟨e1, e2⟩
    have h3 := X.same.trans h2
    rw [List.append_nil] at h3
    exact h3.mono hc hs
  refine ⟨U, ?_, .threw T.heap.size, hrun, hend, Or.inr ⟨T.heap.size, rfl, cls, ce, locs, hx U hWs.alike f1 (fun q hq => f2 q hq (fun z hz => nomatch hz)), hce, hO.vm, hcl, hWs, hall, hf⟩⟩
  refine st1 _ ?_
  show Steps p.tables e below (T1.setTop { method := m, pc := pc + 3, locals := ls, stack := .ref T.heap.size :: rest, locked := none }) _
  jvm_step X₁.here [X₁.here.top, hexec, d3', Value.category]
  exact X₁.ldcString hexec (own := own) (text := text) (index := is) (a := sa) hown' hstr'.1 hstr'.2
    (g := { method := m, pc := pc + 4, locals := ls, stack := .ref T.heap.size :: .ref T.heap.size :: rest, locked := none }) rfl d4' _ hsteps
/-- 'throw new E("text")', the text by a wide index -/
theorem vx_throwSW {cc : ByteArray} {pc : Nat} (hexec : p.tables.exec = Jvm.exec) (hb : c.code = cc) (hl : l.stackTraces = false) {own cls text : String} {names : List String} {ik is ic mc ms sa : Nat} {A : Nat → Prop}
    (hown : s.vm.findClass own = some m.cls) (hcls : Bundle.fit cls = true) (hnames : ∀ n ∈ names, Bundle.fit n = true)
    (hk : (Cond.classLink own ik cls).before args s = true) (hini : (Cond.initialized cls).before args s = true) (hstr : vk_R own is text sa s) (hat : ∀ w ∈ vx_atS own ic cls names, w.before args s = true)
    (hgood : ∀ w ∈ Cond.classLink own ik cls :: Cond.initialized cls :: vx_atS own ic cls names, vx_ot w = true)
    (hU : vx_Zq Bundle.tN "UNASSIGNED_STACK" Bundle.steD A s s.heap) (hN : vx_Zq Bundle.tN "SUPPRESSED_SENTINEL" Bundle.listD A s s.heap) (hS : va_S A s.heap H locs) (hsize : ls.size = c.maxLocals)
    (d0 : decode cc pc = .ok (.new ik, 3)) (d3 : decode cc (pc + 3) = .ok (.dup, 1)) (d4 : decode cc (pc + 4) = .ok (.ldc_w is, 3)) (d7 : decode cc (pc + 7) = .ok (.invokespecial ic, 3)) (d10 : decode cc (pc + 10) = .ok (.athrow, 1))
    (hout : ∀ x ∈ c.exceptionTable.toList, covers x (pc + 10) = false)
    (hRframes : names.length + 3 < R.frames) (hRlocals : (rest.map fun v => v.category).sum + (13 * (names.length + 1) + 43) ≤ R.locals) (hRcells : cells + 1 ≤ R.cells) (hRslots : slots + 6 ≤ R.slots) (hlocks : meth.locks = false)
    (hx : ∀ t : State, s.vm.Alike t.vm → H.size ≤ t.heap.size → (∀ q : Nat, q < H.size → t.heap[q]? = H[q]?) → XC cls s t)
    (hf : ∀ z ∈ locs, free z.base) (hc : cells + 1 ≤ mc) (hs : slots + 6 ≤ ms) :
    W p l e R s m args below meth c H locs cells slots (vx_MQ below Qc XC args s mc ms free) (F0 m pc ls rest) := by
  intro T hT X
  have htr : e.platform.stackTraces = false := (show e.platform.stackTraces = l.stackTraces by rw [X.admits.platform]).trans hl
  have Y := vx_rebase X (R' := { frames := R.frames, locals := R.locals, cells := 1, slots := 6 }) (Nat.le_refl _) (Nat.le_refl _) hRcells hRslots
  obtain ⟨s', hA⟩ : ∃ z, z = (T.setVm s.vm).setFrames (.invoking m args :: below) := ⟨_, rfl⟩
  rw [← hA] at Y
  have hvm : s'.vm = s.vm := by rw [hA]; rfl
  have hhp : s'.heap = H := by rw [hA]; exact hT
  have hW0 : s.WarmedH s'.vm := by rw [hvm]; exact State.WarmedH.refl s
  have hat' : ∀ w ∈ vx_atS own ic cls names, w.before args s' = true := fun w hw => vx_ot_at hW0 hvm.symm (hgood w (List.mem_cons_of_mem _ (List.mem_cons_of_mem _ hw))) (hat w hw)
  have hk' : (Cond.classLink own ik cls).before args s' = true := vx_ot_at hW0 hvm.symm (hgood _ List.mem_cons_self) hk
  have hini' : (Cond.initialized cls).before args s' = true := vx_ot_at hW0 hvm.symm (hgood _ (List.mem_cons_of_mem _ List.mem_cons_self)) hini
  have hU' : vx_Zq Bundle.tN "UNASSIGNED_STACK" Bundle.steD A s' s'.heap := by rw [hhp]; exact vx_Zq.moved hW0.alike (hU.kept hS.2.1)
  have hN' : vx_Zq Bundle.tN "SUPPRESSED_SENTINEL" Bundle.listD A s' s'.heap := by rw [hhp]; exact vx_Zq.moved hW0.alike (hN.kept hS.2.1)
  have h : ∀ w ∈ Bundle.ownAtoms own ic cls names, w.before args s' = true := vx_own hat' (vx_isRefq hU'.1) (vx_isRefq hN'.1) hU'.2.word hN'.2.word
  have hown' : s'.vm.findClass own = some m.cls := by rw [hvm]; exact hown
  have hins : (Cond.instantiable cls 6).before args s' = true := h _ (by simp [Bundle.ownAtoms])
  obtain ⟨vm₁, cX, kX, hfX, hkX, -, -, X₁, st1⟩ := Y.newCold hexec (own := own) (C := cls) (index := ik) (n := 6) hown' hk' hins hini'
    (g := F0 m pc ls rest) rfl (by rw [hb]; exact d0) (Nat.le_refl _) (Nat.le_refl _)
  generalize hT1 : (T.setVm vm₁).pushCell { cls := cX, slots := kX.instanceTypes.map defaultValue, vm := .none } = T1 at X₁ st1
  have hcat : (Value.ref T.heap.size).category = 1 := rfl
  have hcellA : T1.heap[T.heap.size]? = some (freshCell cX kX) := by rw [← hT1]; exact State.heap_pushCell_size _ _
  have d3' : decode c.code (pc + 3) = .ok (.dup, 1) := by rw [hb]; exact d3
  have d4' : decode c.code (pc + 4) = .ok (.ldc_w is, 3) := by rw [hb]; exact d4
  have hstr' : vk_R own is text sa s' := vk_R.warm hW0 hstr
  obtain ⟨U, hsteps, hrun, hend, hW, hsame, ce, hce, hO⟩ := X₁.ctorThrowS hexec htr (own := own) (cls := cls) (names := names) (ic := ic) hown' hcls hnames h (fun x hx => nomatch hx) hfX hkX hcellA (by rw [hhp, hT]; exact Nat.le_refl _) (msg := .ref sa) rfl
    (g := { method := m, pc := pc + 7, locals := ls, stack := .ref sa :: .ref T.heap.size :: .ref T.heap.size :: rest, locked := none }) rfl hsize rfl rfl (rest := rest) rfl
    (by rw [hb]; exact d7) (by rw [hb]; exact d10) hout hRframes (by simp only [List.map_cons, List.sum_cons, hcat]; omega) hlocks
  obtain ⟨f1, f2⟩ := vx_frame hsame
  rw [hhp] at f1 f2
  have hWs : s.WarmedH U.vm := State.WarmedH.trans hW0 hW
  have hcl : s.vm.findClass cls = some ce.cls := by
    have h9 := hO.cls
    rw [hvm] at h9
    exact h9
  have hall : s.sameButNew ({ U with vm := s.vm } : State) locs mc ms := by
    subst hA
    obtain ⟨e1, e2⟩ := hsame
    rw [State.setFrames_setFrames] at e1
    have h2 : (T.setVm s.vm).sameButNew ({ U with vm := s.vm } : State) [] (0 + 1) (0 + 6) := ⟨e1, e2⟩
    have h3 := X.same.trans h2
    rw [List.append_nil] at h3
    exact h3.mono hc hs
  refine ⟨U, ?_, .threw T.heap.size, hrun, hend, Or.inr ⟨T.heap.size, rfl, cls, ce, locs, hx U hWs.alike f1 (fun q hq => f2 q hq (fun z hz => nomatch hz)), hce, hO.vm, hcl, hWs, hall, hf⟩⟩
  refine st1 _ ?_
  show Steps p.tables e below (T1.setTop { method := m, pc := pc + 3, locals := ls, stack := .ref T.heap.size :: rest, locked := none }) _
  jvm_step X₁.here [X₁.here.top, hexec, d3', Value.category]
  exact X₁.ldcStringW hexec (own := own) (text := text) (index := is) (a := sa) hown' hstr'.1 hstr'.2
    (g := { method := m, pc := pc + 4, locals := ls, stack := .ref T.heap.size :: .ref T.heap.size :: rest, locked := none }) rfl d4' _ hsteps
end Ends
section Bodies
variable {l : Launch}
theorem vx_ofW {y : MethodName} {ws ws' : List Cond} {rm : Room} {Pc : Array Value → State → Prop} {Qc : Array Value → State → Outcome → State → Prop} {XC : String → State → State → Prop} {mc ms : Nat} {free : Addr → Prop} {cc : ByteArray} {maxL : Nat} {ret : Option FieldType}
    (hy : plainName y.cls = true) (hw : ws = Cond.code y cc maxL ret :: ws')
    (body : ∀ p e s m args below meth c s₁, BodyLoose p l y (headSpec ws rm) cc maxL ret e s m args below meth c s₁ → c.maxLocals = maxL → (∀ x ∈ c.exceptionTable.toList, False) → Pc args s →
      W p l e (headSpec ws rm).room s m args below meth c s.heap [] 0 0 (vx_MQ below Qc XC args s mc ms free) (entryFrame m args maxL)) : vx_Met l y ws rm Pc Qc XC mc ms free := by
  refine MetFree.of_bodyS (code := cc) (maxLocals := maxL) (ret := ret) hy ?_ ?_
  · intro args s m h hn
    obtain ⟨meth, c, h1, h2, h3, h4, h5, h6, -, -⟩ := Cond.code_spec hn (atoms_spec (ws := ws) h _ (by rw [hw]; exact List.mem_cons_self))
    exact ⟨meth, c, h1, h2, h3, h4, h5, h6⟩
  · intro p e s m args below meth c s₁ B hml hP _
    have hh0 : s₁.heap = s.heap := by rw [B.state]; rfl
    have ht : ∀ x ∈ c.exceptionTable.toList, False := by
      obtain ⟨meth9, c9, h1, h2, -, -, -, -, h7, -⟩ := Cond.code_spec B.named (atoms_spec (ws := ws) B.pre _ (by rw [hw]; exact List.mem_cons_self))
      cases Option.some.inj (h1.symm.trans B.method)
      cases Option.some.inj (h2.symm.trans (Stand.of_body B).code)
      intro x hx
      rw [Array.isEmpty_iff.mp h7] at hx
      cases hx
    obtain ⟨t, a1, o, b1, b2, b3⟩ := body p e s m args below meth c s₁ B hml ht hP s₁ hh0 (Stand.of_body B)
    exact ⟨t, o, a1, b1, b2, b3⟩
/-- the table of a body with handlers -/
theorem vx_table {p : Program} {x y : MethodName} {S : Spec} {cc bytes : ByteArray} {maxL maxL' : Nat} {ret ret' : Option FieldType} {e : Env} {s s₁ : State} {m : MethodId} {args : Array Value} {below : List Frame} {meth : Method} {c : Code} {hh : List (Nat × Nat × Nat × Nat)}
    (B : BodyLoose p l y S cc maxL ret e s m args below meth c s₁) (h : (Cond.codeWith y bytes maxL' ret' hh).before args s = true) : c.exceptionTable.toList = tableOf hh := by
  obtain ⟨m9, meth9, c9, hn9, h1, h2, -, -, h6, -⟩ := Cond.codeWith_spec h
  cases Option.some.inj (hn9.symm.trans B.named)
  cases Option.some.inj (h1.symm.trans B.method)
  cases Option.some.inj (h2.symm.trans (Stand.of_body B).code)
  rw [← h6, table_eq]
end Bodies
end VXA
/-! ===== END ===== -/
/-! ===== BEGIN a static call of a method with an exception table ===== -/
section VXS
variable {p : Program} {l : Launch} {e : Env} {R : Room} {s : State} {m : MethodId} {args : Array Value} {below : List Frame} {meth : Method} {c : Code} {T : State} {H : Heap} {locs : List Loc} {cells slots : Nat}
abbrev vx_CSW (R : Room) (s : State) (args : Array Value) (own : String) (index : Nat) (y : MethodName) (bytes : ByteArray) (maxL : Nat) (ret : Option FieldType) (hh : List (Nat × Nat × Nat × Nat)) (ws : List Cond) (rm : Room) (mc ms n : Nat) : Prop :=
  (rm.cells = mc ∧ rm.slots = ms ∧ rm.frames + 1 ≤ R.frames ∧ 8 + (maxL + 11) + rm.locals ≤ R.locals ∧ (∀ w ∈ ws, ∀ (a' : Array Value) (U : State), s.WarmedH U.vm → w.before a' U = true) ∧ Cond.codeWith y bytes maxL ret hh ∈ ws) ∧
  (Cond.codeWith y bytes maxL ret hh).before args s = true ∧ (Cond.initialized y.cls).before args s = true ∧ (y.cls ≠ "java/lang/invoke/MethodHandle" ∧ y.cls ≠ "java/lang/invoke/VarHandle") ∧
  (∀ sig, parseMethodDescriptor y.desc = some sig → n = sig.parameters.length) ∧ (Cond.methodLink own index y).before args s = true ∧ (Cond.static y).before args s = true
theorem vx_cwSW {own : String} {index maxL mc ms : Nat} {y : MethodName} {bytes : ByteArray} {ret : Option FieldType} {hh : List (Nat × Nat × Nat × Nat)} {Ts ws ws' : List Cond} {rm : Room} (n : Nat) (ht : ∀ w ∈ Ts, w.before args s = true) (hT : GoodIn Ts (va_wsS own index y ws)) (hw : ws = Cond.codeWith y bytes maxL ret hh :: ws') (hrc : rm.cells = mc) (hrs : rm.slots = ms)
    (hd : y.cls ≠ "java/lang/invoke/MethodHandle" ∧ y.cls ≠ "java/lang/invoke/VarHandle" ∧ (parseMethodDescriptor y.desc).map (fun d => d.parameters.length) = some n) (hR : rm.frames + 1 ≤ R.frames ∧ 8 + (maxL + 11) + rm.locals ≤ R.locals) :
    vx_CSW R s args own index y bytes maxL ret hh ws rm mc ms n := by
  have ok : ∀ w ∈ va_wsS own index y ws, w.before args s = true := fun w h => ht w (hT w h).1
  have hG : GoodIn Ts ws := fun w h => hT w (by unfold va_wsS; exact List.mem_append_right _ h)
  have hc : Cond.codeWith y bytes maxL ret hh ∈ ws := by rw [hw]; exact List.mem_cons_self
  refine ⟨⟨hrc, hrs, hR.1, hR.2, pay_in ht hG, hc⟩, ht _ (hG _ hc).1, ok _ (by simp [va_wsS]), ⟨hd.1, hd.2.1⟩, fun sig h => ?_, ok _ (by simp [va_wsS]), ok _ (by simp [va_wsS])⟩
  have h2 := hd.2.2
  rw [h] at h2
  exact (Option.some.inj h2).symm
theorem vx_callSW (X : Stand p l e R s m args below meth c T locs cells slots) (hexec : p.tables.exec = Jvm.exec) {own : String} {index : Nat} {y : MethodName} {bytes : ByteArray} {maxL : Nat} {ret : Option FieldType} {hh : List (Nat × Nat × Nat × Nat)}
    (hown : s.vm.findClass own = some m.cls) (hlink : (Cond.methodLink own index y).before args s = true) (hstat : (Cond.static y).before args s = true) (hinit : (Cond.initialized y.cls).before args s = true)
    (hcode : (Cond.codeWith y bytes maxL ret hh).before args s = true) (hy : y.cls ≠ "java/lang/invoke/MethodHandle" ∧ y.cls ≠ "java/lang/invoke/VarHandle")
    {W9 : Nat} {Pre : Pt → Array Value → Prop} {Post : Pt → Array Value → Option Value → Pt → Prop} (hK : Back l R p e below s args y 3 W9 Pre Post)
    {g : JFrame} (hg : g.method = m) (hsize : g.locals.size = c.maxLocals) {argsL rest : List Value} (hlen : ∀ sig, parseMethodDescriptor y.desc = some sig → argsL.length = sig.parameters.length)
    (hstack : g.stack = argsL.reverse ++ rest) (hW : 2 * g.monitorRoom + (rest.map fun v => v.category).sum ≤ W9) (hdg : decode c.code g.pc = .ok (.invokestatic index, 3))
    (hpre : ∀ vm₁, s.WarmedH vm₁ → Pre ⟨T.setVm vm₁, locs, cells, slots⟩ argsL.toArray) :
    ∃ (v : Option Value) (vm₁ : Vm) (B : Pt), s.WarmedH vm₁ ∧ Stand p l e R s m args below meth c B.U B.locs B.cells B.slots ∧ Post ⟨T.setVm vm₁, locs, cells, slots⟩ argsL.toArray v B ∧
      ∀ target, Steps p.tables e below (B.U.setTop { g with pc := g.pc + 3, stack := v.toList ++ rest }) target → Steps p.tables e below (T.setTop g) target := by
  obtain ⟨mk, methM, cM, hnamed, hmethM, -, -, -, -, -, -, hsigM⟩ := Cond.codeWith_spec hcode
  have hstatic : methM.isStatic = true := Cond.static_spec hnamed hmethM hstat
  obtain ⟨kP, hkP, -⟩ := className_of_methodNamed hnamed
  have hinitP : kP.init = .initialized := Cond.initialized_spec (findClass_of_methodNamed hnamed) hkP hinit
  obtain ⟨vm₁, X₁, hstep₁⟩ := X.invokestatic hexec hown hlink hnamed hmethM hstatic hkP hinitP hy (g := g) hg (argsL := argsL) (rest := rest) (hlen _ hsigM) hstack hdg
  obtain ⟨v, B, X', hpost, hsteps⟩ := hK m meth c ⟨T.setVm vm₁, locs, cells, slots⟩ { g with stack := rest } (.invokestatic index) mk argsL.toArray X₁ hg hsize hdg hW (X₁.named hnamed) (hpre vm₁ X₁.warmed)
  exact ⟨v, vm₁, B, X₁.warmed, X', hpost, fun target h => hstep₁ _ fun acts => by rw [doInvoke_state]; exact hsteps.trans h⟩
theorem vx_runSW {y : MethodName} {bytes cc : ByteArray} {maxL nL mc ms n index : Nat} {ret : Option FieldType} {hh : List (Nat × Nat × Nat × Nat)} {ws : List Cond} {rm : Room} {Pc : Array Value → State → Prop} {Qc : Array Value → State → Outcome → State → Prop} {free : Addr → Prop} {Ts : List Cond} {own : String} {As rest : List Value} {g : JFrame}
    (S : CallFix p m c cc nL s args Ts own) (hM : Met l y ws rm Pc Qc mc ms free) (cw : vx_CSW R s args own index y bytes maxL ret hh ws rm mc ms n) (hp : PreS s H Pc As)
    (hg : g.method = m) (hn : As.length = n) (hsize : g.locals.size = nL) (hstack : g.stack = As.reverse ++ rest) (hW : 2 * g.monitorRoom + (rest.map fun v => v.category).sum ≤ 8) (hdg : decode cc g.pc = .ok (.invokestatic index, 3)) (hf : cells + mc ≤ R.cells ∧ slots + ms ≤ R.slots) :
    va_Run p l e R s m args below meth c H locs cells slots mc ms g rest (Qc As.toArray) (free) := by
  obtain ⟨⟨hrc, hrs, hfr, hlo, hws, hcw⟩, hcode, hini, hy, hlen, hl, hstt⟩ := cw
  have hK : Back l R p e below s args y 3 8 (PreOf R mc ms Pc) (PostOf Qc mc ms free) := va_backW (hh := hh) (bytes := bytes) (maxL := maxL) (ret := ret) hM hp.1 hrc hrs hfr hlo hws hcw (fun a' U hW => word_at hW (Or.inl (by first | rfl | simp [Cond.onTables, Cond.keeps, Cond.steady])) hini)
  obtain ⟨hx, hb, hml, ho, -⟩ := S
  intro T hT X
  obtain ⟨v, vm₁, ⟨U', l2, c2, s2⟩, hW₁, X', ⟨g', mk, t, L, e1, e2, hq, h1, hL, h2, h3⟩, st⟩ := vx_callSW X hx (hh := hh) (bytes := bytes) (maxL := maxL) (ret := ret) ho hl hstt hini hcode hy hK hg (hsize.trans hml.symm) (argsL := As) (rest := rest) (fun sig h => hn.trans (hlen sig h)) hstack hW (by rw [hb]; exact hdg)
    (fun vm₁ hW₁ => ⟨hf.1, hf.2, hp.2 (T.setVm vm₁) hT hW₁⟩)
  dsimp only [Pt.U, Pt.locs, Pt.cells, Pt.slots] at X' e1 e2 h1 h2 h3 st
  subst h1; subst h2; subst h3
  exact ⟨v, (T.setVm vm₁).calling g' mk As.toArray, t, U', L, hT, X', hL, e1, e2, hq, st⟩
/-- not caught here, past rows that name other classes: it goes on to the caller -/
theorem vx_outP {p : Program} {l : Launch} {e : Env} {R : Room} {s : State} {m : MethodId} {args : Array Value} {below : List Frame} {meth : Method} {c : Code} {H : Heap} {locs : List Loc} {cells slots : Nat} {free : Addr → Prop} {ls : Array Slot} {rest : List Value} {Qc : Array Value → State → Outcome → State → Prop} {XC : String → State → State → Prop}
    {pc : Nat} {own E : String} {ce : Cell} {q : Addr} {mc ms : Nat} (hown : s.vm.findClass own = some m.cls) (hlocks : meth.locks = false)
    (hpass : ∀ z ∈ c.exceptionTable.toList, covers z pc = false ∨ (z.catchType ≠ 0 ∧ ∃ nm : String, (Cond.classLink own z.catchType nm).before args s = true ∧ va_Nc E nm s)) (hcell : H[q]? = some ce) (hv : ce.vm = .none) (hcl : s.vm.findClass E = some ce.cls)
    (hx : ∀ t : State, t.heap = H → s.vm.Alike t.vm → XC E s t) (hf : ∀ z ∈ locs, free z.base) (hc : cells ≤ mc) (hs : slots ≤ ms) :
    vx_W p l e R s m args below meth c H locs cells slots (vx_MQ below Qc XC args s mc ms free) (F0 m pc ls rest) q := by
  intro T hT X
  have hpl : e.platform.magicAccessors = ({} : Platform).magicAccessors := by rw [X.admits.platform]
  obtain ⟨vm', hW', X', st⟩ := X.outThrough hlocks q (g := F0 m pc ls rest) rfl rfl rfl (cell := ce) (by rw [hT]; exact hcell) (by rw [hv]; rfl)
    (by obtain ⟨k9, h9, -⟩ := Vm.findClass_spec hcl; exact ⟨k9, h9⟩) (fun z hz => by
      rcases hpass z hz with h | ⟨hz0, nm, hl1, hn1⟩
      · exact Or.inl h
      · obtain ⟨c6, hc6, hcl6⟩ := Cond.classLink_spec hown hl1 e.platform hpl
        obtain ⟨a8, b8, h1, h2, h3⟩ := hn1
        cases Option.some.inj (h1.symm.trans hcl)
        cases Option.some.inj (h2.symm.trans hc6)
        exact Or.inr ⟨hz0, _, hcl6, h3⟩)
  obtain ⟨g₀, hfr⟩ := X'.frames_eq
  have hcell9 : ((T.setVm vm').setFrames (.throwing q :: below)).heap[q]? = some ce := by
    show T.heap[q]? = some ce
    rw [hT]; exact hcell
  have hend : Ended ((T.setVm vm').setFrames (.throwing q :: below)) below (.threw q) := State.frames_setFrames _ (State.cur_lt_of_frames hfr)
  refine ⟨(T.setVm vm').setFrames (.throwing q :: below), ?_, .threw q, X'.here.running, hend, Or.inr ⟨q, rfl, E, ce, locs, hx _ hT (X'.ends _).1.alike, hcell9, hv, hcl, (X'.ends _).1, (X'.ends _).2.mono hc hs, hf⟩⟩
  rw [X.pushThrowing_eq]
  exact st
/-- a thing of a world lies in the heap -/
theorem vx_lt {D : va_G} {cl : List vw_C} {ws : va_W} {H1 : Heap} (h : va_P D cl ws H1) {k : Nat} {q : Nat × va_E} (hk : ws[k]? = some q) : q.1 < H1.size := (h k q hk).lt
end VXS
/-! ===== END ===== -/
/-! ===== BEGIN methods with a table of their own: called by a name, returning or throwing ===== -/
section VXH
/-! vx_backW, vx_callVX, vx_callSX, vx_callVW, vx_runVW, vx_runVX, vx_runSX, vx_ofWH follow the same proofs as their sisters above (Free/Laws.lean, Shelf42/LK1.lean); vx_outP calls Shelf42/NT130.lean (outThrough). -/
section
variable {l : Launch} {R : Room} {p : Program} {e : Env} {below : List Frame} {s : State} {sargs : Array Value} {y : MethodName} {len W9 : Nat}
theorem vx_backW {ws : List Cond} {rm : Room} {Pc : Array Value → State → Prop} {Qc : Array Value → State → Outcome → State → Prop} {XC : String → State → State → Prop} {mc ms : Nat} {free : Addr → Prop} {bytes : ByteArray} {maxL : Nat} {ret : Option FieldType} {hh : List (Nat × Nat × Nat × Nat)}
    (hM : vx_Met l y ws rm Pc Qc XC mc ms free) (hblind : FrameBlind Pc) (hrc : rm.cells = mc) (hrs : rm.slots = ms)
    (hframes : rm.frames + 1 ≤ R.frames) (hlocals : W9 + (maxL + 11) + rm.locals ≤ R.locals)
    (hws : ∀ w ∈ ws, ∀ a' U, s.WarmedH U.vm → w.before a' U = true) (hcode : Cond.codeWith y bytes maxL ret hh ∈ ws) (hinit : ∀ a' U, s.WarmedH U.vm → (Cond.initialized y.cls).before a' U = true) :
    vx_Back l R p e below s sargs y len W9 (PreOf R mc ms Pc) (PostOf Qc mc ms free) (vx_Post XC mc ms free) := by
  intro m meth c A g ig mk a X hg hsize hdg hW hn hp
  have h1 : (headSpec ws rm).pre.before a A.U = true := atoms_intro fun w hw => hws w hw _ _ X.warmed
  have h2 : (Cond.codeWith y bytes maxL ret hh).before a A.U = true := hws _ hcode _ _ X.warmed
  have h3 : (Cond.initialized y.cls).before a A.U = true := hinit _ _ X.warmed
  have h4 : A.cells + (headSpec ws rm).room.cells ≤ R.cells := by rw [show (headSpec ws rm).room.cells = mc from hrc]; exact hp.1
  have h5 : A.slots + (headSpec ws rm).room.slots ≤ R.slots := by rw [show (headSpec ws rm).room.slots = ms from hrs]; exact hp.2.1
  have hPc : Pc a (A.U.calling g mk a) := hblind _ _ _ _ hp.2.2
  obtain ⟨U, Ls, c0, s0⟩ := A
  dsimp only [Pt.U, Pt.locs, Pt.cells, Pt.slots] at h1 h2 h3 h4 h5 X hn hPc ⊢
  obtain ⟨m9, methY, cY, hn9, hmY, hcY, -, hlY, -⟩ := Cond.codeWith_spec h2
  cases Option.some.inj (hn9.symm.trans hn)
  obtain ⟨kY, hkY, -⟩ := className_of_methodNamed hn
  have hinitY : kY.init = .initialized := Cond.initialized_spec (findClass_of_methodNamed hn) hkY h3
  have h : At U g.method c below := by rw [hg]; exact X.here
  have hlocals9 : W9 + (maxL + 11) + (headSpec ws rm).room.locals ≤ R.locals := hlocals
  have happ : (headSpec ws rm).appliesLoose y e.platform (U.calling g mk a) = true :=
    Spec.appliesLoose_calling (g := g) h hdg hn hkY hinitY
      (X.room_calling (g := g) (R' := (headSpec ws rm).room) hsize hmY hcY hframes (by rw [hlY]; omega) h4 h5) h1
  obtain ⟨mid, hmid⟩ := h.above
  have hfr : (U.setTop g).frames = (.java g :: mid) ++ below := by rw [State.frames_setTop' g h.top, hmid]; rfl
  obtain ⟨o, s₂, hsteps, -, hend, hq⟩ := Steps.callFree hM p X.admits X.cas X.clock (acts := []) hfr happ hPc trivial
  have hq' : vx_Q Qc XC mc ms free a (U.calling g mk a) o s₂ := hq
  rw [State.frames_setTop' g h.top] at hend
  obtain ⟨g₀, hg0⟩ := Option.isSome_iff_exists.mp h.top
  obtain ⟨r, hr⟩ := State.topJava?_eq_some.mp hg0
  have hr' : (({ U with heap := s₂.heap, slotsUsed := s₂.slotsUsed } : State).setVm s₂.vm).frames = .java g₀ :: r := hr
  rcases hq' with ⟨hqc, L, hfe, hL⟩ | ⟨q, rfl, E, ce, L, hx, hce, hcv, hcl, hW₂, hsm, hL⟩
  · obtain ⟨⟨v, rfl⟩, hW₂, e2, q2, q3, q4, q5, q6⟩ := id hfe
    have e3 : s₂ = ({ (U.calling g mk a).setFrames s₂.frames with heap := s₂.heap, slotsUsed := s₂.slotsUsed } : State).setVm s₂.vm := by
      have : s₂ = ({ s₂ with vm := (U.calling g mk a).vm } : State).setVm s₂.vm := rfl
      rw [e2] at this
      exact this
    obtain ⟨c₂, i₂, len₂, hc₂, hd₂, hf₂⟩ := hend
    have hW' : U.WarmedH s₂.vm := hW₂
    have hcc : c₂ = c := by
      have h1 : s₂.code? g.method = U.code? g.method := by
        rw [State.code?_eq, State.code?_eq, hW'.alike.method?]
      exact Option.some.inj (hc₂.symm.trans (h1.trans h.code))
    subst hcc
    have hlen : len₂ = len := by rw [hdg] at hd₂; cases hd₂; rfl
    subst hlen
    have hs₂ : s₂ = (({ U with heap := s₂.heap, slotsUsed := s₂.slotsUsed } : State).setVm s₂.vm).setTop { g with pc := g.pc + len₂, stack := v.toList ++ g.stack } := by
      refine e3.trans ?_
      rw [hf₂, State.calling_eq h.top, State.setFrames_setFrames, State.setTop_of_frames _ hr', hr]
      rfl
    have hsame : U.sameButNew ({ U with heap := s₂.heap, slotsUsed := s₂.slotsUsed } : State) L mc ms := by
      refine ⟨?_, q2, q3, q4, q5, q6⟩
      obtain ⟨t, ht, -⟩ := State.frames_cons hr
      show ({ U with heap := s₂.heap, slotsUsed := s₂.slotsUsed } : State) = { U.setFrames U.frames with heap := s₂.heap, slotsUsed := s₂.slotsUsed }
      rw [State.setFrames_self ht]
    subst hg
    refine Or.inl ⟨v, ⟨(({ U with heap := s₂.heap, slotsUsed := s₂.slotsUsed } : State).setVm s₂.vm), Ls ++ L, c0 + mc, s0 + ms⟩,
      ⟨X.admits, X.cas, X.clock, X.frames, X.room, X.hears, X.method, X.code, (X.here.setHeapUsed s₂.heap s₂.slotsUsed).setVm hW'.alike, X.tail, State.WarmedH.trans X.warmed hW', X.limits, X.bytes, X.same.trans (hsame.setVm s.vm)⟩,
      ⟨g, mk, s₂, L, rfl, rfl, hqc, rfl, hL, rfl, rfl⟩, ?_⟩
    show Steps p.tables e below _ ((({ U with heap := s₂.heap, slotsUsed := s₂.slotsUsed } : State).setVm s₂.vm).setTop { g with pc := g.pc + len₂, stack := v.toList ++ g.stack })
    rw [← hs₂]
    exact hsteps
  · obtain ⟨e2, q2, q3, q4, q5, q6⟩ := id hsm
    have e3 : s₂ = ({ (U.calling g mk a).setFrames s₂.frames with heap := s₂.heap, slotsUsed := s₂.slotsUsed } : State).setVm s₂.vm := by
      have : s₂ = ({ s₂ with vm := (U.calling g mk a).vm } : State).setVm s₂.vm := rfl
      rw [e2] at this
      exact this
    have hf₂ : s₂.frames = .throwing q :: .java g :: U.frames.tail := hend
    have hW' : U.WarmedH s₂.vm := hW₂
    have hs₂ : s₂ = ((({ U with heap := s₂.heap, slotsUsed := s₂.slotsUsed } : State).setVm s₂.vm).setTop g).pushFrame (.throwing q) := by
      refine e3.trans ?_
      rw [hf₂, State.calling_eq h.top, State.setFrames_setFrames, State.pushFrame, State.frames_setTop _ hr', State.setTop_of_frames _ hr', State.setFrames_setFrames, hr]
      rfl
    have hsame : U.sameButNew ({ U with heap := s₂.heap, slotsUsed := s₂.slotsUsed } : State) L mc ms := by
      refine ⟨?_, q2, q3, q4, q5, q6⟩
      obtain ⟨t, ht, -⟩ := State.frames_cons hr
      show ({ U with heap := s₂.heap, slotsUsed := s₂.slotsUsed } : State) = { U.setFrames U.frames with heap := s₂.heap, slotsUsed := s₂.slotsUsed }
      rw [State.setFrames_self ht]
    subst hg
    refine Or.inr ⟨q, ⟨(({ U with heap := s₂.heap, slotsUsed := s₂.slotsUsed } : State).setVm s₂.vm), Ls ++ L, c0 + mc, s0 + ms⟩,
      ⟨X.admits, X.cas, X.clock, X.frames, X.room, X.hears, X.method, X.code, (X.here.setHeapUsed s₂.heap s₂.slotsUsed).setVm hW'.alike, X.tail, State.WarmedH.trans X.warmed hW', X.limits, X.bytes, X.same.trans (hsame.setVm s.vm)⟩,
      ⟨g, mk, s₂, L, E, ce, rfl, rfl, hx, hce, hcv, hcl, rfl, hL, rfl, rfl⟩, ?_⟩
    show Steps p.tables e below _ (((({ U with heap := s₂.heap, slotsUsed := s₂.slotsUsed } : State).setVm s₂.vm).setTop g).pushFrame (.throwing q))
    rw [← hs₂]
    exact hsteps
end
variable {p : Program} {l : Launch} {e : Env} {R : Room} {s : State} {m : MethodId} {args : Array Value} {below : List Frame} {meth : Method} {c : Code} {T : State} {H : Heap} {locs : List Loc} {cells slots : Nat}
theorem vx_callVX (X : Stand p l e R s m args below meth c T locs cells slots) (hexec : p.tables.exec = Jvm.exec) {own C : String} {index : Nat} {y : MethodName} {bytes : ByteArray} {maxL : Nat} {ret : Option FieldType} {hh : List (Nat × Nat × Nat × Nat)}
    (hown : s.vm.findClass own = some m.cls) (hlink : (Cond.methodLink own index y).before args s = true) (hinst : (Cond.instanceMethod y).before args s = true) (hsel : (Cond.selects C y y).before args s = true)
    (hcode : (Cond.codeWith y bytes maxL ret hh).before args s = true) (hy : y.cls ≠ "java/lang/invoke/MethodHandle" ∧ y.cls ≠ "java/lang/invoke/VarHandle")
    {W9 : Nat} {Pre : Pt → Array Value → Prop} {Post : Pt → Array Value → Option Value → Pt → Prop} {PostX : Pt → Array Value → Addr → Pt → Prop} (hK : vx_Back l R p e below s args y 3 W9 Pre Post PostX)
    {b : Addr} {cellB : Cell} (hcell : T.heap[b]? = some cellB) (hobj : cellB.vm.isStatics = false) (hcls : s.vm.findClass C = some cellB.cls)
    {g : JFrame} (hg : g.method = m) (hsize : g.locals.size = c.maxLocals) {argsL rest : List Value} (hlen : ∀ sig, parseMethodDescriptor y.desc = some sig → argsL.length = sig.parameters.length)
    (hstack : g.stack = argsL.reverse ++ .ref b :: rest) (hW : 2 * g.monitorRoom + (rest.map fun v => v.category).sum ≤ W9) (hdg : decode c.code g.pc = .ok (.invokevirtual index, 3))
    (hpre : ∀ vm₁, s.WarmedH vm₁ → Pre ⟨T.setVm vm₁, locs, cells, slots⟩ (Value.ref b :: argsL).toArray) :
    (∃ (v : Option Value) (vm₁ : Vm) (B : Pt), s.WarmedH vm₁ ∧ Stand p l e R s m args below meth c B.U B.locs B.cells B.slots ∧ Post ⟨T.setVm vm₁, locs, cells, slots⟩ (Value.ref b :: argsL).toArray v B ∧
      ∀ target, Steps p.tables e below (B.U.setTop { g with pc := g.pc + 3, stack := v.toList ++ rest }) target → Steps p.tables e below (T.setTop g) target) ∨
    (∃ (q : Addr) (vm₁ : Vm) (B : Pt), s.WarmedH vm₁ ∧ Stand p l e R s m args below meth c B.U B.locs B.cells B.slots ∧ PostX ⟨T.setVm vm₁, locs, cells, slots⟩ (Value.ref b :: argsL).toArray q B ∧
      Steps p.tables e below (T.setTop g) ((B.U.setTop { g with stack := rest }).pushFrame (.throwing q))) := by
  obtain ⟨mk, methM, hnamed, hmethM, hstM, habM⟩ := Cond.instanceMethod_spec hinst
  obtain ⟨m8, methM', cM, hn8, hmethM', -, -, -, -, -, -, hsigM⟩ := Cond.codeWith_spec hcode
  cases Option.some.inj (hn8.symm.trans hnamed)
  cases hmethM.symm.trans hmethM'
  obtain ⟨c2, r2, m2, q1, q2, q3, q4, kP, hkP, hkPi⟩ := Cond.selects_spec hsel
  cases hcls.symm.trans q1
  cases (State.methodFound?_of_named hnamed hy).symm.trans q2
  cases hnamed.symm.trans q3
  have hselP : selectMethod e.platform s.vm cellB.cls mk = .method mk := by rw [Launch.admits_selectMethod X.admits]; exact q4
  obtain ⟨vm₁, X₁, hstep₁⟩ := X.invokevirtual hexec hown hlink hnamed hmethM hstM hkP hkPi hy (a := b) (cell := cellB) hcell
    (fun z h => by rw [h] at hobj; cases hobj) hselP hmethM habM hkP hkPi (g := g) hg (argsL := argsL) (rest := rest) (hlen _ hsigM) hstack hdg
  rcases hK m meth c ⟨T.setVm vm₁, locs, cells, slots⟩ { g with stack := rest } (.invokevirtual index) mk (Value.ref b :: argsL).toArray X₁ hg hsize hdg hW (X₁.named hnamed) (hpre vm₁ X₁.warmed) with ⟨v, B, X', hpost, hsteps⟩ | ⟨q, B, X', hpost, hsteps⟩
  · exact Or.inl ⟨v, vm₁, B, X₁.warmed, X', hpost, fun target h => hstep₁ _ fun acts => by rw [doInvoke_state]; exact hsteps.trans h⟩
  · exact Or.inr ⟨q, vm₁, B, X₁.warmed, X', hpost, hstep₁ _ fun acts => by rw [doInvoke_state]; exact hsteps⟩
theorem vx_callSX (X : Stand p l e R s m args below meth c T locs cells slots) (hexec : p.tables.exec = Jvm.exec) {own : String} {index : Nat} {y : MethodName} {bytes : ByteArray} {maxL : Nat} {ret : Option FieldType} {hh : List (Nat × Nat × Nat × Nat)}
    (hown : s.vm.findClass own = some m.cls) (hlink : (Cond.methodLink own index y).before args s = true) (hstat : (Cond.static y).before args s = true) (hinit : (Cond.initialized y.cls).before args s = true)
    (hcode : (Cond.codeWith y bytes maxL ret hh).before args s = true) (hy : y.cls ≠ "java/lang/invoke/MethodHandle" ∧ y.cls ≠ "java/lang/invoke/VarHandle")
    {W9 : Nat} {Pre : Pt → Array Value → Prop} {Post : Pt → Array Value → Option Value → Pt → Prop} {PostX : Pt → Array Value → Addr → Pt → Prop} (hK : vx_Back l R p e below s args y 3 W9 Pre Post PostX)
    {g : JFrame} (hg : g.method = m) (hsize : g.locals.size = c.maxLocals) {argsL rest : List Value} (hlen : ∀ sig, parseMethodDescriptor y.desc = some sig → argsL.length = sig.parameters.length)
    (hstack : g.stack = argsL.reverse ++ rest) (hW : 2 * g.monitorRoom + (rest.map fun v => v.category).sum ≤ W9) (hdg : decode c.code g.pc = .ok (.invokestatic index, 3))
    (hpre : ∀ vm₁, s.WarmedH vm₁ → Pre ⟨T.setVm vm₁, locs, cells, slots⟩ argsL.toArray) :
    (∃ (v : Option Value) (vm₁ : Vm) (B : Pt), s.WarmedH vm₁ ∧ Stand p l e R s m args below meth c B.U B.locs B.cells B.slots ∧ Post ⟨T.setVm vm₁, locs, cells, slots⟩ argsL.toArray v B ∧
      ∀ target, Steps p.tables e below (B.U.setTop { g with pc := g.pc + 3, stack := v.toList ++ rest }) target → Steps p.tables e below (T.setTop g) target) ∨
    (∃ (q : Addr) (vm₁ : Vm) (B : Pt), s.WarmedH vm₁ ∧ Stand p l e R s m args below meth c B.U B.locs B.cells B.slots ∧ PostX ⟨T.setVm vm₁, locs, cells, slots⟩ argsL.toArray q B ∧
      Steps p.tables e below (T.setTop g) ((B.U.setTop { g with stack := rest }).pushFrame (.throwing q))) := by
  obtain ⟨mk, methM, cM, hnamed, hmethM, -, -, -, -, -, -, hsigM⟩ := Cond.codeWith_spec hcode
  have hstatic : methM.isStatic = true := Cond.static_spec hnamed hmethM hstat
  obtain ⟨kP, hkP, -⟩ := className_of_methodNamed hnamed
  have hinitP : kP.init = .initialized := Cond.initialized_spec (findClass_of_methodNamed hnamed) hkP hinit
  obtain ⟨vm₁, X₁, hstep₁⟩ := X.invokestatic hexec hown hlink hnamed hmethM hstatic hkP hinitP hy (g := g) hg (argsL := argsL) (rest := rest) (hlen _ hsigM) hstack hdg
  rcases hK m meth c ⟨T.setVm vm₁, locs, cells, slots⟩ { g with stack := rest } (.invokestatic index) mk argsL.toArray X₁ hg hsize hdg hW (X₁.named hnamed) (hpre vm₁ X₁.warmed) with ⟨v, B, X', hpost, hsteps⟩ | ⟨q, B, X', hpost, hsteps⟩
  · exact Or.inl ⟨v, vm₁, B, X₁.warmed, X', hpost, fun target h => hstep₁ _ fun acts => by rw [doInvoke_state]; exact hsteps.trans h⟩
  · exact Or.inr ⟨q, vm₁, B, X₁.warmed, X', hpost, hstep₁ _ fun acts => by rw [doInvoke_state]; exact hsteps⟩
theorem vx_callVW (X : Stand p l e R s m args below meth c T locs cells slots) (hexec : p.tables.exec = Jvm.exec) {own C : String} {index : Nat} {y : MethodName} {bytes : ByteArray} {maxL : Nat} {ret : Option FieldType} {hh : List (Nat × Nat × Nat × Nat)}
    (hown : s.vm.findClass own = some m.cls) (hlink : (Cond.methodLink own index y).before args s = true) (hinst : (Cond.instanceMethod y).before args s = true) (hsel : (Cond.selects C y y).before args s = true)
    (hcode : (Cond.codeWith y bytes maxL ret hh).before args s = true) (hy : y.cls ≠ "java/lang/invoke/MethodHandle" ∧ y.cls ≠ "java/lang/invoke/VarHandle")
    {W9 : Nat} {Pre : Pt → Array Value → Prop} {Post : Pt → Array Value → Option Value → Pt → Prop} (hK : Back l R p e below s args y 3 W9 Pre Post)
    {b : Addr} {cellB : Cell} (hcell : T.heap[b]? = some cellB) (hobj : cellB.vm.isStatics = false) (hcls : s.vm.findClass C = some cellB.cls)
    {g : JFrame} (hg : g.method = m) (hsize : g.locals.size = c.maxLocals) {argsL rest : List Value} (hlen : ∀ sig, parseMethodDescriptor y.desc = some sig → argsL.length = sig.parameters.length)
    (hstack : g.stack = argsL.reverse ++ .ref b :: rest) (hW : 2 * g.monitorRoom + (rest.map fun v => v.category).sum ≤ W9) (hdg : decode c.code g.pc = .ok (.invokevirtual index, 3))
    (hpre : ∀ vm₁, s.WarmedH vm₁ → Pre ⟨T.setVm vm₁, locs, cells, slots⟩ (Value.ref b :: argsL).toArray) :
    ∃ (v : Option Value) (vm₁ : Vm) (B : Pt), s.WarmedH vm₁ ∧ Stand p l e R s m args below meth c B.U B.locs B.cells B.slots ∧ Post ⟨T.setVm vm₁, locs, cells, slots⟩ (Value.ref b :: argsL).toArray v B ∧
      ∀ target, Steps p.tables e below (B.U.setTop { g with pc := g.pc + 3, stack := v.toList ++ rest }) target → Steps p.tables e below (T.setTop g) target := by
  obtain ⟨mk, methM, hnamed, hmethM, hstM, habM⟩ := Cond.instanceMethod_spec hinst
  obtain ⟨m8, methM', cM, hn8, hmethM', -, -, -, -, -, -, hsigM⟩ := Cond.codeWith_spec hcode
  cases Option.some.inj (hn8.symm.trans hnamed)
  cases hmethM.symm.trans hmethM'
  obtain ⟨c2, r2, m2, q1, q2, q3, q4, kP, hkP, hkPi⟩ := Cond.selects_spec hsel
  cases hcls.symm.trans q1
  cases (State.methodFound?_of_named hnamed hy).symm.trans q2
  cases hnamed.symm.trans q3
  have hselP : selectMethod e.platform s.vm cellB.cls mk = .method mk := by rw [Launch.admits_selectMethod X.admits]; exact q4
  obtain ⟨vm₁, X₁, hstep₁⟩ := X.invokevirtual hexec hown hlink hnamed hmethM hstM hkP hkPi hy (a := b) (cell := cellB) hcell
    (fun z h => by rw [h] at hobj; cases hobj) hselP hmethM habM hkP hkPi (g := g) hg (argsL := argsL) (rest := rest) (hlen _ hsigM) hstack hdg
  obtain ⟨v, B, X', hpost, hsteps⟩ := hK m meth c ⟨T.setVm vm₁, locs, cells, slots⟩ { g with stack := rest } (.invokevirtual index) mk (Value.ref b :: argsL).toArray X₁ hg hsize hdg hW (X₁.named hnamed) (hpre vm₁ X₁.warmed)
  exact ⟨v, vm₁, B, X₁.warmed, X', hpost, fun target h => hstep₁ _ fun acts => by rw [doInvoke_state]; exact hsteps.trans h⟩
abbrev vx_CVW (R : Room) (s : State) (args : Array Value) (own C : String) (index : Nat) (y : MethodName) (bytes : ByteArray) (maxL : Nat) (ret : Option FieldType) (hh : List (Nat × Nat × Nat × Nat)) (ws : List Cond) (rm : Room) (mc ms n : Nat) : Prop :=
  (rm.cells = mc ∧ rm.slots = ms ∧ rm.frames + 1 ≤ R.frames ∧ 8 + (maxL + 11) + rm.locals ≤ R.locals ∧ (∀ w ∈ ws, ∀ (a' : Array Value) (U : State), s.WarmedH U.vm → w.before a' U = true) ∧ Cond.codeWith y bytes maxL ret hh ∈ ws) ∧
  (Cond.codeWith y bytes maxL ret hh).before args s = true ∧ (Cond.initialized y.cls).before args s = true ∧ (y.cls ≠ "java/lang/invoke/MethodHandle" ∧ y.cls ≠ "java/lang/invoke/VarHandle") ∧
  (∀ sig, parseMethodDescriptor y.desc = some sig → n = sig.parameters.length) ∧ (Cond.methodLink own index y).before args s = true ∧ (Cond.instanceMethod y).before args s = true ∧ (Cond.selects C y y).before args s = true
theorem vx_cwVW {own C : String} {index maxL mc ms : Nat} {y : MethodName} {bytes : ByteArray} {ret : Option FieldType} {hh : List (Nat × Nat × Nat × Nat)} {Ts ws ws' : List Cond} {rm : Room} (n : Nat) (ht : ∀ w ∈ Ts, w.before args s = true) (hT : GoodIn Ts (wsV own index C y ws)) (hw : ws = Cond.codeWith y bytes maxL ret hh :: ws') (hrc : rm.cells = mc) (hrs : rm.slots = ms)
    (hd : y.cls = C ∧ y.cls ≠ "java/lang/invoke/MethodHandle" ∧ y.cls ≠ "java/lang/invoke/VarHandle" ∧ (parseMethodDescriptor y.desc).map (fun d => d.parameters.length) = some n) (hR : rm.frames + 1 ≤ R.frames ∧ 8 + (maxL + 11) + rm.locals ≤ R.locals) :
    vx_CVW R s args own C index y bytes maxL ret hh ws rm mc ms n := by
  obtain ⟨hC, hd⟩ := hd
  subst hC
  have ok : ∀ w ∈ wsV own index y.cls y ws, w.before args s = true := fun w h => ht w (hT w h).1
  have hG : GoodIn Ts ws := fun w h => hT w (by unfold wsV; exact List.mem_append_right _ h)
  have hc : Cond.codeWith y bytes maxL ret hh ∈ ws := by rw [hw]; exact List.mem_cons_self
  refine ⟨⟨hrc, hrs, hR.1, hR.2, pay_in ht hG, hc⟩, ht _ (hG _ hc).1, ok _ (by simp [wsV]), ⟨hd.1, hd.2.1⟩, fun sig h => ?_, ok _ (by simp [wsV]), ok _ (by simp [wsV]), ok _ (by simp [wsV])⟩
  have h2 := hd.2.2
  rw [h] at h2
  exact (Option.some.inj h2).symm
theorem vx_runVW {y : MethodName} {bytes cc : ByteArray} {maxL nL mc ms n index : Nat} {ret : Option FieldType} {hh : List (Nat × Nat × Nat × Nat)} {ws : List Cond} {rm : Room} {Pc : Array Value → State → Prop} {Qc : Array Value → State → Outcome → State → Prop} {free : Addr → Prop} {Ts : List Cond} {own C : String} {b : Addr} {As rest : List Value} {g : JFrame}
    (S : CallFix p m c cc nL s args Ts own) (hM : Met l y ws rm Pc Qc mc ms free) (cw : vx_CVW R s args own C index y bytes maxL ret hh ws rm mc ms n) (hp : PreV s H C b Pc As)
    (hg : g.method = m) (hn : As.length = n) (hsize : g.locals.size = nL) (hstack : g.stack = As.reverse ++ .ref b :: rest) (hW : 2 * g.monitorRoom + (rest.map fun v => v.category).sum ≤ 8) (hdg : decode cc g.pc = .ok (.invokevirtual index, 3)) (hf : cells + mc ≤ R.cells ∧ slots + ms ≤ R.slots) :
    va_Run p l e R s m args below meth c H locs cells slots mc ms g rest (Qc (Value.ref b :: As).toArray) free := by
  obtain ⟨⟨hrc, hrs, hfr, hlo, hws, hcw⟩, hcode, hini, hy, hlen, hl, hin, hse⟩ := cw
  have hK : Back l R p e below s args y 3 8 (PreOf R mc ms Pc) (PostOf Qc mc ms free) := va_backW (hh := hh) (bytes := bytes) (maxL := maxL) (ret := ret) hM hp.1 hrc hrs hfr hlo hws hcw (fun a' U hW => word_at hW (Or.inl (by first | rfl | simp [Cond.onTables, Cond.keeps, Cond.steady])) hini)
  obtain ⟨hx, hb, hml, ho, -⟩ := S
  obtain ⟨-, ⟨cellB, hcB, hoB, hclB⟩, hPc⟩ := hp
  intro T hT X
  obtain ⟨v, vm₁, ⟨U', l2, c2, s2⟩, hW₁, X', ⟨g', mk, t, L, e1, e2, hq, h1, hL, h2, h3⟩, st⟩ := vx_callVW X hx (C := C) (hh := hh) (bytes := bytes) (maxL := maxL) (ret := ret) ho hl hin hse hcode hy hK (by rw [hT]; exact hcB) hoB hclB hg (hsize.trans hml.symm) (argsL := As) (rest := rest) (fun sig h => hn.trans (hlen sig h)) hstack hW (by rw [hb]; exact hdg)
    (fun vm₁ hW₁ => ⟨hf.1, hf.2, hPc (T.setVm vm₁) hT hW₁⟩)
  dsimp only [Pt.U, Pt.locs, Pt.cells, Pt.slots] at X' e1 e2 h1 h2 h3 st
  subst h1; subst h2; subst h3
  exact ⟨v, (T.setVm vm₁).calling g' mk (Value.ref b :: As).toArray, t, U', L, hT, X', hL, e1, e2, hq, st⟩
section
variable {y : MethodName} {bytes cc : ByteArray} {maxL nL mc ms n index : Nat} {ret : Option FieldType} {ws : List Cond} {rm : Room} {Pc : Array Value → State → Prop} {Qc : Array Value → State → Outcome → State → Prop} {XC : String → State → State → Prop} {free : Addr → Prop} {Ts : List Cond} {own C : String} {b : Addr} {As rest : List Value} {g : JFrame}
theorem vx_runVX {hh : List (Nat × Nat × Nat × Nat)} (S : CallFix p m c cc nL s args Ts own) (hM : vx_Met l y ws rm Pc Qc XC mc ms free) (cw : vx_CVW R s args own C index y bytes maxL ret hh ws rm mc ms n) (hp : PreV s H C b Pc As)
    (hg : g.method = m) (hn : As.length = n) (hsize : g.locals.size = nL) (hstack : g.stack = As.reverse ++ .ref b :: rest) (hW : 2 * g.monitorRoom + (rest.map fun v => v.category).sum ≤ 8) (hdg : decode cc g.pc = .ok (.invokevirtual index, 3)) (hf : cells + mc ≤ R.cells ∧ slots + ms ≤ R.slots) :
    vx_Run p l e R s m args below meth c H locs cells slots mc ms g rest (Qc (Value.ref b :: As).toArray) XC free := by
  obtain ⟨⟨hrc, hrs, hfr, hlo, hws, hcw⟩, hcode, hini, hy, hlen, hl, hin, hse⟩ := cw
  have hK : vx_Back l R p e below s args y 3 8 (PreOf R mc ms Pc) (PostOf Qc mc ms free) (vx_Post XC mc ms free) := vx_backW (hh := hh) (bytes := bytes) (maxL := maxL) (ret := ret) hM hp.1 hrc hrs hfr hlo hws hcw (fun a' U hW => word_at hW (Or.inl (by first | rfl | simp [Cond.onTables, Cond.keeps, Cond.steady])) hini)
  obtain ⟨hx, hb, hml, ho, -⟩ := S
  obtain ⟨-, ⟨cellB, hcB, hoB, hclB⟩, hPc⟩ := hp
  intro T hT X
  rcases vx_callVX X hx (C := C) (hh := hh) (bytes := bytes) (maxL := maxL) (ret := ret) ho hl hin hse hcode hy hK (by rw [hT]; exact hcB) hoB hclB hg (hsize.trans hml.symm) (argsL := As) (rest := rest) (fun sig h => hn.trans (hlen sig h)) hstack hW (by rw [hb]; exact hdg)
    (fun vm₁ hW₁ => ⟨hf.1, hf.2, hPc (T.setVm vm₁) hT hW₁⟩) with ⟨v, vm₁, ⟨U', l2, c2, s2⟩, hW₁, X', ⟨g', mk, t, L, e1, e2, hq, h1, hL, h2, h3⟩, st⟩ | ⟨q, vm₁, ⟨U', l2, c2, s2⟩, hW₁, X', ⟨g', mk, t, L, E, ce, e1, e2, hq, hce, hcv, hcl, h1, hL, h2, h3⟩, st⟩
  · dsimp only [Pt.U, Pt.locs, Pt.cells, Pt.slots] at X' e1 e2 h1 h2 h3 st
    subst h1; subst h2; subst h3
    exact Or.inl ⟨v, (T.setVm vm₁).calling g' mk (Value.ref b :: As).toArray, t, U', L, hT, X', hL, e1, e2, hq, st⟩
  · dsimp only [Pt.U, Pt.locs, Pt.cells, Pt.slots] at X' e1 e2 h1 h2 h3 st hcl
    subst h1; subst h2; subst h3
    exact Or.inr ⟨q, (T.setVm vm₁).calling g' mk (Value.ref b :: As).toArray, t, U', L, E, ce, hT, X', hL, e1, e2, hq, hce, hcv, vx_cls hW₁ hcl, st⟩
theorem vx_runSX {hh : List (Nat × Nat × Nat × Nat)} (S : CallFix p m c cc nL s args Ts own) (hM : vx_Met l y ws rm Pc Qc XC mc ms free) (cw : vx_CSW R s args own index y bytes maxL ret hh ws rm mc ms n) (hp : PreS s H Pc As)
    (hg : g.method = m) (hn : As.length = n) (hsize : g.locals.size = nL) (hstack : g.stack = As.reverse ++ rest) (hW : 2 * g.monitorRoom + (rest.map fun v => v.category).sum ≤ 8) (hdg : decode cc g.pc = .ok (.invokestatic index, 3)) (hf : cells + mc ≤ R.cells ∧ slots + ms ≤ R.slots) :
    vx_Run p l e R s m args below meth c H locs cells slots mc ms g rest (Qc As.toArray) XC free := by
  obtain ⟨⟨hrc, hrs, hfr, hlo, hws, hcw⟩, hcode, hini, hy, hlen, hl, hstt⟩ := cw
  have hK : vx_Back l R p e below s args y 3 8 (PreOf R mc ms Pc) (PostOf Qc mc ms free) (vx_Post XC mc ms free) := vx_backW (hh := hh) (bytes := bytes) (maxL := maxL) (ret := ret) hM hp.1 hrc hrs hfr hlo hws hcw (fun a' U hW => word_at hW (Or.inl (by first | rfl | simp [Cond.onTables, Cond.keeps, Cond.steady])) hini)
  obtain ⟨hx, hb, hml, ho, -⟩ := S
  intro T hT X
  rcases vx_callSX X hx (hh := hh) (bytes := bytes) (maxL := maxL) (ret := ret) ho hl hstt hini hcode hy hK hg (hsize.trans hml.symm) (argsL := As) (rest := rest) (fun sig h => hn.trans (hlen sig h)) hstack hW (by rw [hb]; exact hdg)
    (fun vm₁ hW₁ => ⟨hf.1, hf.2, hp.2 (T.setVm vm₁) hT hW₁⟩) with ⟨v, vm₁, ⟨U', l2, c2, s2⟩, hW₁, X', ⟨g', mk, t, L, e1, e2, hq, h1, hL, h2, h3⟩, st⟩ | ⟨q, vm₁, ⟨U', l2, c2, s2⟩, hW₁, X', ⟨g', mk, t, L, E, ce, e1, e2, hq, hce, hcv, hcl, h1, hL, h2, h3⟩, st⟩
  · dsimp only [Pt.U, Pt.locs, Pt.cells, Pt.slots] at X' e1 e2 h1 h2 h3 st
    subst h1; subst h2; subst h3
    exact Or.inl ⟨v, (T.setVm vm₁).calling g' mk As.toArray, t, U', L, hT, X', hL, e1, e2, hq, st⟩
  · dsimp only [Pt.U, Pt.locs, Pt.cells, Pt.slots] at X' e1 e2 h1 h2 h3 st hcl
    subst h1; subst h2; subst h3
    exact Or.inr ⟨q, (T.setVm vm₁).calling g' mk As.toArray, t, U', L, E, ce, hT, X', hL, e1, e2, hq, hce, hcv, vx_cls hW₁ hcl, st⟩
end
end VXH
theorem vx_ofWH {l : Launch} {y : MethodName} {ws ws' : List Cond} {rm : Room} {Pc : Array Value → State → Prop} {Qc : Array Value → State → Outcome → State → Prop} {XC : String → State → State → Prop} {mc ms : Nat} {free : Addr → Prop} {cc : ByteArray} {maxL : Nat} {ret : Option FieldType} {hh : List (Nat × Nat × Nat × Nat)}
    (hy : plainName y.cls = true) (hw : ws = Cond.codeWith y cc maxL ret hh :: ws')
    (body : ∀ p e s m args below meth c s₁, BodyLoose p l y (headSpec ws rm) cc maxL ret e s m args below meth c s₁ → c.maxLocals = maxL → Pc args s →
      W p l e (headSpec ws rm).room s m args below meth c s.heap [] 0 0 (vx_MQ below Qc XC args s mc ms free) (entryFrame m args maxL)) : vx_Met l y ws rm Pc Qc XC mc ms free := by
  refine MetFree.of_bodyS (code := cc) (maxLocals := maxL) (ret := ret) hy ?_ ?_
  · intro args s m h hn
    obtain ⟨m9, meth, c, hn9, h1, h2, h3, h4, -, h5, h6, -⟩ := Cond.codeWith_spec (atoms_spec (ws := ws) h _ (by rw [hw]; exact List.mem_cons_self))
    cases hn.symm.trans hn9
    exact ⟨meth, c, h1, h2, h3, h4, h5, h6⟩
  · intro p e s m args below meth c s₁ B hml hP _
    have hh0 : s₁.heap = s.heap := by rw [B.state]; rfl
    obtain ⟨t, a1, o, b1, b2, b3⟩ := body p e s m args below meth c s₁ B hml hP s₁ hh0 (Stand.of_body B)
    exact ⟨t, o, a1, b1, b2, b3⟩
/-! ===== END ===== -/

/-! ===== BEGIN a constructor that throws (launches without stack traces) ===== -/
section VXIA
variable {p : Program} {l : Launch} {e : Env} {R : Room} {s : State} {m : MethodId} {args : Array Value} {below : List Frame} {meth : Method} {c : Code} {T : State} {locs : List Loc} {cells slots : Nat}
theorem vx_callI (X : Stand p l e R s m args below meth c T locs cells slots) (hexec : p.tables.exec = Jvm.exec) {own : String} {index : Nat} {y : MethodName} {bytes : ByteArray} {maxL : Nat}
    (hown : s.vm.findClass own = some m.cls) (hy1 : y.name = "<init>") (hlink : (Cond.methodLink own index y).before args s = true) (hinst : (Cond.instanceMethod y).before args s = true)
    (hcode : (Cond.code y bytes maxL none).before args s = true) (hy : y.cls ≠ "java/lang/invoke/MethodHandle" ∧ y.cls ≠ "java/lang/invoke/VarHandle")
    {W9 : Nat} {Pre : Pt → Array Value → Prop} {Post : Pt → Array Value → Option Value → Pt → Prop} {PostX : Pt → Array Value → Addr → Pt → Prop} (hK : vx_Back l R p e below s args y 3 W9 Pre Post PostX)
    {g : JFrame} (hg : g.method = m) (hsize : g.locals.size = c.maxLocals) {a : Addr} {argsL rest : List Value} (hlen : ∀ sig, parseMethodDescriptor y.desc = some sig → argsL.length = sig.parameters.length)
    (hstack : g.stack = argsL.reverse ++ .ref a :: rest) (hW : 2 * g.monitorRoom + (rest.map fun v => v.category).sum ≤ W9) (hdg : decode c.code g.pc = .ok (.invokespecial index, 3))
    (hpre : ∀ vm₁, s.WarmedH vm₁ → Pre ⟨T.setVm vm₁, locs, cells, slots⟩ (Value.ref a :: argsL).toArray) :
    (∃ (v : Option Value) (vm₁ : Vm) (B : Pt), s.WarmedH vm₁ ∧ Stand p l e R s m args below meth c B.U B.locs B.cells B.slots ∧ Post ⟨T.setVm vm₁, locs, cells, slots⟩ (Value.ref a :: argsL).toArray v B ∧
      ∀ target, Steps p.tables e below (B.U.setTop { g with pc := g.pc + 3, stack := v.toList ++ rest }) target → Steps p.tables e below (T.setTop g) target) ∨
    (∃ (q : Addr) (vm₁ : Vm) (B : Pt), s.WarmedH vm₁ ∧ Stand p l e R s m args below meth c B.U B.locs B.cells B.slots ∧ PostX ⟨T.setVm vm₁, locs, cells, slots⟩ (Value.ref a :: argsL).toArray q B ∧
      Steps p.tables e below (T.setTop g) ((B.U.setTop { g with stack := rest }).pushFrame (.throwing q))) := by
  subst hg
  have hpl : e.platform.magicAccessors = ({} : Platform).magicAccessors := by rw [X.admits.platform]
  obtain ⟨mk, methM, cM, kP, vm₁, hnamed, hmethM, hcodeM, -, hlocalsM, -, hkP, -, hW₁, hstep₁⟩ := Steps.initColdArgs (e := e) X.here hexec X.warmed hpl hown hy1 hy hlink hinst hcode (f := g) rfl hlen hstack hdg
  have X₁ := X.noted hW₁
  rcases hK g.method meth c ⟨T.setVm vm₁, locs, cells, slots⟩ { g with stack := rest } (.invokespecial index) mk (Value.ref a :: argsL).toArray X₁ rfl hsize hdg hW (X₁.named hnamed) (hpre vm₁ X₁.warmed) with ⟨v, B, X', hpost, hsteps⟩ | ⟨q, B, X', hpost, hsteps⟩
  · exact Or.inl ⟨v, vm₁, B, X₁.warmed, X', hpost, fun target h => hstep₁ _ fun acts => by rw [doInvoke_state]; exact hsteps.trans h⟩
  · exact Or.inr ⟨q, vm₁, B, X₁.warmed, X', hpost, hstep₁ _ fun acts => by rw [doInvoke_state]; exact hsteps⟩
end VXIA
section VXIB
variable {p : Program} {l : Launch} {e : Env} {R : Room} {s : State} {m : MethodId} {args : Array Value} {below : List Frame} {meth : Method} {c : Code} {H : Heap} {locs : List Loc} {cells slots : Nat}
variable {y : MethodName} {bytes cc : ByteArray} {maxL nL mc ms n index : Nat} {ret : Option FieldType} {ws : List Cond} {rm : Room} {Pc : Array Value → State → Prop} {Qc : Array Value → State → Outcome → State → Prop} {XC : String → State → State → Prop} {free : Addr → Prop} {Ts : List Cond} {own C : String} {b : Addr} {As rest : List Value} {g : JFrame}
theorem vx_runI (S : CallFix p m c cc nL s args Ts own) (hM : vx_Met l y ws rm Pc Qc XC mc ms free) (cw : CallB R s args own index y bytes maxL none ws rm mc ms n ∧ y.name = "<init>" ∧ (Cond.instanceMethod y).before args s = true) (hp : PreS s H Pc (.ref b :: As))
    (hg : g.method = m) (hn : As.length = n) (hsize : g.locals.size = nL) (hstack : g.stack = As.reverse ++ .ref b :: rest) (hW : 2 * g.monitorRoom + (rest.map fun v => v.category).sum ≤ 8) (hdg : decode cc g.pc = .ok (.invokespecial index, 3)) (hf : cells + mc ≤ R.cells ∧ slots + ms ≤ R.slots) :
    vx_Run p l e R s m args below meth c H locs cells slots mc ms g rest (Qc (Value.ref b :: As).toArray) XC free := by
  have hK : vx_Back l R p e below s args y 3 8 (PreOf R mc ms Pc) (PostOf Qc mc ms free) (vx_Post XC mc ms free) := vx_callBack cw.1 hM hp.1
  obtain ⟨⟨-, -, -, -, -, -, hcode, -, hy, hlen, hl⟩, hy1, hin⟩ := cw
  obtain ⟨hx, hb, hml, ho, -⟩ := S
  have hPc := hp.2
  intro T hT X
  rcases vx_callI X hx (bytes := bytes) (maxL := maxL) ho hy1 hl hin hcode hy hK hg (hsize.trans hml.symm) (a := b) (argsL := As) (rest := rest) (fun sig h => hn.trans (hlen sig h)) hstack hW (by rw [hb]; exact hdg)
    (fun vm₁ hW₁ => ⟨hf.1, hf.2, hPc (T.setVm vm₁) hT hW₁⟩) with ⟨v, vm₁, ⟨U', l2, c2, s2⟩, hW₁, X', ⟨g', mk, t, L, e1, e2, hq, h1, hL, h2, h3⟩, st⟩ | ⟨q, vm₁, ⟨U', l2, c2, s2⟩, hW₁, X', ⟨g', mk, t, L, E, ce, e1, e2, hq, hce, hcv, hcl, h1, hL, h2, h3⟩, st⟩
  · dsimp only [Pt.U, Pt.locs, Pt.cells, Pt.slots] at X' e1 e2 h1 h2 h3 st
    subst h1; subst h2; subst h3
    exact Or.inl ⟨v, (T.setVm vm₁).calling g' mk (Value.ref b :: As).toArray, t, U', L, hT, X', hL, e1, e2, hq, st⟩
  · dsimp only [Pt.U, Pt.locs, Pt.cells, Pt.slots] at X' e1 e2 h1 h2 h3 st hcl
    subst h1; subst h2; subst h3
    exact Or.inr ⟨q, (T.setVm vm₁).calling g' mk (Value.ref b :: As).toArray, t, U', L, E, ce, hT, X', hL, e1, e2, hq, hce, hcv, vx_cls hW₁ hcl, st⟩
end VXIB
/-! ===== END ===== -/
/-! ===== BEGIN a private constructor of a nest mate that throws ===== -/
section VXIC
variable {p : Program} {l : Launch} {e : Env} {R : Room} {s : State} {m : MethodId} {args : Array Value} {below : List Frame} {meth : Method} {c : Code} {T : State} {locs : List Loc} {cells slots : Nat}
theorem vx_callIN (X : Stand p l e R s m args below meth c T locs cells slots) (hexec : p.tables.exec = Jvm.exec) {own : String} {index : Nat} {host : String} {y : MethodName} {bytes : ByteArray} {maxL : Nat}
    (hown : s.vm.findClass own = some m.cls) (hy1 : y.name = "<init>") (hlink : (Cond.methodLinkNest own index y host).before args s = true) (hinst : (Cond.instanceMethod y).before args s = true)
    (hcode : (Cond.code y bytes maxL none).before args s = true) (hy : y.cls ≠ "java/lang/invoke/MethodHandle" ∧ y.cls ≠ "java/lang/invoke/VarHandle")
    {W9 : Nat} {Pre : Pt → Array Value → Prop} {Post : Pt → Array Value → Option Value → Pt → Prop} {PostX : Pt → Array Value → Addr → Pt → Prop} (hK : vx_Back l R p e below s args y 3 W9 Pre Post PostX)
    {g : JFrame} (hg : g.method = m) (hsize : g.locals.size = c.maxLocals) {a : Addr} {argsL rest : List Value} (hlen : ∀ sig, parseMethodDescriptor y.desc = some sig → argsL.length = sig.parameters.length)
    (hstack : g.stack = argsL.reverse ++ .ref a :: rest) (hW : 2 * g.monitorRoom + (rest.map fun v => v.category).sum ≤ W9) (hdg : decode c.code g.pc = .ok (.invokespecial index, 3))
    (hpre : ∀ vm₁, s.WarmedH vm₁ → Pre ⟨T.setVm vm₁, locs, cells, slots⟩ (Value.ref a :: argsL).toArray) :
    (∃ (v : Option Value) (vm₁ : Vm) (B : Pt), s.WarmedH vm₁ ∧ Stand p l e R s m args below meth c B.U B.locs B.cells B.slots ∧ Post ⟨T.setVm vm₁, locs, cells, slots⟩ (Value.ref a :: argsL).toArray v B ∧
      ∀ target, Steps p.tables e below (B.U.setTop { g with pc := g.pc + 3, stack := v.toList ++ rest }) target → Steps p.tables e below (T.setTop g) target) ∨
    (∃ (q : Addr) (vm₁ : Vm) (B : Pt), s.WarmedH vm₁ ∧ Stand p l e R s m args below meth c B.U B.locs B.cells B.slots ∧ PostX ⟨T.setVm vm₁, locs, cells, slots⟩ (Value.ref a :: argsL).toArray q B ∧
      Steps p.tables e below (T.setTop g) ((B.U.setTop { g with stack := rest }).pushFrame (.throwing q))) := by
  subst hg
  have hpl : e.platform.magicAccessors = ({} : Platform).magicAccessors := by rw [X.admits.platform]
  obtain ⟨mk, methM, cM, kP, vm₁, hnamed, hmethM, hcodeM, -, hlocalsM, -, hkP, -, hW₁, hstep₁⟩ := Steps.initColdArgsNest (e := e) X.here hexec X.warmed hpl hown hy1 hy hlink hinst hcode (f := g) rfl hlen hstack hdg
  have X₁ := X.noted hW₁
  rcases hK g.method meth c ⟨T.setVm vm₁, locs, cells, slots⟩ { g with stack := rest } (.invokespecial index) mk (Value.ref a :: argsL).toArray X₁ rfl hsize hdg hW (X₁.named hnamed) (hpre vm₁ X₁.warmed) with ⟨v, B, X', hpost, hsteps⟩ | ⟨q, B, X', hpost, hsteps⟩
  · exact Or.inl ⟨v, vm₁, B, X₁.warmed, X', hpost, fun target h => hstep₁ _ fun acts => by rw [doInvoke_state]; exact hsteps.trans h⟩
  · exact Or.inr ⟨q, vm₁, B, X₁.warmed, X', hpost, hstep₁ _ fun acts => by rw [doInvoke_state]; exact hsteps⟩
end VXIC
section VXID
variable {p : Program} {l : Launch} {e : Env} {R : Room} {s : State} {m : MethodId} {args : Array Value} {below : List Frame} {meth : Method} {c : Code} {H : Heap} {locs : List Loc} {cells slots : Nat}
theorem vx_runIN {y : MethodName} {bytes cc : ByteArray} {maxL nL mc ms n index : Nat} {ws : List Cond} {rm : Room} {Pc : Array Value → State → Prop} {Qc : Array Value → State → Outcome → State → Prop} {XC : String → State → State → Prop} {free : Addr → Prop} {Ts : List Cond} {own host : String} {b : Addr} {As rest : List Value} {g : JFrame}
    (S : CallFix p m c cc nL s args Ts own) (hM : vx_Met l y ws rm Pc Qc XC mc ms free) (cw : va_CN R s args own index y host bytes maxL none ws rm mc ms n ∧ y.name = "<init>" ∧ (Cond.instanceMethod y).before args s = true) (hp : PreS s H Pc (.ref b :: As))
    (hg : g.method = m) (hn : As.length = n) (hsize : g.locals.size = nL) (hstack : g.stack = As.reverse ++ .ref b :: rest) (hW : 2 * g.monitorRoom + (rest.map fun v => v.category).sum ≤ 8) (hdg : decode cc g.pc = .ok (.invokespecial index, 3)) (hf : cells + mc ≤ R.cells ∧ slots + ms ≤ R.slots) :
    vx_Run p l e R s m args below meth c H locs cells slots mc ms g rest (Qc (Value.ref b :: As).toArray) XC free := by
  obtain ⟨⟨⟨hrc, hrs, hfr, hlo, hws, hcw⟩, hcode, hini, hy, hlen, hl⟩, hx1, hx2⟩ := cw
  have hK : vx_Back l R p e below s args y 3 8 (PreOf R mc ms Pc) (PostOf Qc mc ms free) (vx_Post XC mc ms free) := vx_back (bytes := bytes) (maxL := maxL) (ret := none) hM hp.1 hrc hrs hfr hlo hws hcw (fun a' U hW => word_at hW (Or.inl (by first | rfl | simp [Cond.onTables, Cond.keeps, Cond.steady])) hini)
  obtain ⟨hx, hb, hml, ho, -⟩ := S
  have hPc := hp.2
  intro T hT X
  rcases vx_callIN X hx (bytes := bytes) (maxL := maxL) ho hx1 hl hx2 hcode hy hK hg (hsize.trans hml.symm) (a := b) (argsL := As) (rest := rest) (fun sig h => hn.trans (hlen sig h)) hstack hW (by rw [hb]; exact hdg)
    (fun vm₁ hW₁ => ⟨hf.1, hf.2, hPc (T.setVm vm₁) hT hW₁⟩) with ⟨v, vm₁, ⟨U', l2, c2, s2⟩, hW₁, X', ⟨g', mk, t, L, e1, e2, hq, h1, hL, h2, h3⟩, st⟩ | ⟨q, vm₁, ⟨U', l2, c2, s2⟩, hW₁, X', ⟨g', mk, t, L, E, ce, e1, e2, hq, hce, hcv, hcl, h1, hL, h2, h3⟩, st⟩
  · dsimp only [Pt.U, Pt.locs, Pt.cells, Pt.slots] at X' e1 e2 h1 h2 h3 st
    subst h1; subst h2; subst h3
    exact Or.inl ⟨v, (T.setVm vm₁).calling g' mk (Value.ref b :: As).toArray, t, U', L, hT, X', hL, e1, e2, hq, st⟩
  · dsimp only [Pt.U, Pt.locs, Pt.cells, Pt.slots] at X' e1 e2 h1 h2 h3 st hcl
    subst h1; subst h2; subst h3
    exact Or.inr ⟨q, (T.setVm vm₁).calling g' mk (Value.ref b :: As).toArray, t, U', L, E, ce, hT, X', hL, e1, e2, hq, hce, hcv, vx_cls hW₁ hcl, st⟩
end VXID
/-! ===== END ===== -/
end
section
def RX0 : String := "GhostCandles$Grid"
def TX0 : u_T := fun k => match k with
  | _ => ("", "", "", false)
def tyX0 : Nat → FieldType := fun k => match k with
  | _ => .int
theorem nmX0 : ∀ a, a < 0 → ∀ b, b < 0 → a ≠ b → (TX0 a).2.1 ≠ (TX0 b).2.1 := by decide +kernel
theorem tyX0_ok : ∀ k, k < 0 → parseFieldDescriptor (TX0 k).2.2.1 = some (tyX0 k) := by decide +kernel
abbrev cX0_only : ByteArray := prog_2_method_2_code
def yX0_only : MethodName := ⟨RX0, "only", "(I)J"⟩
abbrev cX0_holds : ByteArray := prog_2_method_3_code
def yX0_holds : MethodName := ⟨RX0, "holds", "(JI)Z"⟩
abbrev cX0_moved : ByteArray := prog_2_method_4_code
def yX0_moved : MethodName := ⟨RX0, "moved", "(JI)J"⟩
abbrev cX0_isRim : ByteArray := prog_2_method_5_code
def yX0_isRim : MethodName := ⟨RX0, "isRim", "(II)Z"⟩
abbrev cX0_neighbour : ByteArray := prog_2_method_6_code
def yX0_neighbour : MethodName := ⟨RX0, "neighbour", "(II)I"⟩
def RX1 : String := "GhostCandles$House"
def TX1 : u_T := fun k => match k with
  | 0 => ("GhostCandles$House", "candles", "J", false)
  | 1 => ("GhostCandles$House", "burning", "J", false)
  | 2 => ("GhostCandles$House", "mirrorsToRight", "J", false)
  | 3 => ("GhostCandles$House", "mirrorsToLeft", "J", false)
  | 4 => ("GhostCandles$House", "tallies", "J", false)
  | 5 => ("GhostCandles$House", "wallsToRight", "J", false)
  | 6 => ("GhostCandles$House", "wallsBelow", "J", false)
  | 7 => ("GhostCandles$House", "lit", "J", false)
  | _ => ("GhostCandles$House", "amounts", "LGhostCandles$Row;", true)
def tyX1 : Nat → FieldType := fun k => match k with
  | 0 => .long
  | 1 => .long
  | 2 => .long
  | 3 => .long
  | 4 => .long
  | 5 => .long
  | 6 => .long
  | 7 => .long
  | _ => .object "GhostCandles$Row"
theorem nmX1 : ∀ a, a < 9 → ∀ b, b < 9 → a ≠ b → (TX1 a).2.1 ≠ (TX1 b).2.1 := by decide +kernel
theorem tyX1_ok : ∀ k, k < 9 → parseFieldDescriptor (TX1 k).2.2.1 = some (tyX1 k) := by decide +kernel
abbrev cX1_init : ByteArray := prog_3_method_1_code
def yX1_init : MethodName := ⟨RX1, "<init>", "()V"⟩
abbrev cX1_copyFrom : ByteArray := prog_3_method_2_code
def yX1_copyFrom : MethodName := ⟨RX1, "copyFrom", "(LGhostCandles$House;)V"⟩
abbrev cX1_candleCount : ByteArray := prog_3_method_3_code
def yX1_candleCount : MethodName := ⟨RX1, "candleCount", "()I"⟩
abbrev cX1_burningCount : ByteArray := prog_3_method_4_code
def yX1_burningCount : MethodName := ⟨RX1, "burningCount", "()I"⟩
abbrev cX1_mirrorCount : ByteArray := prog_3_method_5_code
def yX1_mirrorCount : MethodName := ⟨RX1, "mirrorCount", "()I"⟩
abbrev cX1_tallyCount : ByteArray := prog_3_method_6_code
def yX1_tallyCount : MethodName := ⟨RX1, "tallyCount", "()I"⟩
abbrev cX1_wallCount : ByteArray := prog_3_method_7_code
def yX1_wallCount : MethodName := ⟨RX1, "wallCount", "()I"⟩
abbrev cX1_litCount : ByteArray := prog_3_method_8_code
def yX1_litCount : MethodName := ⟨RX1, "litCount", "()I"⟩
abbrev cX1_sumOfMarks : ByteArray := prog_3_method_9_code
def yX1_sumOfMarks : MethodName := ⟨RX1, "sumOfMarks", "()I"⟩
abbrev cX1_isBurning : ByteArray := prog_3_method_10_code
def yX1_isBurning : MethodName := ⟨RX1, "isBurning", "(I)Z"⟩
abbrev cX1_isLit : ByteArray := prog_3_method_11_code
def yX1_isLit : MethodName := ⟨RX1, "isLit", "(I)Z"⟩
abbrev cX1_hasTally : ByteArray := prog_3_method_12_code
def yX1_hasTally : MethodName := ⟨RX1, "hasTally", "(I)Z"⟩
abbrev cX1_hasCandleWithWax : ByteArray := prog_3_method_13_code
def yX1_hasCandleWithWax : MethodName := ⟨RX1, "hasCandleWithWax", "(I)Z"⟩
abbrev cX1_amountIn : ByteArray := prog_3_method_14_code
def yX1_amountIn : MethodName := ⟨RX1, "amountIn", "(I)I"⟩
abbrev cX1_thingIn : ByteArray := prog_3_method_15_code
def yX1_thingIn : MethodName := ⟨RX1, "thingIn", "(I)I"⟩
abbrev cX1_addCandle : ByteArray := prog_3_method_16_code
def yX1_addCandle : MethodName := ⟨RX1, "addCandle", "(II)V"⟩
abbrev cX1_addMirror : ByteArray := prog_3_method_17_code
def yX1_addMirror : MethodName := ⟨RX1, "addMirror", "(IZ)V"⟩
abbrev cX1_addTally : ByteArray := prog_3_method_18_code
def yX1_addTally : MethodName := ⟨RX1, "addTally", "(I)V"⟩
abbrev cX1_clear : ByteArray := prog_3_method_19_code
def yX1_clear : MethodName := ⟨RX1, "clear", "(I)V"⟩
abbrev cX1_switchCandle : ByteArray := prog_3_method_20_code
def yX1_switchCandle : MethodName := ⟨RX1, "switchCandle", "(I)V"⟩
abbrev cX1_walledCells : ByteArray := prog_3_method_21_code
def yX1_walledCells : MethodName := ⟨RX1, "walledCells", "(I)J"⟩
abbrev cX1_hasWall : ByteArray := prog_3_method_22_code
def yX1_hasWall : MethodName := ⟨RX1, "hasWall", "(II)Z"⟩
abbrev cX1_switchWall : ByteArray := prog_3_method_23_code
def yX1_switchWall : MethodName := ⟨RX1, "switchWall", "(II)V"⟩
abbrev cX1_neighbours : ByteArray := prog_3_method_24_code
def yX1_neighbours : MethodName := ⟨RX1, "neighbours", "(JZ)J"⟩
abbrev cX1_cellsLitFrom : ByteArray := prog_3_method_25_code
def yX1_cellsLitFrom : MethodName := ⟨RX1, "cellsLitFrom", "(I)J"⟩
abbrev cX1_turned : ByteArray := prog_3_method_26_code
def yX1_turned : MethodName := ⟨RX1, "turned", "(JI)I"⟩
abbrev cX1_relight : ByteArray := prog_3_method_27_code
def yX1_relight : MethodName := ⟨RX1, "relight", "()V"⟩
abbrev cX1_burnDown : ByteArray := prog_3_method_28_code
def yX1_burnDown : MethodName := ⟨RX1, "burnDown", "()V"⟩
abbrev cX1_blowOutAround : ByteArray := prog_3_method_29_code
def yX1_blowOutAround : MethodName := ⟨RX1, "blowOutAround", "(I)V"⟩
abbrev cX1_addMark : ByteArray := prog_3_method_30_code
def yX1_addMark : MethodName := ⟨RX1, "addMark", "(I)V"⟩
def RX2 : String := "GhostCandles$Night"
def TX2 : u_T := fun k => match k with
  | 0 => ("GhostCandles$Night", "house", "LGhostCandles$House;", true)
  | 1 => ("GhostCandles$Night", "ways", "LGhostCandles$Ways;", true)
  | 2 => ("GhostCandles$Night", "traits", "LGhostCandles$Row;", true)
  | 3 => ("GhostCandles$Night", "ghostCount", "I", false)
  | _ => ("GhostCandles$Night", "hour", "I", false)
def tyX2 : Nat → FieldType := fun k => match k with
  | 0 => .object "GhostCandles$House"
  | 1 => .object "GhostCandles$Ways"
  | 2 => .object "GhostCandles$Row"
  | 3 => .int
  | _ => .int
theorem nmX2 : ∀ a, a < 5 → ∀ b, b < 5 → a ≠ b → (TX2 a).2.1 ≠ (TX2 b).2.1 := by decide +kernel
theorem tyX2_ok : ∀ k, k < 5 → parseFieldDescriptor (TX2 k).2.2.1 = some (tyX2 k) := by decide +kernel
abbrev cX2_init : ByteArray := prog_4_method_1_code
def yX2_init : MethodName := ⟨RX2, "<init>", "()V"⟩
abbrev cX2_copyFrom : ByteArray := prog_4_method_2_code
def yX2_copyFrom : MethodName := ⟨RX2, "copyFrom", "(LGhostCandles$Night;)V"⟩
abbrev cX2_trait : ByteArray := prog_4_method_3_code
def yX2_trait : MethodName := ⟨RX2, "trait", "(II)I"⟩
abbrev cX2_setTrait : ByteArray := prog_4_method_4_code
def yX2_setTrait : MethodName := ⟨RX2, "setTrait", "(III)V"⟩
abbrev cX2_sumOfTrait : ByteArray := prog_4_method_5_code
def yX2_sumOfTrait : MethodName := ⟨RX2, "sumOfTrait", "(I)I"⟩
abbrev cX2_mayPass : ByteArray := prog_4_method_6_code
def yX2_mayPass : MethodName := ⟨RX2, "mayPass", "(I)Z"⟩
abbrev cX2_cellOf : ByteArray := prog_4_method_7_code
def yX2_cellOf : MethodName := ⟨RX2, "cellOf", "(I)I"⟩
abbrev cX2_goalOf : ByteArray := prog_4_method_8_code
def yX2_goalOf : MethodName := ⟨RX2, "goalOf", "(I)I"⟩
abbrev cX2_setCell : ByteArray := prog_4_method_9_code
def yX2_setCell : MethodName := ⟨RX2, "setCell", "(II)V"⟩
abbrev cX2_setGoal : ByteArray := prog_4_method_10_code
def yX2_setGoal : MethodName := ⟨RX2, "setGoal", "(II)V"⟩
abbrev cX2_addGhost : ByteArray := prog_4_method_11_code
def yX2_addGhost : MethodName := ⟨RX2, "addGhost", "(II)I"⟩
abbrev cX2_ghostsIn : ByteArray := prog_4_method_12_code
def yX2_ghostsIn : MethodName := ⟨RX2, "ghostsIn", "(I)I"⟩
abbrev cX2_ghostsAtGoals : ByteArray := prog_4_method_13_code
def yX2_ghostsAtGoals : MethodName := ⟨RX2, "ghostsAtGoals", "()I"⟩
abbrev cX2_aboutCell : ByteArray := prog_4_method_14_code
def yX2_aboutCell : MethodName := ⟨RX2, "aboutCell", "(II)I"⟩
abbrev cX2_aboutAll : ByteArray := prog_4_method_15_code
def yX2_aboutAll : MethodName := ⟨RX2, "aboutAll", "(I)I"⟩
abbrev cX2_stepsTo : ByteArray := prog_4_method_16_code
def yX2_stepsTo : MethodName := ⟨RX2, "stepsTo", "(II)I"⟩
abbrev cX2_nextDirection : ByteArray := prog_4_method_17_code
def yX2_nextDirection : MethodName := ⟨RX2, "nextDirection", "(I)I"⟩
abbrev cX2_passHour : ByteArray := prog_4_method_18_code
def yX2_passHour : MethodName := ⟨RX2, "passHour", "()I"⟩
abbrev cX2_takeStep : ByteArray := prog_4_method_19_code
def yX2_takeStep : MethodName := ⟨RX2, "takeStep", "(I)V"⟩
abbrev cX2_hauntsOrFears : ByteArray := prog_4_method_20_code
def yX2_hauntsOrFears : MethodName := ⟨RX2, "hauntsOrFears", "(I)Z"⟩
def RX3 : String := "GhostCandles$Row"
def TX3 : u_T := fun k => match k with
  | _ => ("GhostCandles$Row", "numbers", "[I", true)
def tyX3 : Nat → FieldType := fun k => match k with
  | _ => .array .int
theorem nmX3 : ∀ a, a < 1 → ∀ b, b < 1 → a ≠ b → (TX3 a).2.1 ≠ (TX3 b).2.1 := by decide +kernel
theorem tyX3_ok : ∀ k, k < 1 → parseFieldDescriptor (TX3 k).2.2.1 = some (tyX3 k) := by decide +kernel
abbrev cX3_init : ByteArray := prog_5_method_1_code
def yX3_init : MethodName := ⟨RX3, "<init>", "(I)V"⟩
abbrev cX3_get : ByteArray := prog_5_method_2_code
def yX3_get : MethodName := ⟨RX3, "get", "(I)I"⟩
abbrev cX3_put : ByteArray := prog_5_method_3_code
def yX3_put : MethodName := ⟨RX3, "put", "(II)V"⟩
abbrev cX3_copyFrom : ByteArray := prog_5_method_4_code
def yX3_copyFrom : MethodName := ⟨RX3, "copyFrom", "(LGhostCandles$Row;)V"⟩
def RX4 : String := "GhostCandles$Ways"
def TX4 : u_T := fun k => match k with
  | 0 => ("GhostCandles$Ways", "house", "LGhostCandles$House;", true)
  | 1 => ("GhostCandles$Ways", "own", "J", false)
  | 2 => ("GhostCandles$Ways", "mayPass", "Z", false)
  | 3 => ("GhostCandles$Ways", "plain", "J", false)
  | _ => ("GhostCandles$Ways", "passing", "J", false)
def tyX4 : Nat → FieldType := fun k => match k with
  | 0 => .object "GhostCandles$House"
  | 1 => .long
  | 2 => .boolean
  | 3 => .long
  | _ => .long
theorem nmX4 : ∀ a, a < 5 → ∀ b, b < 5 → a ≠ b → (TX4 a).2.1 ≠ (TX4 b).2.1 := by decide +kernel
theorem tyX4_ok : ∀ k, k < 5 → parseFieldDescriptor (TX4 k).2.2.1 = some (tyX4 k) := by decide +kernel
abbrev cX4_init : ByteArray := prog_6_method_1_code
def yX4_init : MethodName := ⟨RX4, "<init>", "(LGhostCandles$House;)V"⟩
abbrev cX4_fewestSteps : ByteArray := prog_6_method_2_code
def yX4_fewestSteps : MethodName := ⟨RX4, "fewestSteps", "(IIZ)I"⟩
abbrev cX4_firstDirection : ByteArray := prog_6_method_3_code
def yX4_firstDirection : MethodName := ⟨RX4, "firstDirection", "()I"⟩
def RX5 : String := "GhostCandles"
def TX5 : u_T := fun k => match k with
  | 0 => ("GhostCandles", "now", "LGhostCandles$Night;", true)
  | _ => ("GhostCandles", "ahead", "LGhostCandles$Night;", true)
def tyX5 : Nat → FieldType := fun k => match k with
  | 0 => .object "GhostCandles$Night"
  | _ => .object "GhostCandles$Night"
theorem nmX5 : ∀ a, a < 2 → ∀ b, b < 2 → a ≠ b → (TX5 a).2.1 ≠ (TX5 b).2.1 := by decide +kernel
theorem tyX5_ok : ∀ k, k < 2 → parseFieldDescriptor (TX5 k).2.2.1 = some (tyX5 k) := by decide +kernel
abbrev cX5_init : ByteArray := prog_1_method_1_code
def yX5_init : MethodName := ⟨RX5, "<init>", "()V"⟩
abbrev cX5_wall : ByteArray := prog_1_method_2_code
def yX5_wall : MethodName := ⟨RX5, "wall", "(III)Z"⟩
abbrev cX5_candle : ByteArray := prog_1_method_3_code
def yX5_candle : MethodName := ⟨RX5, "candle", "(III)I"⟩
abbrev cX5_mirror : ByteArray := prog_1_method_4_code
def yX5_mirror : MethodName := ⟨RX5, "mirror", "(IIZ)I"⟩
abbrev cX5_tally : ByteArray := prog_1_method_5_code
def yX5_tally : MethodName := ⟨RX5, "tally", "(II)I"⟩
abbrev cX5_remove : ByteArray := prog_1_method_6_code
def yX5_remove : MethodName := ⟨RX5, "remove", "(II)I"⟩
abbrev cX5_light : ByteArray := prog_1_method_7_code
def yX5_light : MethodName := ⟨RX5, "light", "(II)Z"⟩
abbrev cX5_come : ByteArray := prog_1_method_8_code
def yX5_come : MethodName := ⟨RX5, "come", "(III)I"⟩
abbrev cX5_send : ByteArray := prog_1_method_9_code
def yX5_send : MethodName := ⟨RX5, "send", "(III)I"⟩
abbrev cX5_rite : ByteArray := prog_1_method_10_code
def yX5_rite : MethodName := ⟨RX5, "rite", "(I)I"⟩
abbrev cX5_cell : ByteArray := prog_1_method_11_code
def yX5_cell : MethodName := ⟨RX5, "cell", "(III)I"⟩
abbrev cX5_walled : ByteArray := prog_1_method_12_code
def yX5_walled : MethodName := ⟨RX5, "walled", "(III)Z"⟩
abbrev cX5_ghost : ByteArray := prog_1_method_13_code
def yX5_ghost : MethodName := ⟨RX5, "ghost", "(II)I"⟩
abbrev cX5_count : ByteArray := prog_1_method_14_code
def yX5_count : MethodName := ⟨RX5, "count", "(I)I"⟩
abbrev cX5_shines : ByteArray := prog_1_method_15_code
def yX5_shines : MethodName := ⟨RX5, "shines", "(II)I"⟩
abbrev cX5_way : ByteArray := prog_1_method_16_code
def yX5_way : MethodName := ⟨RX5, "way", "(III)I"⟩
abbrev cX5_next : ByteArray := prog_1_method_17_code
def yX5_next : MethodName := ⟨RX5, "next", "(I)I"⟩
abbrev cX5_pass : ByteArray := prog_1_method_18_code
def yX5_pass : MethodName := ⟨RX5, "pass", "(I)I"⟩
abbrev cX5_foresee : ByteArray := prog_1_method_19_code
def yX5_foresee : MethodName := ⟨RX5, "foresee", "(II)I"⟩
abbrev cX5_reaches : ByteArray := prog_1_method_20_code
def yX5_reaches : MethodName := ⟨RX5, "reaches", "(III)I"⟩
abbrev cX5_advise : ByteArray := prog_1_method_21_code
def yX5_advise : MethodName := ⟨RX5, "advise", "(I)I"⟩
abbrev cX5_mean : ByteArray := prog_1_method_22_code
def yX5_mean : MethodName := ⟨RX5, "mean", "()D"⟩
abbrev cX5_digest : ByteArray := prog_1_method_23_code
def yX5_digest : MethodName := ⟨RX5, "digest", "()J"⟩
abbrev cX5_hauntsAhead : ByteArray := prog_1_method_24_code
def yX5_hauntsAhead : MethodName := ⟨RX5, "hauntsAhead", "(II)I"⟩
abbrev cX5_checkedCell : ByteArray := prog_1_method_25_code
def yX5_checkedCell : MethodName := ⟨RX5, "checkedCell", "(II)I"⟩
abbrev cX5_checkDirection : ByteArray := prog_1_method_26_code
def yX5_checkDirection : MethodName := ⟨RX5, "checkDirection", "(I)V"⟩
abbrev cX5_checkWhat : ByteArray := prog_1_method_27_code
def yX5_checkWhat : MethodName := ⟨RX5, "checkWhat", "(II)V"⟩
abbrev cX5_checkHours : ByteArray := prog_1_method_28_code
def yX5_checkHours : MethodName := ⟨RX5, "checkHours", "(II)V"⟩
abbrev cX5_checkGhost : ByteArray := prog_1_method_29_code
def yX5_checkGhost : MethodName := ⟨RX5, "checkGhost", "(I)V"⟩
abbrev cX5_checkRoomFor : ByteArray := prog_1_method_30_code
def yX5_checkRoomFor : MethodName := ⟨RX5, "checkRoomFor", "(III)V"⟩
def RX6 : String := "GhostCandlesModel"
def TX6 : u_T := fun k => match k with
  | 0 => ("GhostCandlesModel", "thrown", "I", false)
  | 1 => ("GhostCandlesModel", "right", "[Z", true)
  | 2 => ("GhostCandlesModel", "below", "[Z", true)
  | 3 => ("GhostCandlesModel", "things", "[I", true)
  | 4 => ("GhostCandlesModel", "values", "[I", true)
  | 5 => ("GhostCandlesModel", "burns", "[I", true)
  | 6 => ("GhostCandlesModel", "ghosts", "I", false)
  | 7 => ("GhostCandlesModel", "spooks", "[I", true)
  | 8 => ("GhostCandlesModel", "numbers", "[I", true)
  | 9 => ("GhostCandlesModel", "lit", "[Z", true)
  | 10 => ("GhostCandlesModel", "steps", "[I", true)
  | _ => ("GhostCandlesModel", "row", "[I", true)
def tyX6 : Nat → FieldType := fun k => match k with
  | 0 => .int
  | 1 => .array .boolean
  | 2 => .array .boolean
  | 3 => .array .int
  | 4 => .array .int
  | 5 => .array .int
  | 6 => .int
  | 7 => .array .int
  | 8 => .array .int
  | 9 => .array .boolean
  | 10 => .array .int
  | _ => .array .int
theorem nmX6 : ∀ a, a < 12 → ∀ b, b < 12 → a ≠ b → (TX6 a).2.1 ≠ (TX6 b).2.1 := by decide +kernel
theorem tyX6_ok : ∀ k, k < 12 → parseFieldDescriptor (TX6 k).2.2.1 = some (tyX6 k) := by decide +kernel
abbrev cX6_init : ByteArray := prog_8_method_1_code
def yX6_init : MethodName := ⟨RX6, "<init>", "()V"⟩
abbrev cX6_thrown : ByteArray := prog_8_method_2_code
def yX6_thrown : MethodName := ⟨RX6, "thrown", "()I"⟩
abbrev cX6_fail : ByteArray := prog_8_method_3_code
def yX6_fail : MethodName := ⟨RX6, "fail", "(I)I"⟩
abbrev cX6_isIn : ByteArray := prog_8_method_4_code
def yX6_isIn : MethodName := ⟨RX6, "isIn", "(III)Z"⟩
abbrev cX6_isCell : ByteArray := prog_8_method_5_code
def yX6_isCell : MethodName := ⟨RX6, "isCell", "(II)Z"⟩
abbrev cX6_isGhost : ByteArray := prog_8_method_6_code
def yX6_isGhost : MethodName := ⟨RX6, "isGhost", "(I)Z"⟩
abbrev cX6_sp : ByteArray := prog_8_method_7_code
def yX6_sp : MethodName := ⟨RX6, "sp", "(II)I"⟩
abbrev cX6_put : ByteArray := prog_8_method_8_code
def yX6_put : MethodName := ⟨RX6, "put", "(III)V"⟩
abbrev cX6_beside : ByteArray := prog_8_method_9_code
def yX6_beside : MethodName := ⟨RX6, "beside", "(II)I"⟩
abbrev cX6_hasWall : ByteArray := prog_8_method_10_code
def yX6_hasWall : MethodName := ⟨RX6, "hasWall", "(II)Z"⟩
abbrev cX6_wall : ByteArray := prog_8_method_11_code
def yX6_wall : MethodName := ⟨RX6, "wall", "(III)Z"⟩
abbrev cX6_things : ByteArray := prog_8_method_12_code
def yX6_things : MethodName := ⟨RX6, "things", "(II)I"⟩
abbrev cX6_set : ByteArray := prog_8_method_13_code
def yX6_set : MethodName := ⟨RX6, "set", "(IIII)I"⟩
abbrev cX6_candle : ByteArray := prog_8_method_14_code
def yX6_candle : MethodName := ⟨RX6, "candle", "(III)I"⟩
abbrev cX6_mirror : ByteArray := prog_8_method_15_code
def yX6_mirror : MethodName := ⟨RX6, "mirror", "(IIZ)I"⟩
abbrev cX6_tally : ByteArray := prog_8_method_16_code
def yX6_tally : MethodName := ⟨RX6, "tally", "(II)I"⟩
abbrev cX6_remove : ByteArray := prog_8_method_17_code
def yX6_remove : MethodName := ⟨RX6, "remove", "(II)I"⟩
abbrev cX6_light : ByteArray := prog_8_method_18_code
def yX6_light : MethodName := ⟨RX6, "light", "(II)Z"⟩
abbrev cX6_turned : ByteArray := prog_8_method_19_code
def yX6_turned : MethodName := ⟨RX6, "turned", "(II)I"⟩
abbrev cX6_shine : ByteArray := prog_8_method_20_code
def yX6_shine : MethodName := ⟨RX6, "shine", "(I)V"⟩
abbrev cX6_reckonLight : ByteArray := prog_8_method_21_code
def yX6_reckonLight : MethodName := ⟨RX6, "reckonLight", "()V"⟩
abbrev cX6_litCells : ByteArray := prog_8_method_22_code
def yX6_litCells : MethodName := ⟨RX6, "litCells", "()I"⟩
abbrev cX6_shines : ByteArray := prog_8_method_23_code
def yX6_shines : MethodName := ⟨RX6, "shines", "(II)I"⟩
abbrev cX6_reckonWays : ByteArray := prog_8_method_24_code
def yX6_reckonWays : MethodName := ⟨RX6, "reckonWays", "(I)V"⟩
abbrev cX6_from : ByteArray := prog_8_method_25_code
def yX6_from : MethodName := ⟨RX6, "from", "(II)I"⟩
abbrev cX6_wayOf : ByteArray := prog_8_method_26_code
def yX6_wayOf : MethodName := ⟨RX6, "wayOf", "(II)I"⟩
abbrev cX6_nextOf : ByteArray := prog_8_method_27_code
def yX6_nextOf : MethodName := ⟨RX6, "nextOf", "(I)I"⟩
abbrev cX6_way : ByteArray := prog_8_method_28_code
def yX6_way : MethodName := ⟨RX6, "way", "(III)I"⟩
abbrev cX6_next : ByteArray := prog_8_method_29_code
def yX6_next : MethodName := ⟨RX6, "next", "(I)I"⟩
abbrev cX6_come : ByteArray := prog_8_method_30_code
def yX6_come : MethodName := ⟨RX6, "come", "(III)I"⟩
abbrev cX6_send : ByteArray := prog_8_method_31_code
def yX6_send : MethodName := ⟨RX6, "send", "(III)I"⟩
abbrev cX6_rite : ByteArray := prog_8_method_32_code
def yX6_rite : MethodName := ⟨RX6, "rite", "(I)I"⟩
abbrev cX6_cellTold : ByteArray := prog_8_method_33_code
def yX6_cellTold : MethodName := ⟨RX6, "cellTold", "(II)I"⟩
abbrev cX6_cell : ByteArray := prog_8_method_34_code
def yX6_cell : MethodName := ⟨RX6, "cell", "(III)I"⟩
abbrev cX6_walled : ByteArray := prog_8_method_35_code
def yX6_walled : MethodName := ⟨RX6, "walled", "(III)Z"⟩
abbrev cX6_ghostTold : ByteArray := prog_8_method_36_code
def yX6_ghostTold : MethodName := ⟨RX6, "ghostTold", "(II)I"⟩
abbrev cX6_ghost : ByteArray := prog_8_method_37_code
def yX6_ghost : MethodName := ⟨RX6, "ghost", "(II)I"⟩
abbrev cX6_burning : ByteArray := prog_8_method_38_code
def yX6_burning : MethodName := ⟨RX6, "burning", "()I"⟩
abbrev cX6_marks : ByteArray := prog_8_method_39_code
def yX6_marks : MethodName := ⟨RX6, "marks", "()I"⟩
abbrev cX6_walls : ByteArray := prog_8_method_40_code
def yX6_walls : MethodName := ⟨RX6, "walls", "()I"⟩
abbrev cX6_counted : ByteArray := prog_8_method_41_code
def yX6_counted : MethodName := ⟨RX6, "counted", "(I)I"⟩
abbrev cX6_count : ByteArray := prog_8_method_42_code
def yX6_count : MethodName := ⟨RX6, "count", "(I)I"⟩
abbrev cX6_step : ByteArray := prog_8_method_43_code
def yX6_step : MethodName := ⟨RX6, "step", "(I)Z"⟩
abbrev cX6_haunt : ByteArray := prog_8_method_44_code
def yX6_haunt : MethodName := ⟨RX6, "haunt", "(I)V"⟩
abbrev cX6_hourOn : ByteArray := prog_8_method_45_code
def yX6_hourOn : MethodName := ⟨RX6, "hourOn", "()V"⟩
abbrev cX6_hoursOn : ByteArray := prog_8_method_46_code
def yX6_hoursOn : MethodName := ⟨RX6, "hoursOn", "(I)V"⟩
abbrev cX6_pass : ByteArray := prog_8_method_47_code
def yX6_pass : MethodName := ⟨RX6, "pass", "(I)I"⟩
abbrev cX6_kept : ByteArray := prog_8_method_48_code
def yX6_kept : MethodName := ⟨RX6, "kept", "()[[I"⟩
abbrev cX6_bringBack : ByteArray := prog_8_method_49_code
def yX6_bringBack : MethodName := ⟨RX6, "bringBack", "([[I)V"⟩
abbrev cX6_foresee : ByteArray := prog_8_method_50_code
def yX6_foresee : MethodName := ⟨RX6, "foresee", "(II)I"⟩
abbrev cX6_reaches : ByteArray := prog_8_method_51_code
def yX6_reaches : MethodName := ⟨RX6, "reaches", "(III)I"⟩
abbrev cX6_advise : ByteArray := prog_8_method_52_code
def yX6_advise : MethodName := ⟨RX6, "advise", "(I)I"⟩
abbrev cX6_mean : ByteArray := prog_8_method_53_code
def yX6_mean : MethodName := ⟨RX6, "mean", "()D"⟩
abbrev cX6_digest : ByteArray := prog_8_method_54_code
def yX6_digest : MethodName := ⟨RX6, "digest", "()J"⟩
def RJx8e188 : String := "java/lang/Cloneable"
def RJ13 : String := "java/lang/Long"
abbrev cJ13_bitCount_95d88 : ByteArray := prog_14_method_50_code
def yJ13_bitCount_95d88 : MethodName := ⟨RJ13, "bitCount", "(J)I"⟩
def RJ9 : String := "java/lang/Math"
abbrev cJ9_min_7cf53 : ByteArray := prog_15_method_69_code
def yJ9_min_7cf53 : MethodName := ⟨RJ9, "min", "(II)I"⟩
def RJ0 : String := "java/lang/String"
def RJ10 : String := "java/lang/System"
def RL : String := "GhostCandlesLaw"
abbrev cL_wall : ByteArray := method_3_code
def yL_wall : MethodName := ⟨RL, "wall", "(LGhostCandles;III[J)I"⟩
abbrev cL_candle : ByteArray := method_4_code
def yL_candle : MethodName := ⟨RL, "candle", "(LGhostCandles;III[J)I"⟩
abbrev cL_mirror : ByteArray := method_5_code
def yL_mirror : MethodName := ⟨RL, "mirror", "(LGhostCandles;IIZ[J)I"⟩
abbrev cL_tally : ByteArray := method_6_code
def yL_tally : MethodName := ⟨RL, "tally", "(LGhostCandles;II[J)I"⟩
abbrev cL_remove : ByteArray := method_7_code
def yL_remove : MethodName := ⟨RL, "remove", "(LGhostCandles;II[J)I"⟩
abbrev cL_light : ByteArray := method_8_code
def yL_light : MethodName := ⟨RL, "light", "(LGhostCandles;II[J)I"⟩
abbrev cL_come : ByteArray := method_9_code
def yL_come : MethodName := ⟨RL, "come", "(LGhostCandles;III[J)I"⟩
abbrev cL_send : ByteArray := method_10_code
def yL_send : MethodName := ⟨RL, "send", "(LGhostCandles;III[J)I"⟩
abbrev cL_rite : ByteArray := method_11_code
def yL_rite : MethodName := ⟨RL, "rite", "(LGhostCandles;I[J)I"⟩
abbrev cL_cell : ByteArray := method_12_code
def yL_cell : MethodName := ⟨RL, "cell", "(LGhostCandles;III[J)I"⟩
abbrev cL_walled : ByteArray := method_13_code
def yL_walled : MethodName := ⟨RL, "walled", "(LGhostCandles;III[J)I"⟩
abbrev cL_ghost : ByteArray := method_14_code
def yL_ghost : MethodName := ⟨RL, "ghost", "(LGhostCandles;II[J)I"⟩
abbrev cL_count : ByteArray := method_15_code
def yL_count : MethodName := ⟨RL, "count", "(LGhostCandles;I[J)I"⟩
abbrev cL_shines : ByteArray := method_16_code
def yL_shines : MethodName := ⟨RL, "shines", "(LGhostCandles;II[J)I"⟩
abbrev cL_way : ByteArray := method_17_code
def yL_way : MethodName := ⟨RL, "way", "(LGhostCandles;III[J)I"⟩
abbrev cL_next : ByteArray := method_18_code
def yL_next : MethodName := ⟨RL, "next", "(LGhostCandles;I[J)I"⟩
abbrev cL_pass : ByteArray := method_19_code
def yL_pass : MethodName := ⟨RL, "pass", "(LGhostCandles;I[J)I"⟩
abbrev cL_foresee : ByteArray := method_20_code
def yL_foresee : MethodName := ⟨RL, "foresee", "(LGhostCandles;II[J)I"⟩
abbrev cL_reaches : ByteArray := method_21_code
def yL_reaches : MethodName := ⟨RL, "reaches", "(LGhostCandles;III[J)I"⟩
abbrev cL_advise : ByteArray := method_22_code
def yL_advise : MethodName := ⟨RL, "advise", "(LGhostCandles;I[J)I"⟩
abbrev cL_law : ByteArray := code
def yL_law : MethodName := ⟨RL, "law", "([I)Z"⟩
abbrev vwCl : List vw_C := [(RX1, TX1, 9), (RX2, TX2, 5), (RX3, TX3, 1), (RX4, TX4, 5), (RX5, TX5, 2), (RX6, TX6, 12)]
end
section
/-! The machine seen as a heap of known objects, by one rule an instruction (gS), and what a method's call is to do (gSafe). -/
abbrev gO : Type := (Nat × vp_A) ⊕ (Nat × List Value)
abbrev gH : Type := Nat → Option gO
def gU (h : gH) (a : Nat) (o : gO) : gH := fun q => if q = a then some o else h q
theorem gU_eq (h : gH) (a : Nat) (o : gO) : gU h a o a = some o := if_pos rfl
theorem gU_ne {h : gH} {a q : Nat} {o : gO} (n : q ≠ a) : gU h a o q = h q := if_neg n
theorem gU_gU (h : gH) (a : Nat) (o o' : gO) : gU (gU h a o) a o' = gU h a o' := by
  funext q
  by_cases e : q = a
  · subst e; rw [gU_eq, gU_eq]
  · rw [gU_ne e, gU_ne e, gU_ne e]
abbrev gL : Type := List (Option Value)
def gget (lv : gL) (i : Nat) : Option Value := match lv[i]? with
  | some (some v) => some v
  | _ => none
def gsetB (lv : gL) (j : Nat) (l2 : gL) : gL := match gget lv j with
  | some (.long _) => l2.set j none
  | some (.double _) => l2.set j none
  | _ => l2
def gset (lv : gL) (i : Nat) (v : Value) : gL := match i with
  | 0 => lv.set 0 (some v)
  | j + 1 => gsetB lv j (lv.set (j + 1) (some v))
def gset2 (lv : gL) (i : Nat) (v : Value) : gL := match i with
  | 0 => (lv.set 0 (some v)).set 1 none
  | j + 1 => gsetB lv j ((lv.set (j + 1) (some v)).set (j + 2) none)
/-- a method: its name, code, number of locals, answer's type, handlers (from, to, handler, class' number, class) -/
abbrev gM : Type := MethodName × ByteArray × Nat × Option FieldType × List (Nat × Nat × Nat × Nat × String)
abbrev gK : Type := Nat → gL → List Value → gH → Nat → Nat → Prop
abbrev gC : Type := gM → List Value → gH → Nat → Nat → (Option Value → gH → Prop) → (String → gH → Prop) → Prop
def gCnd : Jvm.ClassFile.Cond → Int32 → Int32 → Prop
  | .eq, x, y => x = y
  | .ne, x, y => ¬ x = y
  | .lt, x, y => x < y
  | .ge, x, y => y ≤ x
  | .gt, x, y => y < x
  | .le, x, y => x ≤ y
def gHd (y : gM) (pc : Nat) (E : String) : Option Nat := (y.2.2.2.2.find? (fun q => decide (q.1 ≤ pc) && decide (pc < q.2.1) && decide (q.2.2.2.2 = E))).map (fun q => q.2.2.1)
def gThr (y : gM) (X : String → gH → Prop) (K : gK) (pc : Nat) (lv : gL) (E : String) (h : gH) (bc bs : Nat) : Prop := match gHd y pc E with
  | none => X E h
  | some hp => ∀ q : Nat, K hp lv [.ref q] h bc bs
/-- a row of the tables that stays good, or one of the few others that are carried along -/
def gNwK : Jvm.Cond → Bool
  | .fieldLinkNest .. => true
  | .methodLinkNest .. => true
  | .castable .. => true
  | .declares _ => true
  | _ => false
/-- a field by its number in a class' pool: which of the known classes, which field, its type, final or not -/
def gFL (own : String) (idx ci k : Nat) (ty : FieldType) (fin : Bool) : Prop := ∃ (C : String) (T : u_T) (N : Nat), vwCl[ci]? = some (C, T, N) ∧ k < N ∧ parseFieldDescriptor (T k).2.2.1 = some ty ∧ (T k).2.2.2 = fin ∧ (T k).1 = C ∧
  (Jvm.Cond.fieldLink own idx C (T k).2.1 (T k).2.2.1 ∈ lw_tbl ∨ ∃ host : String, Jvm.Cond.fieldLinkNest own idx C (T k).2.1 (T k).2.2.1 host ∈ lw_tbl)
/-- what the tables say of a method -/
def gOK (z : gM) : Prop := plainName z.1.cls = true ∧ Jvm.Cond.code z.1 z.2.1 z.2.2.1 z.2.2.2.1 ∈ lw_tbl ∧ Jvm.Cond.initialized z.1.cls ∈ lw_tbl ∧ (z.1.cls ≠ "java/lang/invoke/MethodHandle" ∧ z.1.cls ≠ "java/lang/invoke/VarHandle") ∧ z.2.2.1 ≤ 20 ∧ z.2.2.2.2 = []
def gNa (z : gM) (n : Nat) : Prop := (parseMethodDescriptor z.1.desc).map (fun d => d.parameters.length) = some n
def gLV (own : String) (idx : Nat) (z : gM) (n ci : Nat) : Prop := gOK z ∧ gNa z n ∧ Jvm.Cond.methodLink own idx z.1 ∈ lw_tbl ∧ Jvm.Cond.instanceMethod z.1 ∈ lw_tbl ∧ Jvm.Cond.selects z.1.cls z.1 z.1 ∈ lw_tbl ∧ ∃ (T : u_T) (N : Nat), vwCl[ci]? = some (z.1.cls, T, N)
def gLS (own : String) (idx : Nat) (z : gM) (n : Nat) : Prop := gOK z ∧ gNa z n ∧ Jvm.Cond.methodLink own idx z.1 ∈ lw_tbl ∧ Jvm.Cond.static z.1 ∈ lw_tbl
def gLI (own : String) (idx : Nat) (z : gM) (n : Nat) : Prop := gOK z ∧ gNa z n ∧ z.2.2.2.1 = none ∧ z.1.name = "<init>" ∧ Jvm.Cond.instanceMethod z.1 ∈ lw_tbl ∧ (Jvm.Cond.methodLink own idx z.1 ∈ lw_tbl ∨ ∃ host : String, Jvm.Cond.methodLinkNest own idx z.1 host ∈ lw_tbl)
def gHh (z : gM) : List (Nat × Nat × Nat × Nat) := z.2.2.2.2.map (fun q => (q.1, q.2.1, q.2.2.1, q.2.2.2.1))
def gExc : List String := ["java/lang/IndexOutOfBoundsException", "java/lang/IllegalArgumentException", "java/lang/IllegalStateException"]
/-- a method with handlers -/
def gOKW (z : gM) : Prop := plainName z.1.cls = true ∧ Jvm.Cond.codeWith z.1 z.2.1 z.2.2.1 z.2.2.2.1 (gHh z) ∈ lw_tbl ∧ Jvm.Cond.initialized z.1.cls ∈ lw_tbl ∧ (z.1.cls ≠ "java/lang/invoke/MethodHandle" ∧ z.1.cls ≠ "java/lang/invoke/VarHandle") ∧ z.2.2.1 ≤ 20 ∧ z.2.2.2.2 ≠ [] ∧ (∀ q ∈ z.2.2.2.2, q.2.2.2.1 ≠ 0 ∧ q.2.2.2.2 ∈ gExc ∧ Jvm.Cond.classLink z.1.cls q.2.2.2.1 q.2.2.2.2 ∈ lw_tbl)
def gLW (own : String) (idx : Nat) (z : gM) (n : Nat) : Prop := gOKW z ∧ gNa z n ∧ Jvm.Cond.methodLink own idx z.1 ∈ lw_tbl ∧ Jvm.Cond.static z.1 ∈ lw_tbl
/-- the String constants of the exceptions -/
def gStr : List (String × Nat × String) := []
def gNames : List String := ["java/lang/RuntimeException", "java/lang/Exception"]
/-- 'throw new E("text")' stands at pc -/
def gTN (y : gM) (pc ik : Nat) (E : String) : Prop := ∃ (is ic : Nat) (text : String), E ∈ gExc ∧ y.2.2.2.2 = [] ∧ decode y.2.1 (pc + 3) = .ok (.dup, 1) ∧ decode y.2.1 (pc + 4) = .ok (.ldc is, 2) ∧ decode y.2.1 (pc + 6) = .ok (.invokespecial ic, 3) ∧ decode y.2.1 (pc + 9) = .ok (.athrow, 1) ∧
  Jvm.Cond.classLink y.1.cls ik E ∈ lw_tbl ∧ Jvm.Cond.initialized E ∈ lw_tbl ∧ Jvm.Cond.stringRef y.1.cls is text ∈ lw_tbl ∧ (∀ w ∈ vx_atS y.1.cls ic E gNames, w ∈ lw_tbl ∧ (goodWord w = true ∨ gNwK w = true) ∧ vx_ot w = true) ∧ Bundle.fit E = true
/-- how long an instruction is -/
def gLen : Instr → Nat → Bool
  | .tableswitch .., _ => true
  | .iload _, n => n == 2
  | .lload _, n => n == 2
  | .dload _, n => n == 2
  | .aload _, n => n == 2
  | .istore _, n => n == 2
  | .lstore _, n => n == 2
  | .dstore _, n => n == 2
  | .astore _, n => n == 2
  | .bipush _, n => n == 2
  | .newarray _, n => n == 2
  | .sipush _, n => n == 3
  | .iinc .., n => n == 3
  | .ldc2_w _, n => n == 3
  | .getfield _, n => n == 3
  | .putfield _, n => n == 3
  | .goto _, n => n == 3
  | .ifCond .., n => n == 3
  | .if_icmp .., n => n == 3
  | .invokevirtual _, n => n == 3
  | .invokespecial _, n => n == 3
  | .invokestatic _, n => n == 3
  | .new _, n => n == 3
  | .anewarray _, n => n == 3
  | .checkcast _, n => n == 3
  | _, n => n == 1
/-- what an array's first contents are -/
def gNew : ArrayType → Option (Nat × ((Nat → Int32) ⊕ (Nat → Int64) ⊕ (Nat → UInt32) ⊕ (Nat → UInt64) ⊕ (Nat → Option Nat)))
  | .int => some (0, .inl (fun _ => 0))
  | .boolean => some (1, .inl (fun _ => 0))
  | .long => some (2, .inr (.inl (fun _ => 0)))
  | _ => none
def gCat (st : List Value) : Nat := (st.map fun v => v.category).sum
def gBegin (T : u_T) (N : Nat) (fs : List Value) : Prop := fs.length = N ∧ ∀ j : Nat, j < N → ∃ ty : FieldType, parseFieldDescriptor (T j).2.2.1 = some ty ∧ defaultValue ty = vp_V fs j
/-- ONE INSTRUCTION, backwards: from this place K holds, if it holds at all places to which the instruction may go on -/
def gS (call : gC) (y : gM) (d : Nat) (Post : Option Value → gH → Prop) (X : String → gH → Prop) (ro : Nat → Option (Nat × (Nat → Int32))) (K : gK) (i : Instr) (pc : Nat) (lv : gL) (st : List Value) (h : gH) (bc bs : Nat) : Prop :=
  match i with
  | .iload n => ∃ x, gget lv n = some (.int x) ∧ K (pc + 2) lv (.int x :: st) h bc bs
  | .iload_n n => ∃ x, gget lv n.val = some (.int x) ∧ K (pc + 1) lv (.int x :: st) h bc bs
  | .lload n => ∃ x, gget lv n = some (.long x) ∧ K (pc + 2) lv (.long x :: st) h bc bs
  | .lload_n n => ∃ x, gget lv n.val = some (.long x) ∧ K (pc + 1) lv (.long x :: st) h bc bs
  | .dload n => ∃ x, gget lv n = some (.double x) ∧ K (pc + 2) lv (.double x :: st) h bc bs
  | .aload n => ∃ x, gget lv n = some (.ref x) ∧ K (pc + 2) lv (.ref x :: st) h bc bs
  | .aload_n n => ∃ x, gget lv n.val = some (.ref x) ∧ K (pc + 1) lv (.ref x :: st) h bc bs
  | .istore n => ∃ x r, st = .int x :: r ∧ n < lv.length ∧ K (pc + 2) (gset lv n (.int x)) r h bc bs
  | .istore_n n => ∃ x r, st = .int x :: r ∧ n.val < lv.length ∧ K (pc + 1) (gset lv n.val (.int x)) r h bc bs
  | .lstore n => ∃ x r, st = .long x :: r ∧ n + 1 < lv.length ∧ K (pc + 2) (gset2 lv n (.long x)) r h bc bs
  | .lstore_n n => ∃ x r, st = .long x :: r ∧ n.val + 1 < lv.length ∧ K (pc + 1) (gset2 lv n.val (.long x)) r h bc bs
  | .dstore n => ∃ x r, st = .double x :: r ∧ n + 1 < lv.length ∧ K (pc + 2) (gset2 lv n (.double x)) r h bc bs
  | .astore n => ∃ x r, st = .ref x :: r ∧ n < lv.length ∧ K (pc + 2) (gset lv n (.ref x)) r h bc bs
  | .astore_n n => ∃ x r, st = .ref x :: r ∧ n.val < lv.length ∧ K (pc + 1) (gset lv n.val (.ref x)) r h bc bs
  | .iinc n k => ∃ x v, gget lv n = some (.int x) ∧ x + Int32.ofInt k = v ∧ n < lv.length ∧ K (pc + 3) (gset lv n (.int v)) st h bc bs
  | .iconst n => ∃ v, Int32.ofInt n = v ∧ K (pc + 1) lv (.int v :: st) h bc bs
  | .bipush n => ∃ v, (Int8.ofInt n).toInt32 = v ∧ K (pc + 2) lv (.int v :: st) h bc bs
  | .sipush n => ∃ v, (Int16.ofInt n).toInt32 = v ∧ K (pc + 3) lv (.int v :: st) h bc bs
  | .lconst n => ∃ v, Int64.ofNat (n : Nat) = v ∧ K (pc + 1) lv (.long v :: st) h bc bs
  | .dconst n => n = 0 ∧ K (pc + 1) lv (.double FP.dconst0 :: st) h bc bs
  | .ldc2_w n => ∃ v, Jvm.Cond.constantLong y.1.cls n v ∈ lw_tbl ∧ K (pc + 3) lv (.long v :: st) h bc bs
  | .iadd => ∃ b a r, st = .int b :: .int a :: r ∧ K (pc + 1) lv (.int (a + b) :: r) h bc bs
  | .isub => ∃ b a r, st = .int b :: .int a :: r ∧ K (pc + 1) lv (.int (a - b) :: r) h bc bs
  | .imul => ∃ b a r, st = .int b :: .int a :: r ∧ K (pc + 1) lv (.int (a * b) :: r) h bc bs
  | .iand => ∃ b a r, st = .int b :: .int a :: r ∧ K (pc + 1) lv (.int (a &&& b) :: r) h bc bs
  | .ixor => ∃ b a r, st = .int b :: .int a :: r ∧ K (pc + 1) lv (.int (a ^^^ b) :: r) h bc bs
  | .idiv => ∃ b a r, st = .int b :: .int a :: r ∧ ¬ b = 0 ∧ K (pc + 1) lv (.int (a / b) :: r) h bc bs
  | .irem => ∃ b a r, st = .int b :: .int a :: r ∧ ¬ b = 0 ∧ K (pc + 1) lv (.int (a - a / b * b) :: r) h bc bs
  | .ladd => ∃ b a r, st = .long b :: .long a :: r ∧ K (pc + 1) lv (.long (a + b) :: r) h bc bs
  | .lsub => ∃ b a r, st = .long b :: .long a :: r ∧ K (pc + 1) lv (.long (a - b) :: r) h bc bs
  | .lmul => ∃ b a r, st = .long b :: .long a :: r ∧ K (pc + 1) lv (.long (a * b) :: r) h bc bs
  | .land => ∃ b a r, st = .long b :: .long a :: r ∧ K (pc + 1) lv (.long (a &&& b) :: r) h bc bs
  | .lor => ∃ b a r, st = .long b :: .long a :: r ∧ K (pc + 1) lv (.long (a ||| b) :: r) h bc bs
  | .lxor => ∃ b a r, st = .long b :: .long a :: r ∧ K (pc + 1) lv (.long (a ^^^ b) :: r) h bc bs
  | .lshl => ∃ b a r, st = .int b :: .long a :: r ∧ K (pc + 1) lv (.long (a <<< (b.toInt64 &&& 63)) :: r) h bc bs
  | .lushr => ∃ b a r, st = .int b :: .long a :: r ∧ K (pc + 1) lv (.long (a.toUInt64 >>> (b.toInt64.toUInt64 &&& Int64.toUInt64 63)).toInt64 :: r) h bc bs
  | .lcmp => ∃ b a r, st = .long b :: .long a :: r ∧ K (pc + 1) lv (.int (lg_cmp a b) :: r) h bc bs
  | .i2l => ∃ a r, st = .int a :: r ∧ K (pc + 1) lv (.long a.toInt64 :: r) h bc bs
  | .l2i => ∃ a r, st = .long a :: r ∧ K (pc + 1) lv (.int a.toInt32 :: r) h bc bs
  | .i2d => ∃ a r, st = .int a :: r ∧ K (pc + 1) lv (.double (FP.i2d a) :: r) h bc bs
  | .ddiv => ∃ b a r, st = .double b :: .double a :: r ∧ vf_n64 (FP.ddiv a b) ∧ K (pc + 1) lv (.double (FP.ddiv a b) :: r) h bc bs
  | .dcmp op => ∃ b a r, st = .double b :: .double a :: r ∧ K (pc + 1) lv (.int (Op.cmpValue (FP.dcmp a b) op) :: r) h bc bs
  | .dup => ∃ v r, st = v :: r ∧ v.category = 1 ∧ K (pc + 1) lv (v :: v :: r) h bc bs
  | .dup2 => ∃ v w r, st = v :: w :: r ∧ v.category = 1 ∧ w.category = 1 ∧ K (pc + 1) lv (v :: w :: v :: w :: r) h bc bs
  | .pop => ∃ v r, st = v :: r ∧ v.category = 1 ∧ K (pc + 1) lv r h bc bs
  | .goto off => ∃ t : Nat, (pc : Int) + off = (t : Int) ∧ K t lv st h bc bs
  | .ifCond cn off => ∃ (x : Int32) (r : List Value) (t : Nat), st = .int x :: r ∧ (pc : Int) + off = (t : Int) ∧ (gCnd cn x 0 → K t lv r h bc bs) ∧ (¬ gCnd cn x 0 → K (pc + 3) lv r h bc bs)
  | .if_icmp cn off => ∃ (b a : Int32) (r : List Value) (t : Nat), st = .int b :: .int a :: r ∧ (pc : Int) + off = (t : Int) ∧ (gCnd cn a b → K t lv r h bc bs) ∧ (¬ gCnd cn a b → K (pc + 3) lv r h bc bs)
  | .tableswitch dflt lo hi offs => ∃ (x : Int32) (r : List Value), st = .int x :: r ∧ ((x.toInt < lo ∨ hi < x.toInt) → ∃ t : Nat, (pc : Int) + dflt = (t : Int) ∧ K t lv r h bc bs) ∧ (¬ x.toInt < lo → ¬ hi < x.toInt → ∃ (off : Int) (t : Nat), offs[(x.toInt - lo).toNat]? = some off ∧ (pc : Int) + off = (t : Int) ∧ K t lv r h bc bs)
  | .getfield idx => ∃ a r ci k ty fin fs v, st = .ref a :: r ∧ gFL y.1.cls idx ci k ty fin ∧ h a = some (.inr (ci, fs)) ∧ fs[k]? = some v ∧ K (pc + 3) lv (v :: r) h bc bs
  | .putfield idx => ∃ v a r ci k ty fin fs, st = v :: .ref a :: r ∧ gFL y.1.cls idx ci k ty fin ∧ (fin = false ∨ (y.1.name = "<init>" ∧ ∃ (T : u_T) (N : Nat), vwCl[ci]? = some (y.1.cls, T, N))) ∧ h a = some (.inr (ci, fs)) ∧ k < fs.length ∧ narrow ty v = v ∧ fits ty v = true ∧ K (pc + 3) lv r (gU h a (.inr (ci, fs.set k v))) bc bs
  | .iaload => ∃ i a r n f, st = .int i :: .ref a :: r ∧ (h a = some (.inl (0, n, .inl f)) ∨ ro a = some (n, f)) ∧ vp_in i n ∧ K (pc + 1) lv (.int (f i.toNatClampNeg) :: r) h bc bs
  | .baload => ∃ i a r n f, st = .int i :: .ref a :: r ∧ h a = some (.inl (1, n, .inl f)) ∧ vp_in i n ∧ K (pc + 1) lv (.int (f i.toNatClampNeg) :: r) h bc bs
  | .laload => ∃ i a r n f, st = .int i :: .ref a :: r ∧ h a = some (.inl (2, n, .inr (.inl f))) ∧ vp_in i n ∧ K (pc + 1) lv (.long (f i.toNatClampNeg) :: r) h bc bs
  | .iastore => ∃ x i a r n f, st = .int x :: .int i :: .ref a :: r ∧ h a = some (.inl (0, n, .inl f)) ∧ vp_in i n ∧ K (pc + 1) lv r (gU h a (.inl (0, n, .inl (upd f i.toNatClampNeg x)))) bc bs
  | .bastore => ∃ x i a r n f, st = .int x :: .int i :: .ref a :: r ∧ h a = some (.inl (1, n, .inl f)) ∧ vp_in i n ∧ K (pc + 1) lv r (gU h a (.inl (1, n, .inl (upd f i.toNatClampNeg (vp_nar .boolean x))))) bc bs
  | .lastore => ∃ x i a r n f, st = .long x :: .int i :: .ref a :: r ∧ h a = some (.inl (2, n, .inr (.inl f))) ∧ vp_in i n ∧ K (pc + 1) lv r (gU h a (.inl (2, n, .inr (.inl (vp_updL f i.toNatClampNeg x))))) bc bs
  | .arraylength => ∃ a r v, st = .ref a :: r ∧ ((∃ t x, h a = some (.inl (t, x)) ∧ t < 3 ∧ Int32.ofNat x.1 = v) ∨ ∃ n f, ro a = some (n, f) ∧ Int32.ofNat n = v) ∧ K (pc + 1) lv (.int v :: r) h bc bs
  | .newarray at_ => ∃ n r N t c0, st = .int n :: r ∧ gNew at_ = some (t, c0) ∧ ¬ n < 0 ∧ n.toNatClampNeg = N ∧ N ≤ 1000000 ∧ 1 ≤ bc ∧ N ≤ bs ∧ ∀ q : Nat, h q = none → K (pc + 2) lv (.ref q :: r) (gU h q (.inl (t, N, c0))) (bc - 1) (bs - N)
  | .new idx => (∃ ci C T N fs, vwCl[ci]? = some (C, T, N) ∧ Jvm.Cond.classLink y.1.cls idx C ∈ lw_tbl ∧ Jvm.Cond.instantiable C N ∈ lw_tbl ∧ Jvm.Cond.initialized C ∈ lw_tbl ∧ gBegin T N fs ∧ 1 ≤ bc ∧ N ≤ bs ∧ ∀ q : Nat, h q = none → K (pc + 3) lv (.ref q :: st) (gU h q (.inr (ci, fs))) (bc - 1) (bs - N)) ∨
      (∃ E, gTN y pc idx E ∧ 6 ≤ d ∧ 1 ≤ bc ∧ 6 ≤ bs ∧ gCat st ≤ 100 ∧ X E h)
  | .invokespecial idx => (∃ a r, st = .ref a :: r ∧ Jvm.Cond.methodLink y.1.cls idx objectInit ∈ lw_tbl ∧ 1 ≤ d ∧ gCat r ≤ 8 ∧ K (pc + 3) lv r h bc bs) ∨
      (∃ z n as a r mc ms, gLI y.1.cls idx z n ∧ st = as.reverse ++ .ref a :: r ∧ as.length = n ∧ gCat r ≤ 8 ∧ mc ≤ bc ∧ ms ≤ bs ∧ call z (.ref a :: as) h mc ms (fun v h' => K (pc + 3) lv (v.toList ++ r) h' (bc - mc) (bs - ms)) (fun E h' => gThr y X K pc lv E h' (bc - mc) (bs - ms)))
  | .invokevirtual idx => ∃ z n ci as a r fs mc ms, gLV y.1.cls idx z n ci ∧ st = as.reverse ++ .ref a :: r ∧ as.length = n ∧ h a = some (.inr (ci, fs)) ∧ gCat r ≤ 8 ∧ mc ≤ bc ∧ ms ≤ bs ∧ call z (.ref a :: as) h mc ms (fun v h' => K (pc + 3) lv (v.toList ++ r) h' (bc - mc) (bs - ms)) (fun E h' => gThr y X K pc lv E h' (bc - mc) (bs - ms))
  | .invokestatic idx => ∃ z n as r mc ms, (gLS y.1.cls idx z n ∨ gLW y.1.cls idx z n) ∧ st = as.reverse ++ r ∧ as.length = n ∧ gCat r ≤ 8 ∧ mc ≤ bc ∧ ms ≤ bs ∧ call z as h mc ms (fun v h' => K (pc + 3) lv (v.toList ++ r) h' (bc - mc) (bs - ms)) (fun E h' => gThr y X K pc lv E h' (bc - mc) (bs - ms))
  | .ireturn => ∃ x ty, st = [.int x] ∧ y.2.2.2.1 = some ty ∧ narrow ty (.int x) = .int x ∧ Post (some (.int x)) h
  | .lreturn => ∃ x, st = [.long x] ∧ y.2.2.2.1 = some .long ∧ Post (some (.long x)) h
  | .dreturn => ∃ x, st = [.double x] ∧ y.2.2.2.1 = some .double ∧ Post (some (.double x)) h
  | .return_ => st = [] ∧ y.2.2.2.1 = none ∧ Post none h
  | _ => False
def gClosed (call : gC) (y : gM) (d : Nat) (Post : Option Value → gH → Prop) (X : String → gH → Prop) (ro : Nat → Option (Nat × (Nat → Int32))) (K : gK) : Prop :=
  ∀ (pc : Nat) (lv : gL) (st : List Value) (h : gH) (bc bs : Nat) (i : Instr) (len : Nat), decode y.2.1 pc = .ok (i, len) → gLen i len = true → gS call y d Post X ro K i pc lv st h bc bs → K pc lv st h bc bs
def gSl : List Value → gL
  | [] => []
  | .long x :: vs => some (.long x) :: none :: gSl vs
  | .double x :: vs => some (.double x) :: none :: gSl vs
  | v :: vs => some v :: gSl vs
def gEntry (n : Nat) (vs : List Value) : gL := gSl vs ++ List.replicate (n - (gSl vs).length) none
/-- a call of y from the heap h, in d frames, with mc cells and ms slots to spend, comes to an end: with an answer in Post, or an exception in X -/
def gSafe : Nat → gC
  | 0, _, _, _, _, _, _, _ => False
  | d + 1, y, args, h, mc, ms, Post, X => (gSl args).length ≤ y.2.2.1 ∧ ∀ K : gK, gClosed (gSafe d) y (d + 1) Post X (fun _ => none) K → K 0 (gEntry y.2.2.1 args) [] h mc ms
end
section
/-! locals -/
theorem gget_some {lv : gL} {i : Nat} {v : Value} : gget lv i = some v ↔ lv[i]? = some (some v) := by
  unfold gget
  constructor
  · intro h
    split at h
    · next w hw => rw [hw, Option.some.inj h]
    · cases h
  · intro h
    rw [h]
theorem gget_set {lv : gL} {i j : Nat} {o : Option Value} {w : Value} (h : gget (lv.set i o) j = some w) : (j = i ∧ o = some w) ∨ (j ≠ i ∧ gget lv j = some w) := by
  rw [gget_some] at h
  by_cases e : j = i
  · subst e
    rw [List.getElem?_set] at h
    simp at h
    exact Or.inl ⟨rfl, h.2⟩
  · rw [List.getElem?_set_ne (Ne.symm e)] at h
    exact Or.inr ⟨e, gget_some.mpr h⟩
theorem gsetB_spec {lv l2 : gL} {k j : Nat} {w : Value} (h : gget (gsetB lv k l2) j = some w) : gget l2 j = some w ∧ (j = k → ∀ v, gget lv k = some v → v.category ≠ 2) := by
  unfold gsetB at h
  split at h
  · next x hx =>
    rcases gget_set h with ⟨-, h1⟩ | ⟨h1, h2⟩
    · cases h1
    · exact ⟨h2, fun e => absurd e h1⟩
  · next x hx =>
    rcases gget_set h with ⟨-, h1⟩ | ⟨h1, h2⟩
    · cases h1
    · exact ⟨h2, fun e => absurd e h1⟩
  · next n1 n2 =>
    refine ⟨h, fun _ v hv hc => ?_⟩
    cases v with
    | long x => exact n1 x hv
    | double x => exact n2 x hv
    | _ => simp [Value.category] at hc
theorem gset_spec {lv : gL} {i j : Nat} {v w : Value} (h : gget (gset lv i v) j = some w) : (j = i ∧ w = v) ∨ (j ≠ i ∧ gget lv j = some w ∧ (j + 1 = i → w.category ≠ 2)) := by
  cases i with
  | zero =>
    rcases gget_set h with ⟨h1, h2⟩ | ⟨h1, h2⟩
    · exact Or.inl ⟨h1, (Option.some.inj h2).symm⟩
    · exact Or.inr ⟨h1, h2, fun e => by omega⟩
  | succ k =>
    obtain ⟨h0, hc⟩ := gsetB_spec h
    rcases gget_set h0 with ⟨h1, h2⟩ | ⟨h1, h2⟩
    · exact Or.inl ⟨h1, (Option.some.inj h2).symm⟩
    · refine Or.inr ⟨h1, h2, fun e => ?_⟩
      have e2 : j = k := by omega
      exact hc e2 w (e2 ▸ h2)
theorem gset2_spec {lv : gL} {i j : Nat} {v w : Value} (h : gget (gset2 lv i v) j = some w) : (j = i ∧ w = v) ∨ (j ≠ i ∧ j ≠ i + 1 ∧ gget lv j = some w ∧ (j + 1 = i → w.category ≠ 2)) := by
  cases i with
  | zero =>
    rcases gget_set h with ⟨-, h2⟩ | ⟨h1, h2⟩
    · cases h2
    · rcases gget_set h2 with ⟨h3, h4⟩ | ⟨h3, h4⟩
      · exact Or.inl ⟨h3, (Option.some.inj h4).symm⟩
      · exact Or.inr ⟨h3, h1, h4, fun e => by omega⟩
  | succ k =>
    obtain ⟨h0, hc⟩ := gsetB_spec h
    rcases gget_set h0 with ⟨-, h2⟩ | ⟨h1, h2⟩
    · cases h2
    · rcases gget_set h2 with ⟨h3, h4⟩ | ⟨h3, h4⟩
      · exact Or.inl ⟨h3, (Option.some.inj h4).symm⟩
      · refine Or.inr ⟨h3, h1, h4, fun e => ?_⟩
        have e2 : j = k := by omega
        exact hc e2 w (e2 ▸ h4)
theorem gsetB_len (lv l2 : gL) (j : Nat) : (gsetB lv j l2).length = l2.length := by
  unfold gsetB
  split <;> simp
theorem gset_len (lv : gL) (i : Nat) (v : Value) : (gset lv i v).length = lv.length := by
  cases i with
  | zero => simp [gset]
  | succ k => rw [gset, gsetB_len]; simp
theorem gset2_len (lv : gL) (i : Nat) (v : Value) : (gset2 lv i v).length = lv.length := by
  cases i with
  | zero => simp [gset2]
  | succ k => rw [gset2, gsetB_len]; simp
def gA (lv : gL) : List (Nat × Value) := (List.range lv.length).filterMap (fun i => (gget lv i).map (fun v => (i, v)))
theorem gget_lt {lv : gL} {i : Nat} {v : Value} (h : gget lv i = some v) : i < lv.length := (List.getElem?_eq_some_iff.mp (gget_some.mp h)).1
theorem gA_mem {lv : gL} {q : Nat × Value} : q ∈ gA lv ↔ gget lv q.1 = some q.2 := by
  unfold gA
  rw [List.mem_filterMap]
  constructor
  · rintro ⟨i, -, h⟩
    cases hg : gget lv i with
    | none => rw [hg] at h; cases h
    | some v => rw [hg] at h; cases h; exact hg
  · intro h
    refine ⟨q.1, List.mem_range.mpr (gget_lt h), ?_⟩
    rw [h]
    rfl
def gLH (ls : Array Slot) (nL : Nat) (lv : gL) : Prop := ls.size = nL ∧ lv.length = nL ∧ lv_wf ls ∧ ∀ (i : Nat) (v : Value), gget lv i = some v → ls[i]? = some (.val v)
theorem gLH.has {ls : Array Slot} {nL : Nat} {lv : gL} (h : gLH ls nL lv) : lv_has ls nL (gA lv) := ⟨h.1, h.2.2.1, fun q hq => h.2.2.2 q.1 q.2 (gA_mem.mp hq)⟩
theorem gLH.set {ls ls' : Array Slot} {nL i : Nat} {lv : gL} {v : Value} (h : gLH ls nL lv) (h' : lv_has ls' nL ((i, v) :: (gA lv).filter (fun q => !(q.1 == i) && !(q.1 + 1 == i && q.2.category == 2)))) : gLH ls' nL (gset lv i v) := by
  refine ⟨h'.1, by rw [gset_len]; exact h.2.1, h'.2.1, fun j w hg => ?_⟩
  rcases gset_spec hg with ⟨rfl, rfl⟩ | ⟨h1, h2, h3⟩
  · exact h'.2.2 (j, w) List.mem_cons_self
  · refine h'.2.2 (j, w) (List.mem_cons_of_mem _ (List.mem_filter.mpr ⟨gA_mem.mpr h2, ?_⟩))
    by_cases e : j + 1 = i
    · have := h3 e
      simp [h1, e, this]
    · simp [h1, e]
theorem gLH.set2 {ls ls' : Array Slot} {nL i : Nat} {lv : gL} {v : Value} (h : gLH ls nL lv) (h' : lv_has ls' nL ((i, v) :: (gA lv).filter (fun q => !(q.1 == i) && (!(q.1 == i + 1) && !(q.1 + 1 == i && q.2.category == 2))))) : gLH ls' nL (gset2 lv i v) := by
  refine ⟨h'.1, by rw [gset2_len]; exact h.2.1, h'.2.1, fun j w hg => ?_⟩
  rcases gset2_spec hg with ⟨rfl, rfl⟩ | ⟨h1, h1b, h2, h3⟩
  · exact h'.2.2 (j, w) List.mem_cons_self
  · refine h'.2.2 (j, w) (List.mem_cons_of_mem _ (List.mem_filter.mpr ⟨gA_mem.mpr h2, ?_⟩))
    by_cases e : j + 1 = i
    · have := h3 e
      simp [h1, h1b, e, this]
    · simp [h1, h1b, e]
theorem gEntry_has {vs : List Value} {n : Nat} (h : (lg_sl vs).length ≤ n) : gLH ((lg_sl vs ++ List.replicate (n - (lg_sl vs).length) Slot.unset).toArray) n (gEntry n vs) := by
  have hlen : ∀ vs : List Value, (gSl vs).length = (lg_sl vs).length := by
    intro vs
    induction vs with
    | nil => rfl
    | cons v vs ih => cases v <;> simp [gSl, lg_sl, Value.category] at ih ⊢ <;> exact ih
  have hl := lv_entry vs h
  refine ⟨hl.1, ?_, hl.2.1, ?_⟩
  · unfold gEntry
    rw [List.length_append, List.length_replicate, hlen]
    omega
  · intro i v hg
    have key : ∀ (vs : List Value) (b i : Nat) (v : Value), (gSl vs)[i]? = some (some v) → (b + i, v) ∈ lv_args b vs := by
      intro vs
      induction vs with
      | nil => intro b i v h; simp [gSl] at h
      | cons w vs ih =>
        intro b i v h
        have two : ∀ {x : Value}, x.category = 2 → gSl (x :: vs) = some x :: none :: gSl vs → (gSl (x :: vs))[i]? = some (some v) → (b + i, v) ∈ lv_args b (x :: vs) := by
          intro x hx hs h
          rw [hs] at h
          match i, h with
          | 0, h => simp at h; subst h; simp [lv_args]
          | 1, h => simp at h
          | i + 2, h =>
            simp at h
            have := ih (b + 2) i v h
            simp only [lv_args, hx, if_true]
            refine List.mem_cons_of_mem _ ?_
            rw [show b + (i + 2) = b + 2 + i by omega]
            exact this
        have one : ∀ {x : Value}, x.category ≠ 2 → gSl (x :: vs) = some x :: gSl vs → (gSl (x :: vs))[i]? = some (some v) → (b + i, v) ∈ lv_args b (x :: vs) := by
          intro x hx hs h
          rw [hs] at h
          match i, h with
          | 0, h => simp at h; subst h; simp [lv_args]
          | i + 1, h =>
            simp at h
            have := ih (b + 1) i v h
            simp only [lv_args, hx, if_false]
            refine List.mem_cons_of_mem _ ?_
            rw [show b + (i + 1) = b + 1 + i by omega]
            exact this
        cases w with
        | long x => exact two rfl rfl h
        | double x => exact two rfl rfl h
        | _ => exact one (by simp [Value.category]) rfl h
    rw [gget_some] at hg
    unfold gEntry at hg
    by_cases hi : i < (gSl vs).length
    · rw [List.getElem?_append_left hi] at hg
      have := key vs 0 i v hg
      rw [Nat.zero_add] at this
      exact hl.2.2 (i, v) this
    · rw [List.getElem?_append_right (by omega)] at hg
      have := List.eq_of_mem_replicate (List.mem_of_getElem? hg)
      cases this
/-! the heap of known objects, and the machine's -/
def gTys (dT : Nat → ClassId) : List (ClassId × FieldType) := [(dT 0, .int), (dT 1, .boolean), (dT 2, .long)]
def gE (dT : Nat → ClassId) : gO → va_E
  | .inl x => .inl (dT x.1, x.2)
  | .inr o => .inr o
def gF (dT : Nat → ClassId) (h : gH) : Nat → va_E := fun a => match h a with
  | some o => gE dT o
  | none => .inr (0, [])
def gI (D : va_G) (dT : Nat → ClassId) (A : Nat → Prop) (L : List Nat) (h : gH) (H : Heap) : Prop := (∀ a : Nat, a ∈ L ↔ (h a).isSome = true) ∧ va_P D vwCl (va_pl L (gF dT h)) H ∧ va_D A (va_pl L (gF dT h))
theorem gF_some {dT : Nat → ClassId} {h : gH} {a : Nat} {o : gO} (e : h a = some o) : gF dT h a = gE dT o := by simp [gF, e]
theorem gF_gU {dT : Nat → ClassId} (h : gH) (a : Nat) (o : gO) : va_up (gF dT h) a (gE dT o) = gF dT (gU h a o) := by
  funext q
  by_cases e : q = a
  · subst e; simp [va_up, gF, gU]
  · simp [va_up, gF, gU, e]
theorem gI.get {D : va_G} {dT : Nat → ClassId} {A : Nat → Prop} {L : List Nat} {h : gH} {H : Heap} (I : gI D dT A L h H) {a : Nat} {o : gO} (e : h a = some o) : ∃ k : Nat, (va_pl L (gF dT h))[k]? = some (a, gE dT o) := by
  obtain ⟨k, hk⟩ := va_pl_get (X := []) (f := gF dT h) ((I.1 a).mpr (by rw [e]; rfl))
  rw [gF_some e] at hk
  exact ⟨k, hk⟩
theorem gI.set {D : va_G} {dT : Nat → ClassId} {A : Nat → Prop} {L : List Nat} {h : gH} {H H1 : Heap} (I : gI D dT A L h H) {a k : Nat} {o o' : gO} (e : h a = some o) (hk : (va_pl L (gF dT h))[k]? = some (a, gE dT o)) (hP : va_P D vwCl ((va_pl L (gF dT h)).set k (a, gE dT o')) H1) (hD : va_D A ((va_pl L (gF dT h)).set k (a, gE dT o'))) : gI D dT A L (gU h a o') H1 := by
  have ha : a ∈ L := (I.1 a).mpr (by rw [e]; rfl)
  have hs : (va_pl L (gF dT h)).set k (a, gE dT o') = va_pl L (gF dT (gU h a o')) := by
    have := va_pl_set (X := []) (e := gE dT o') I.2.2 ha (by rw [gF_some e]; exact hk)
    rw [← gF_gU]
    exact this
  rw [hs] at hP hD
  refine ⟨fun q => ?_, hP, hD⟩
  by_cases hq : q = a
  · subst hq
    simp [gU, ha]
  · rw [gU_ne hq]
    exact I.1 q
theorem gI.new {D : va_G} {dT : Nat → ClassId} {A : Nat → Prop} {L : List Nat} {h : gH} {H H1 : Heap} (I : gI D dT A L h H) {q : Nat} {o : gO} (hP : va_P D vwCl (va_pl L (gF dT h) ++ [(q, gE dT o)]) H1) (hD : va_D A (va_pl L (gF dT h) ++ [(q, gE dT o)])) : h q = none ∧ gI D dT A (L ++ [q]) (gU h q o) H1 := by
  have hq : q ∉ L := fun hm => by
    obtain ⟨k, hk⟩ := va_pl_get (X := []) (f := gF dT h) hm
    have hk : (va_pl L (gF dT h))[k]? = some (q, gF dT h q) := hk
    have hl := (List.getElem?_eq_some_iff.mp hk).1
    have h1 : (va_pl L (gF dT h) ++ [(q, gE dT o)])[k]? = some (q, gF dT h q) := by rw [List.getElem?_append_left hl]; exact hk
    have h2 : (va_pl L (gF dT h) ++ [(q, gE dT o)])[(va_pl L (gF dT h)).length]? = some (q, gE dT o) := by rw [List.getElem?_append_right (Nat.le_refl _)]; simp
    have := hD.1 k _ _ _ h1 h2 rfl
    omega
  have hn : h q = none := by
    cases e : h q with
    | none => rfl
    | some o => exact absurd ((I.1 q).mpr (by rw [e]; rfl)) hq
  have hs : va_pl L (gF dT h) ++ [(q, gE dT o)] = va_pl (L ++ [q]) (gF dT (gU h q o)) := by rw [va_pl_push hq, gF_gU]
  rw [hs] at hP hD
  refine ⟨hn, fun x => ?_, hP, hD⟩
  by_cases hx : x = q
  · subst hx
    simp [gU]
  · rw [gU_ne hx, List.mem_append, ← I.1 x]
    simp [hx]
theorem gI.dom {D : va_G} {dT : Nat → ClassId} {A : Nat → Prop} {L : List Nat} {h : gH} {H : Heap} (I : gI D dT A L h H) {q : Nat} (hq : (h q).isSome = true) : A q ∧ q < H.size := by
  obtain ⟨o, e⟩ := Option.isSome_iff_exists.mp hq
  obtain ⟨k, hk⟩ := I.get e
  exact ⟨I.2.2.2 k _ hk, (I.2.1 k _ hk).lt⟩
theorem gI.weaken {D : va_G} {dT : Nat → ClassId} {A B : Nat → Prop} {L : List Nat} {h : gH} {H : Heap} (I : gI D dT A L h H) (hAB : ∀ q, A q → B q) : gI D dT B L h H := ⟨I.1, I.2.1, I.2.2.weaken (fun _ q _ => hAB q.1)⟩
theorem gI.kept {D : va_G} {dT : Nat → ClassId} {A : Nat → Prop} {L : List Nat} {h : gH} {H H1 : Heap} (I : gI D dT A L h H) (hq : ∀ q : Nat, q < H.size → H1[q]? = H[q]?) : gI D dT A L h H1 := ⟨I.1, I.2.1.kept (fun k q hk => hq q.1 ((I.2.1 k q hk).lt)), I.2.2⟩
end
section
/-! the machine's judgement, with the heap of known objects -/
def gEnv (A : Nat → Prop) (U : State) : Prop := (∀ w ∈ lw_tbl, gNwK w = true → va_Nw w U) ∧ vx_Zq Bundle.tN "UNASSIGNED_STACK" Bundle.steD A U U.heap ∧ vx_Zq Bundle.tN "SUPPRESSED_SENTINEL" Bundle.listD A U U.heap ∧ (∀ (own : String) (k : Nat) (tx : String), Jvm.Cond.stringRef own k tx ∈ lw_tbl → ∃ a : Nat, vk_R own k tx a U) ∧ (∀ E ∈ gExc, ∀ F ∈ gExc, E ≠ F → va_Nc E F U)
def gAd (h : gH) (sz : Nat) : Nat → Prop := fun q => (h q).isSome = true ∨ sz ≤ q
def gRm (d mc ms : Nat) : Room := { frames := d, cells := mc, slots := ms, locals := 39 * d }
def gGood : List Jvm.Cond := lw_tbl.filter goodWord
def gWs (z : gM) : List Jvm.Cond := match z.2.2.2.2 with
  | [] => Jvm.Cond.code z.1 z.2.1 z.2.2.1 z.2.2.2.1 :: gGood
  | _ :: _ => Jvm.Cond.codeWith z.1 z.2.1 z.2.2.1 z.2.2.2.1 (gHh z) :: gGood
def gPc (D : va_G) (dT : Nat → ClassId) (as : List Value) (h : gH) (sz : Nat) : Array Value → State → Prop := va_Pc as (fun U => U.heap.size = sz ∧ (∃ L : List Nat, gI D dT (fun _ => True) L h U.heap) ∧ va_K D vwCl (gTys dT) U ∧ gEnv (gAd h sz) U)
def gQc (D : va_G) (dT : Nat → ClassId) (A : Nat → Prop) (Post : Option Value → gH → Prop) : Array Value → State → Outcome → State → Prop := fun _ st oc t => ∃ (v : Option Value) (h' : gH) (L : List Nat), oc = .returned v ∧ Post v h' ∧ gI D dT A L h' t.heap ∧ va_F A st t
def gXC (D : va_G) (dT : Nat → ClassId) (A : Nat → Prop) (X : String → gH → Prop) : String → State → State → Prop := fun E st t => ∃ (h' : gH) (L : List Nat), E ∈ gExc ∧ X E h' ∧ gI D dT A L h' t.heap ∧ va_F A st t
def gMet (l : Launch) (d : Nat) (z : gM) (as : List Value) (h : gH) (mc ms : Nat) (Post : Option Value → gH → Prop) (X : String → gH → Prop) : Prop := ∀ (D : va_G) (dT : Nat → ClassId) (sz : Nat), vx_Met l z.1 (gWs z) (gRm d mc ms) (gPc D dT as h sz) (gQc D dT (gAd h sz) Post) (gXC D dT (gAd h sz) X) mc ms (gAd h sz)
def gKX (p : Program) (l : Launch) (e : Env) (R : Room) (s : State) (m : MethodId) (args : Array Value) (below : List Frame) (meth : Method) (c : Code) (D : va_G) (dT : Nat → ClassId) (A : Nat → Prop) (nL : Nat) (Q : State → Prop) : gK := fun pc lv st h bc bs =>
  ∀ (H : Heap) (locs : List Loc) (cells slots : Nat) (ls : Array Slot) (L : List Nat), gI D dT A L h H → va_S A s.heap H locs → cells + bc ≤ R.cells → slots + bs ≤ R.slots → gLH ls nL lv → W p l e R s m args below meth c H locs cells slots Q (F0 m pc ls st)
def gCtx (p : Program) (l : Launch) (R : Room) (s : State) (m : MethodId) (args : Array Value) (meth : Method) (c : Code) (y : gM) (d : Nat) (D : va_G) (dT : Nat → ClassId) (A : Nat → Prop) : Prop :=
  p.tables.exec = Jvm.exec ∧ c.code = y.2.1 ∧ c.maxLocals = y.2.2.1 ∧ s.vm.findClass y.1.cls = some m.cls ∧ (∀ w ∈ gGood, w.before args s = true) ∧ va_K D vwCl (gTys dT) s ∧ (∀ q, s.heap.size ≤ q → A q) ∧ gEnv A s ∧ (d ≤ R.frames ∧ 39 * d ≤ R.locals) ∧ (y.1.name = "<init>" → meth.name = "<init>") ∧ c.exceptionTable.toList = tableOf (gHh y) ∧ (∀ q ∈ y.2.2.2.2, q.2.2.2.1 ≠ 0 ∧ q.2.2.2.2 ∈ gExc ∧ Jvm.Cond.classLink y.1.cls q.2.2.2.1 q.2.2.2.2 ∈ lw_tbl)
theorem gGood_in {w : Jvm.Cond} (h : w ∈ lw_tbl) (hg : goodWord w = true) : w ∈ gGood := List.mem_filter.mpr ⟨h, hg⟩
theorem gGood_all : ∀ w ∈ gGood, goodWord w = true := fun w h => (List.mem_filter.mp h).2
theorem gGood_goodIn : GoodIn gGood gGood := fun w h => ⟨h, good_of_word (gGood_all w h)⟩
theorem gNw_warm {w : Jvm.Cond} {s U : State} (hw : gNwK w = true) (hW : s.WarmedH U.vm) (h : va_Nw w s) : va_Nw w U := by
  cases w with
  | fieldLinkNest a i b n d h2 => exact va_Nw.warmF hW h
  | methodLinkNest a i x h2 => exact va_Nw.warmM hW h
  | castable C T => exact va_Nw.warmC hW h
  | declares x => exact va_Nw.warmD hW h
  | _ => cases hw
theorem gNw_on {w : Jvm.Cond} (hw : gNwK w = true) : w.onTables = true := by
  cases w <;> first | rfl | cases hw
theorem va_Nc_moved {C T : String} {u U : State} (hvm : u.vm.Alike U.vm) (h : va_Nc C T u) : va_Nc C T U := by
  first
    | exact va_Nc.moved hvm h
    | (obtain ⟨c, t, h1, h2, h3⟩ := h
       exact ⟨c, t, by rw [hvm.findClass]; exact h1, by rw [hvm.findClass]; exact h2, by first | (rw [hvm.assignable]; exact h3) | (rw [← hvm.assignable]; exact h3)⟩)
/-- what is carried along, from a place in the caller to its callee's start -/
theorem gEnv.move {A B : Nat → Prop} {s U : State} {H : Heap} {locs : List Loc} (hE : gEnv A s) (hS : va_S A s.heap H locs) (hU : U.heap = H) (hW : s.WarmedH U.vm) (hBA : ∀ q, B q → A q) : gEnv B U := by
  obtain ⟨h1, h2, h3, h4, h5⟩ := hE
  refine ⟨fun w hw hk => gNw_warm hk hW (h1 w hw hk), ?_, ?_, fun own k tx hw => ?_, fun E hE F hF hne => va_Nc_moved hW.alike (h5 E hE F hF hne)⟩
  · rw [hU]; exact (vx_Zq.moved hW.alike (h2.kept hS.2.1)).narrow hBA
  · rw [hU]; exact (vx_Zq.moved hW.alike (h3.kept hS.2.1)).narrow hBA
  · obtain ⟨a, ha⟩ := h4 own k tx hw
    exact ⟨a, vk_R.warm hW ha⟩
theorem gPc_blind (D : va_G) (dT : Nat → ClassId) (as : List Value) (h : gH) (sz : Nat) : FrameBlind (gPc D dT as h sz) := by
  intro a U g mk ⟨q1, q2, q3, q4, q5⟩
  refine ⟨q1, q2, q3, va_K.moved (u := U) (U := U.calling g mk a) (Vm.Alike.refl U.vm) q4, ?_⟩
  obtain ⟨h1, h2, h3, h4, h5⟩ := q5
  refine ⟨fun w hw hk => va_Nw.same (gNw_on hk) (u := U) (U := U.calling g mk a) rfl (h1 w hw hk), vx_Zq.moved (u := U) (U := U.calling g mk a) (Vm.Alike.refl U.vm) h2, vx_Zq.moved (u := U) (U := U.calling g mk a) (Vm.Alike.refl U.vm) h3, fun own k tx hw => ?_, fun E hE F hF hne => va_Nc_moved (u := U) (U := U.calling g mk a) (Vm.Alike.refl U.vm) (h5 E hE F hF hne)⟩
  obtain ⟨x, hx⟩ := h4 own k tx hw
  exact ⟨x, vk_R.same (u := U) (U := U.calling g mk a) rfl hx⟩
section GXR
variable {p : Program} {l : Launch} {e : Env} {R : Room} {s : State} {m : MethodId} {args : Array Value} {below : List Frame} {meth : Method} {c : Code} {H : Heap} {locs : List Loc} {cells slots : Nat} {Q : State → Prop}
variable {mc ms : Nat} {A : Nat → Prop} {a : Array Value} {pc : Nat} {ls : Array Slot} {st0 rest : List Value} {D : va_G} {dT : Nat → ClassId} {h : gH} {Post : Option Value → gH → Prop} {X : String → gH → Prop}
/-- what a call's two ways of ending give the caller -/
theorem gx_call (hr : vx_Run p l e R s m args below meth c H locs cells slots mc ms (F0 m pc ls st0) rest (gQc D dT (gAd h H.size) Post a) (gXC D dT (gAd h H.size) X) (gAd h H.size)) (hS : va_S A s.heap H locs) (hA : ∀ q, gAd h H.size q → A q)
    (kx : ∀ (E : String) (ce : Cell) (q9 : Addr) (h' : gH) (L : List Nat) (H1 : Heap) (locs1 : List Loc), E ∈ gExc → X E h' → gI D dT A L h' H1 → va_S A s.heap H1 locs1 → H1[q9]? = some ce → ce.vm = .none → s.vm.findClass E = some ce.cls → vx_W p l e R s m args below meth c H1 locs1 (cells + mc) (slots + ms) Q (F0 m pc ls rest) q9)
    (kk : ∀ (v : Option Value) (h' : gH) (L : List Nat) (H1 : Heap) (locs1 : List Loc), Post v h' → gI D dT A L h' H1 → va_S A s.heap H1 locs1 → W p l e R s m args below meth c H1 locs1 (cells + mc) (slots + ms) Q (F0 m (pc + 3) ls (v.toList ++ rest))) : W p l e R s m args below meth c H locs cells slots Q (F0 m pc ls st0) := by
  intro T hT X9
  rcases hr T hT X9 with ⟨v, st₀, t, T', L, h0, X', hL, e1, e2, ⟨v', h', L', hv, hp, hI, hF⟩, st⟩ | ⟨q, st₀, t, T', L, E, ce, h0, X', hL, e1, e2, ⟨h', L', hE, hp, hI, hF⟩, hce, hcv, hcl, st⟩
  · cases hv
    obtain ⟨k1, k2, k3⟩ := vx_keep h0 e1 hS (fun q _ => hA q) hA hL hF
    obtain ⟨t2, a1, b1⟩ := kk v h' L' T'.heap (locs ++ L) hp (by rw [e1]; exact hI.weaken hA) k3 T' rfl X'
    exact ⟨t2, st t2 a1, b1⟩
  · obtain ⟨k1, k2, k3⟩ := vx_keep h0 e1 hS (fun q _ => hA q) hA hL hF
    obtain ⟨t2, a1, b1⟩ := kx E ce q h' L' T'.heap (locs ++ L) hE hp (by rw [e1]; exact hI.weaken hA) k3 (by rw [e1]; exact hce) hcv hcl T' rfl X'
    exact ⟨t2, st.trans a1, b1⟩
end GXR
end
section
/-! calls, by kind -/
section GXD
variable {p : Program} {l : Launch} {e : Env} {R : Room} {s : State} {m : MethodId} {args : Array Value} {below : List Frame} {meth : Method} {c : Code} {H : Heap} {locs : List Loc} {cells slots : Nat} {Q : State → Prop}
variable {mc ms d n idx ci nL : Nat} {A : Nat → Prop} {a : Nat} {pc : Nat} {ls : Array Slot} {r as fs : List Value} {D : va_G} {dT : Nat → ClassId} {h : gH} {Post : Option Value → gH → Prop} {X : String → gH → Prop} {y z : gM} {L : List Nat}
theorem gx_A (C : gCtx p l R s m args meth c y d D dT A) (I : gI D dT A L h H) (hS : va_S A s.heap H locs) : ∀ q, gAd h H.size q → A q := by
  intro q hq
  rcases hq with hq | hq
  · exact (I.dom hq).1
  · exact C.2.2.2.2.2.2.1 q (Nat.le_trans hS.1 hq)
theorem gx_pre (C : gCtx p l R s m args meth c y d D dT A) (I : gI D dT A L h H) (hS : va_S A s.heap H locs) (U : State) (hU : U.heap = H) (hW : s.WarmedH U.vm) : gPc D dT as h H.size as.toArray U := by
  refine ⟨rfl, by rw [hU], ⟨L, by rw [hU]; exact I.weaken (fun _ _ => trivial)⟩, va_K.moved hW.alike C.2.2.2.2.2.1, gEnv.move C.2.2.2.2.2.2.2.1 hS hU hW (gx_A C I hS)⟩
theorem gx_fix (C : gCtx p l R s m args meth c y d D dT A) : CallFix p m c y.2.1 y.2.2.1 s args gGood y.1.cls := ⟨C.1, C.2.1, C.2.2.1, C.2.2.2.1, C.2.2.2.2.1⟩
theorem gWs_ok {z : gM} (hz : gOK z) : gWs z = Jvm.Cond.code z.1 z.2.1 z.2.2.1 z.2.2.2.1 :: gGood := by
  unfold gWs
  rw [hz.2.2.2.2.2]
theorem gWs_good {z : gM} (hz : gOK z) : ∀ w ∈ gWs z, w ∈ gGood := by
  intro w hw
  rw [gWs_ok hz] at hw
  rcases List.mem_cons.mp hw with rfl | hw
  · exact gGood_in hz.2.1 rfl
  · exact hw
theorem gGI {ws : List Jvm.Cond} (h : ∀ w ∈ ws, w ∈ gGood) : GoodIn gGood ws := fun w hw => ⟨h w hw, good_of_word (gGood_all w (h w hw))⟩
theorem gx_room (C : gCtx p l R s m args meth c y (d + 1) D dT A) {maxL : Nat} (hm : maxL ≤ 20) : (gRm d mc ms).frames + 1 ≤ R.frames ∧ 8 + (maxL + 11) + (gRm d mc ms).locals ≤ R.locals := by
  obtain ⟨h1, h2⟩ := C.2.2.2.2.2.2.2.2.1
  refine ⟨h1, ?_⟩
  show 8 + (maxL + 11) + 39 * d ≤ R.locals
  omega
theorem gx_V (C : gCtx p l R s m args meth c y (d + 1) D dT A) (hM : gMet l d z (.ref a :: as) h mc ms Post X) (hl : gLV y.1.cls idx z n ci) (I : gI D dT A L h H) (hS : va_S A s.heap H locs) (hn : as.length = n) (ha : h a = some (.inr (ci, fs))) (hr : gCat r ≤ 8) (hls : ls.size = y.2.2.1) (hf : cells + mc ≤ R.cells ∧ slots + ms ≤ R.slots) (hd : decode y.2.1 pc = .ok (.invokevirtual idx, 3))
    (kx : ∀ (E : String) (ce : Cell) (q9 : Addr) (h' : gH) (L : List Nat) (H1 : Heap) (locs1 : List Loc), E ∈ gExc → X E h' → gI D dT A L h' H1 → va_S A s.heap H1 locs1 → H1[q9]? = some ce → ce.vm = .none → s.vm.findClass E = some ce.cls → vx_W p l e R s m args below meth c H1 locs1 (cells + mc) (slots + ms) Q (F0 m pc ls r) q9)
    (kk : ∀ (v : Option Value) (h' : gH) (L : List Nat) (H1 : Heap) (locs1 : List Loc), Post v h' → gI D dT A L h' H1 → va_S A s.heap H1 locs1 → W p l e R s m args below meth c H1 locs1 (cells + mc) (slots + ms) Q (F0 m (pc + 3) ls (v.toList ++ r))) : W p l e R s m args below meth c H locs cells slots Q (F0 m pc ls (as.reverse ++ .ref a :: r)) := by
  obtain ⟨hz, hna, h1, h2, h3, T, N, hc⟩ := hl
  obtain ⟨k, hk⟩ := I.get ha
  have hcw : CallW R s args y.1.cls z.1.cls idx z.1 z.2.1 z.2.2.1 z.2.2.2.1 (gWs z) (gRm d mc ms) mc ms n := by
    refine cwV n C.2.2.2.2.1 (gGI ?_) (gWs_ok hz) rfl rfl ⟨rfl, hz.2.2.2.1.1, hz.2.2.2.1.2, hna⟩ (gx_room C hz.2.2.2.2.1)
    intro w hw
    rcases List.mem_append.mp hw with hw | hw
    · simp only [List.mem_cons, List.not_mem_nil, or_false] at hw
      rcases hw with rfl | rfl | rfl | rfl
      · exact gGood_in h1 rfl
      · exact gGood_in h2 rfl
      · exact gGood_in h3 rfl
      · exact gGood_in hz.2.2.1 rfl
    · exact gWs_good hz w hw
  refine gx_call (vx_runV (gx_fix C) (hM D dT H.size) hcw ⟨gPc_blind D dT _ h H.size, va_recv C.2.2.2.2.2.1 I.2.1 hc hk, fun U hU hW => gx_pre C I hS U hU hW⟩ rfl hn hls rfl (lv_room hr) hd hf) hS (gx_A C I hS) kx kk
theorem gx_St (C : gCtx p l R s m args meth c y (d + 1) D dT A) (hM : gMet l d z as h mc ms Post X) (hl : gLS y.1.cls idx z n) (I : gI D dT A L h H) (hS : va_S A s.heap H locs) (hn : as.length = n) (hr : gCat r ≤ 8) (hls : ls.size = y.2.2.1) (hf : cells + mc ≤ R.cells ∧ slots + ms ≤ R.slots) (hd : decode y.2.1 pc = .ok (.invokestatic idx, 3))
    (kx : ∀ (E : String) (ce : Cell) (q9 : Addr) (h' : gH) (L : List Nat) (H1 : Heap) (locs1 : List Loc), E ∈ gExc → X E h' → gI D dT A L h' H1 → va_S A s.heap H1 locs1 → H1[q9]? = some ce → ce.vm = .none → s.vm.findClass E = some ce.cls → vx_W p l e R s m args below meth c H1 locs1 (cells + mc) (slots + ms) Q (F0 m pc ls r) q9)
    (kk : ∀ (v : Option Value) (h' : gH) (L : List Nat) (H1 : Heap) (locs1 : List Loc), Post v h' → gI D dT A L h' H1 → va_S A s.heap H1 locs1 → W p l e R s m args below meth c H1 locs1 (cells + mc) (slots + ms) Q (F0 m (pc + 3) ls (v.toList ++ r))) : W p l e R s m args below meth c H locs cells slots Q (F0 m pc ls (as.reverse ++ r)) := by
  obtain ⟨hz, hna, h1, h2⟩ := hl
  have hcw : CallB R s args y.1.cls idx z.1 z.2.1 z.2.2.1 z.2.2.2.1 (gWs z) (gRm d mc ms) mc ms n ∧ (Jvm.Cond.static z.1).before args s = true :=
    ⟨callB_of n C.2.2.2.2.1 (gGI (gWs_good hz)) (gWs_ok hz) rfl rfl (C.2.2.2.2.1 _ (gGood_in hz.2.2.1 rfl)) (C.2.2.2.2.1 _ (gGood_in h1 rfl)) ⟨hz.2.2.2.1.1, hz.2.2.2.1.2, hna⟩ (gx_room C hz.2.2.2.2.1), C.2.2.2.2.1 _ (gGood_in h2 rfl)⟩
  exact gx_call (vx_runS (gx_fix C) (hM D dT H.size) hcw ⟨gPc_blind D dT _ h H.size, fun U hU hW => gx_pre C I hS U hU hW⟩ rfl hn hls rfl (lv_room hr) hd hf) hS (gx_A C I hS) kx kk
theorem gWsW_ok {z : gM} (hz : z.2.2.2.2 ≠ []) : gWs z = Jvm.Cond.codeWith z.1 z.2.1 z.2.2.1 z.2.2.2.1 (gHh z) :: gGood := by
  unfold gWs
  cases h : z.2.2.2.2 with
  | nil => exact absurd h hz
  | cons q t => rfl
theorem gx_Sw (C : gCtx p l R s m args meth c y (d + 1) D dT A) (hM : gMet l d z as h mc ms Post X) (hl : gLW y.1.cls idx z n) (hne : z.2.2.2.2 ≠ []) (I : gI D dT A L h H) (hS : va_S A s.heap H locs) (hn : as.length = n) (hr : gCat r ≤ 8) (hls : ls.size = y.2.2.1) (hf : cells + mc ≤ R.cells ∧ slots + ms ≤ R.slots) (hd : decode y.2.1 pc = .ok (.invokestatic idx, 3))
    (kx : ∀ (E : String) (ce : Cell) (q9 : Addr) (h' : gH) (L : List Nat) (H1 : Heap) (locs1 : List Loc), E ∈ gExc → X E h' → gI D dT A L h' H1 → va_S A s.heap H1 locs1 → H1[q9]? = some ce → ce.vm = .none → s.vm.findClass E = some ce.cls → vx_W p l e R s m args below meth c H1 locs1 (cells + mc) (slots + ms) Q (F0 m pc ls r) q9)
    (kk : ∀ (v : Option Value) (h' : gH) (L : List Nat) (H1 : Heap) (locs1 : List Loc), Post v h' → gI D dT A L h' H1 → va_S A s.heap H1 locs1 → W p l e R s m args below meth c H1 locs1 (cells + mc) (slots + ms) Q (F0 m (pc + 3) ls (v.toList ++ r))) : W p l e R s m args below meth c H locs cells slots Q (F0 m pc ls (as.reverse ++ r)) := by
  obtain ⟨hz, hna, h1, h2⟩ := hl
  have hws : ∀ w ∈ gWs z, w ∈ gGood := by
    intro w hw
    rw [gWsW_ok hne] at hw
    rcases List.mem_cons.mp hw with rfl | hw
    · exact gGood_in hz.2.1 rfl
    · exact hw
  have hcw : vx_CSW R s args y.1.cls idx z.1 z.2.1 z.2.2.1 z.2.2.2.1 (gHh z) (gWs z) (gRm d mc ms) mc ms n := by
    refine vx_cwSW n C.2.2.2.2.1 (gGI ?_) (gWsW_ok hne) rfl rfl ⟨hz.2.2.2.1.1, hz.2.2.2.1.2, hna⟩ (gx_room C hz.2.2.2.2.1)
    intro w hw
    rcases List.mem_append.mp hw with hw | hw
    · simp only [List.mem_cons, List.not_mem_nil, or_false] at hw
      rcases hw with rfl | rfl | rfl
      · exact gGood_in h1 rfl
      · exact gGood_in h2 rfl
      · exact gGood_in hz.2.2.1 rfl
    · exact hws w hw
  exact gx_call (vx_runSX (gx_fix C) (hM D dT H.size) hcw ⟨gPc_blind D dT _ h H.size, fun U hU hW => gx_pre C I hS U hU hW⟩ rfl hn hls rfl (lv_room hr) hd hf) hS (gx_A C I hS) kx kk
theorem gx_In (C : gCtx p l R s m args meth c y (d + 1) D dT A) (hM : gMet l d z (.ref a :: as) h mc ms Post X) (hl : gLI y.1.cls idx z n) (I : gI D dT A L h H) (hS : va_S A s.heap H locs) (hn : as.length = n) (hr : gCat r ≤ 8) (hls : ls.size = y.2.2.1) (hf : cells + mc ≤ R.cells ∧ slots + ms ≤ R.slots) (hd : decode y.2.1 pc = .ok (.invokespecial idx, 3))
    (kx : ∀ (E : String) (ce : Cell) (q9 : Addr) (h' : gH) (L : List Nat) (H1 : Heap) (locs1 : List Loc), E ∈ gExc → X E h' → gI D dT A L h' H1 → va_S A s.heap H1 locs1 → H1[q9]? = some ce → ce.vm = .none → s.vm.findClass E = some ce.cls → vx_W p l e R s m args below meth c H1 locs1 (cells + mc) (slots + ms) Q (F0 m pc ls r) q9)
    (kk : ∀ (v : Option Value) (h' : gH) (L : List Nat) (H1 : Heap) (locs1 : List Loc), Post v h' → gI D dT A L h' H1 → va_S A s.heap H1 locs1 → W p l e R s m args below meth c H1 locs1 (cells + mc) (slots + ms) Q (F0 m (pc + 3) ls (v.toList ++ r))) : W p l e R s m args below meth c H locs cells slots Q (F0 m pc ls (as.reverse ++ .ref a :: r)) := by
  obtain ⟨hz, hna, hret, h1, h2, h3⟩ := hl
  have hw : gWs z = Jvm.Cond.code z.1 z.2.1 z.2.2.1 none :: gGood := by rw [gWs_ok hz, hret]
  have hini := C.2.2.2.2.1 _ (gGood_in hz.2.2.1 rfl)
  have hin := C.2.2.2.2.1 _ (gGood_in h2 rfl)
  rcases h3 with h3 | ⟨host, h3⟩
  · exact gx_call (vx_runI (gx_fix C) (hM D dT H.size) (cwI n C.2.2.2.2.1 (gGI (gWs_good hz)) hw rfl rfl hini (C.2.2.2.2.1 _ (gGood_in h3 rfl)) hin h1 ⟨hz.2.2.2.1.1, hz.2.2.2.1.2, hna⟩ (gx_room C hz.2.2.2.2.1)) ⟨gPc_blind D dT _ h H.size, fun U hU hW => gx_pre C I hS U hU hW⟩ rfl hn hls rfl (lv_room hr) hd hf) hS (gx_A C I hS) kx kk
  · exact gx_call (vx_runIN (gx_fix C) (hM D dT H.size) ⟨va_cnB n C.2.2.2.2.1 (gGI (gWs_good hz)) hw rfl rfl (C.2.2.2.2.2.2.2.1.1 _ h3 rfl) hini ⟨hz.2.2.2.1.1, hz.2.2.2.1.2, hna⟩ (gx_room C hz.2.2.2.2.1), h1, hin⟩ ⟨gPc_blind D dT _ h H.size, fun U hU hW => gx_pre C I hS U hU hW⟩ rfl hn hls rfl (lv_room hr) hd hf) hS (gx_A C I hS) kx kk
end GXD
end
section
theorem gIn1 : ∀ w ∈ u_ws RX1 TX1 9, w ∈ lw_tbl := by decide +kernel
theorem gGd1 : ∀ w ∈ u_ws RX1 TX1 9, goodWord w = true := by decide +kernel
theorem gIn2 : ∀ w ∈ u_ws RX2 TX2 5, w ∈ lw_tbl := by decide +kernel
theorem gGd2 : ∀ w ∈ u_ws RX2 TX2 5, goodWord w = true := by decide +kernel
theorem gIn3 : ∀ w ∈ u_ws RX3 TX3 1, w ∈ lw_tbl := by decide +kernel
theorem gGd3 : ∀ w ∈ u_ws RX3 TX3 1, goodWord w = true := by decide +kernel
theorem gIn4 : ∀ w ∈ u_ws RX4 TX4 5, w ∈ lw_tbl := by decide +kernel
theorem gGd4 : ∀ w ∈ u_ws RX4 TX4 5, goodWord w = true := by decide +kernel
theorem gIn5 : ∀ w ∈ u_ws RX5 TX5 2, w ∈ lw_tbl := by decide +kernel
theorem gGd5 : ∀ w ∈ u_ws RX5 TX5 2, goodWord w = true := by decide +kernel
theorem gIn6 : ∀ w ∈ u_ws RX6 TX6 12, w ∈ lw_tbl := by decide +kernel
theorem gGd6 : ∀ w ∈ u_ws RX6 TX6 12, goodWord w = true := by decide +kernel
theorem gCastable : ∀ E ∈ gExc, Jvm.Cond.castable E E ∈ lw_tbl := by decide +kernel
theorem gArI : Jvm.Cond.arrayClass (newarray.typeOf .int) ∈ lw_tbl := by decide +kernel
theorem gArZ : Jvm.Cond.arrayClass (newarray.typeOf .boolean) ∈ lw_tbl := by decide +kernel
theorem gArJ : Jvm.Cond.arrayClass (newarray.typeOf .long) ∈ lw_tbl := by decide +kernel
theorem gObjI : Jvm.Cond.instanceMethod objectInit ∈ lw_tbl := by decide +kernel
theorem gObjC : Jvm.Cond.code objectInit ⟨#[0xb1]⟩ 1 none ∈ lw_tbl := by decide +kernel
/-- a nest mate's field lies in another class -/
def gNestBad : Jvm.Cond → Bool
  | .fieldLinkNest a _ b _ _ _ => a == b
  | _ => false
theorem gNestF : ∀ w ∈ lw_tbl, gNestBad w = false := by decide +kernel
/-! one instruction of gS is one row of the kit -/
section GXS
variable {p : Program} {l : Launch} {e : Env} {R : Room} {s : State} {m : MethodId} {args : Array Value} {below : List Frame} {meth : Method} {c : Code} {Q : State → Prop} {A : Nat → Prop} {D : va_G} {dT : Nat → ClassId} {y : gM} {d : Nat} {Post : Option Value → gH → Prop} {X : String → gH → Prop} {ro : Nat → Option (Nat × (Nat → Int32))}
/-- the answer that an instruction gives back -/
def gRet (y : gM) (i : Instr) (v : Option Value) : Prop := (i = .ireturn ∧ ∃ (x : Int32) (ty : FieldType), v = some (.int x) ∧ y.2.2.2.1 = some ty ∧ narrow ty (.int x) = .int x) ∨ (i = .lreturn ∧ ∃ x : Int64, v = some (.long x) ∧ y.2.2.2.1 = some .long) ∨ (i = .dreturn ∧ ∃ x : UInt64, v = some (.double x) ∧ y.2.2.2.1 = some .double) ∨ (i = .return_ ∧ v = none ∧ y.2.2.2.1 = none)
theorem gCl_facts : ∀ (ci : Nat) (C : String) (T : u_T) (N : Nat), vwCl[ci]? = some (C, T, N) → (∀ w ∈ u_ws C T N, w ∈ lw_tbl ∧ goodWord w = true) ∧ (∃ ty : Nat → FieldType, ∀ k, k < N → parseFieldDescriptor (T k).2.2.1 = some (ty k)) ∧ ∀ a, a < N → ∀ b, b < N → a ≠ b → (T a).2.1 ≠ (T b).2.1 := by
  intro ci C T N h
  match ci, h with
  | 0, h => cases h; exact ⟨fun w hw => ⟨gIn1 w hw, gGd1 w hw⟩, ⟨tyX1, tyX1_ok⟩, nmX1⟩
  | 1, h => cases h; exact ⟨fun w hw => ⟨gIn2 w hw, gGd2 w hw⟩, ⟨tyX2, tyX2_ok⟩, nmX2⟩
  | 2, h => cases h; exact ⟨fun w hw => ⟨gIn3 w hw, gGd3 w hw⟩, ⟨tyX3, tyX3_ok⟩, nmX3⟩
  | 3, h => cases h; exact ⟨fun w hw => ⟨gIn4 w hw, gGd4 w hw⟩, ⟨tyX4, tyX4_ok⟩, nmX4⟩
  | 4, h => cases h; exact ⟨fun w hw => ⟨gIn5 w hw, gGd5 w hw⟩, ⟨tyX5, tyX5_ok⟩, nmX5⟩
  | 5, h => cases h; exact ⟨fun w hw => ⟨gIn6 w hw, gGd6 w hw⟩, ⟨tyX6, tyX6_ok⟩, nmX6⟩
  | k + 6, h => simp [vwCl] at h
theorem vw_rec {own : String} {idx ci k : Nat} {ty : FieldType} {fin : Bool} (h : gFL own idx ci k ty fin) : True := trivial
set_option maxHeartbeats 4000000 in
set_option maxRecDepth 100000 in
theorem gx_step (C : gCtx p l R s m args meth c y (d + 1) D dT A)
    (hcall : ∀ (z : gM) (as : List Value) (h : gH) (mc ms : Nat) (Post : Option Value → gH → Prop) (X : String → gH → Prop), (gOK z ∨ gOKW z) → gSafe d z as h mc ms Post X → gMet l d z as h mc ms Post X)
    (hro : ∀ (a n : Nat) (f : Nat → Int32), ro a = some (n, f) → va_X a n f s s.heap ∧ a < s.heap.size ∧ ¬ A a)
    (hret : ∀ (i : Instr) (v : Option Value) (pc : Nat) (ls : Array Slot) (h : gH) (L : List Nat) (H : Heap) (locs : List Loc), gRet y i v → decode y.2.1 pc = .ok (i, 1) → Post v h → gI D dT A L h H → va_S A s.heap H locs → W p l e R s m args below meth c H locs R.cells R.slots Q (F0 m pc ls v.toList))
    (hthrow : ∀ (E : String) (ce : Cell) (q9 : Addr) (pc : Nat) (ls : Array Slot) (rest : List Value) (h : gH) (L : List Nat) (H : Heap) (locs : List Loc), gHd y pc E = none → E ∈ gExc → X E h → gI D dT A L h H → va_S A s.heap H locs → H[q9]? = some ce → ce.vm = .none → s.vm.findClass E = some ce.cls → vx_W p l e R s m args below meth c H locs R.cells R.slots Q (F0 m pc ls rest) q9)
    (hnew : ∀ (E : String) (pc ik : Nat) (ls : Array Slot) (st : List Value) (h : gH) (L : List Nat) (H : Heap) (locs : List Loc) (cells slots : Nat), gTN y pc ik E → decode y.2.1 pc = .ok (.new ik, 3) → 6 ≤ d + 1 → gCat st ≤ 100 → X E h → gI D dT A L h H → va_S A s.heap H locs → cells + 1 ≤ R.cells → slots + 6 ≤ R.slots → ls.size = y.2.2.1 → W p l e R s m args below meth c H locs cells slots Q (F0 m pc ls st)) :
    gClosed (gSafe d) y (d + 1) Post X ro (gKX p l e R s m args below meth c D dT A y.2.2.1 Q) := by
  intro pc lv st h bc bs i len hd hlen hs H locs cells slots ls L hI hS hc hbs hL
  obtain ⟨hx, hb, hml, hown, hts, hK, hA, hE, hR, hin, htab, hhd⟩ := id C
  have gw : ∀ w : Jvm.Cond, w ∈ lw_tbl → goodWord w = true → w.before args s = true := fun w h1 h2 => hts w (gGood_in h1 h2)
  -- a call's thrown end
  have kxx : ∀ (pc : Nat) (lv : gL) (r : List Value) (mc ms : Nat), mc ≤ bc → ms ≤ bs → gLH ls y.2.2.1 lv → ∀ (E : String) (ce : Cell) (q9 : Addr) (h' : gH) (L : List Nat) (H1 : Heap) (locs1 : List Loc), E ∈ gExc → gThr y X (gKX p l e R s m args below meth c D dT A y.2.2.1 Q) pc lv E h' (bc - mc) (bs - ms) → gI D dT A L h' H1 → va_S A s.heap H1 locs1 → H1[q9]? = some ce → ce.vm = .none → s.vm.findClass E = some ce.cls → vx_W p l e R s m args below meth c H1 locs1 (cells + mc) (slots + ms) Q (F0 m pc ls r) q9 := by
    intro pc lv r mc ms hmc hms hL E ce q9 h' L H1 locs1 hEx ht hI1 hS1 hce hcv hcl
    unfold gThr at ht
    split at ht
    · next hn => exact vx_widen (by omega) (by omega) (hthrow E ce q9 pc ls r h' L H1 locs1 hn hEx ht hI1 hS1 hce hcv hcl)
    · next hp hn =>
      unfold gHd at hn
      obtain ⟨q, hq, hq2⟩ := Option.map_eq_some_iff.mp hn
      obtain ⟨hq1, pre, suf, hsplit, hpre⟩ := List.find?_eq_some_iff_append.mp hq
      simp only [Bool.and_eq_true, decide_eq_true_eq] at hq1
      obtain ⟨⟨c1, c2⟩, c3⟩ := hq1
      have hmem : q ∈ y.2.2.2.2 := by rw [hsplit]; exact List.mem_append_right _ List.mem_cons_self
      obtain ⟨g1, g2, g3⟩ := hhd q hmem
      have ht2 : c.exceptionTable.toList = (tableOf (pre.map (fun q => (q.1, q.2.1, q.2.2.1, q.2.2.2.1)))) ++ (⟨q.1, q.2.1, q.2.2.1, q.2.2.2.1⟩ : ExceptionTableEntry) :: tableOf (suf.map (fun q => (q.1, q.2.1, q.2.2.1, q.2.2.2.1))) := by
        rw [htab]
        unfold gHh
        rw [hsplit]
        simp [tableOf]
      refine vx_catch (own := y.1.cls) (name := q.2.2.2.2) hown _ _ _ ht2 ?_ (by simp [covers, c1, c2]) g1 (gw _ g3 rfl) ?_ hce hcv hcl ?_
      · intro z hz
        unfold tableOf at hz
        rw [List.map_map] at hz
        obtain ⟨z0, hz0, rfl⟩ := List.mem_map.mp hz
        have hn0 := hpre z0 hz0
        obtain ⟨k1, k2, k3⟩ := hhd z0 (by rw [hsplit]; exact List.mem_append_left _ hz0)
        by_cases hcov : z0.1 ≤ pc ∧ pc < z0.2.1
        · refine Or.inr ⟨k1, z0.2.2.2.2, gw _ k3 rfl, hE.2.2.2.2 E hEx _ k2 ?_⟩
          intro he
          simp [hcov.1, hcov.2, he] at hn0
        · left
          simp only [Function.comp, covers]
          by_cases c5 : z0.1 ≤ pc
          · have c6 : ¬ pc < z0.2.1 := fun h => hcov ⟨c5, h⟩
            simp [c6]
          · simp [c5]
      · rw [← c3]
        exact va_Nw.use rfl (hE.1 _ (gCastable q.2.2.2.2 g2) rfl)
      · have ht3 := ht q9 H1 locs1 (cells + mc) (slots + ms) ls L hI1 hS1 (by omega) (by omega) hL
        rw [← hq2] at ht3
        exact ht3
  cases i with
  | iload n =>
    obtain rfl : len = 2 := by simpa [gLen] using hlen
    obtain ⟨x, hg, k⟩ := hs
    exact lv_iload hx hb hd (hL.2.2.2 _ _ hg) (k H locs cells slots ls L hI hS hc hbs hL)
  | lload n =>
    obtain rfl : len = 2 := by simpa [gLen] using hlen
    obtain ⟨x, hg, k⟩ := hs
    exact lv_lload hx hb hd (hL.2.2.2 _ _ hg) (k H locs cells slots ls L hI hS hc hbs hL)
  | dload n =>
    obtain rfl : len = 2 := by simpa [gLen] using hlen
    obtain ⟨x, hg, k⟩ := hs
    exact lv_dload hx hb hd (hL.2.2.2 _ _ hg) (k H locs cells slots ls L hI hS hc hbs hL)
  | aload n =>
    obtain rfl : len = 2 := by simpa [gLen] using hlen
    obtain ⟨x, hg, k⟩ := hs
    exact lv_aload hx hb hd (hL.2.2.2 _ _ hg) (k H locs cells slots ls L hI hS hc hbs hL)
  | iload_n n =>
    obtain rfl : len = 1 := by simpa [gLen] using hlen
    obtain ⟨x, hg, k⟩ := hs
    exact lv_iload_n hx hb hd rfl (hL.2.2.2 _ _ hg) (k H locs cells slots ls L hI hS hc hbs hL)
  | lload_n n =>
    obtain rfl : len = 1 := by simpa [gLen] using hlen
    obtain ⟨x, hg, k⟩ := hs
    exact lv_lload_n hx hb hd rfl (hL.2.2.2 _ _ hg) (k H locs cells slots ls L hI hS hc hbs hL)
  | aload_n n =>
    obtain rfl : len = 1 := by simpa [gLen] using hlen
    obtain ⟨x, hg, k⟩ := hs
    exact lv_aload_n hx hb hd rfl (hL.2.2.2 _ _ hg) (k H locs cells slots ls L hI hS hc hbs hL)
  | istore n =>
    obtain rfl : len = 2 := by simpa [gLen] using hlen
    obtain ⟨x, r, rfl, hn, k⟩ := hs
    exact lv_istore hx hb hd hL.has (by rw [← hL.2.1]; exact hn) rfl (fun ls1 h1 => (k H locs cells slots ls1 L hI hS hc hbs (hL.set h1)))
  | istore_n n =>
    obtain rfl : len = 1 := by simpa [gLen] using hlen
    obtain ⟨x, r, rfl, hn, k⟩ := hs
    exact lv_istore_n hx hb hd rfl hL.has (by rw [← hL.2.1]; exact hn) rfl (fun ls1 h1 => (k H locs cells slots ls1 L hI hS hc hbs (hL.set h1)))
  | astore n =>
    obtain rfl : len = 2 := by simpa [gLen] using hlen
    obtain ⟨x, r, rfl, hn, k⟩ := hs
    exact lv_astore hx hb hd hL.has (by rw [← hL.2.1]; exact hn) rfl (fun ls1 h1 => (k H locs cells slots ls1 L hI hS hc hbs (hL.set h1)))
  | astore_n n =>
    obtain rfl : len = 1 := by simpa [gLen] using hlen
    obtain ⟨x, r, rfl, hn, k⟩ := hs
    exact lv_astore_n hx hb hd rfl hL.has (by rw [← hL.2.1]; exact hn) rfl (fun ls1 h1 => (k H locs cells slots ls1 L hI hS hc hbs (hL.set h1)))
  | lstore n =>
    obtain rfl : len = 2 := by simpa [gLen] using hlen
    obtain ⟨x, r, rfl, hn, k⟩ := hs
    exact lv_lstore hx hb hd hL.has (by rw [← hL.2.1]; exact hn) rfl (fun ls1 h1 => (k H locs cells slots ls1 L hI hS hc hbs (hL.set2 h1)))
  | dstore n =>
    obtain rfl : len = 2 := by simpa [gLen] using hlen
    obtain ⟨x, r, rfl, hn, k⟩ := hs
    exact lv_dstore hx hb hd hL.has (by rw [← hL.2.1]; exact hn) rfl (fun ls1 h1 => (k H locs cells slots ls1 L hI hS hc hbs (hL.set2 h1)))
  | lstore_n n =>
    obtain rfl : len = 1 := by simpa [gLen] using hlen
    obtain ⟨x, r, rfl, hn, k⟩ := hs
    exact lv_lstore_n hx hb hd rfl hL.has (by rw [← hL.2.1]; exact hn) rfl (fun ls1 h1 => (k H locs cells slots ls1 L hI hS hc hbs (hL.set2 h1)))
  | iinc n k0 =>
    obtain rfl : len = 3 := by simpa [gLen] using hlen
    obtain ⟨x, v, hg, hv, hn, k⟩ := hs
    obtain ⟨i, hi⟩ := List.getElem?_of_mem (gA_mem (q := (n, Value.int x)).mpr hg)
    exact lv_iinc hx hb hd hL.has hi hv (by rw [← hL.2.1]; exact hn) rfl (fun ls1 h1 => (k H locs cells slots ls1 L hI hS hc hbs (hL.set h1)))
  | iconst n =>
    obtain rfl : len = 1 := by simpa [gLen] using hlen
    obtain ⟨v, hv, k⟩ := hs
    exact lv_iconst hx hb hd hv (k H locs cells slots ls L hI hS hc hbs hL)
  | bipush n =>
    obtain rfl : len = 2 := by simpa [gLen] using hlen
    obtain ⟨v, hv, k⟩ := hs
    exact lv_bipush hx hb hd hv (k H locs cells slots ls L hI hS hc hbs hL)
  | sipush n =>
    obtain rfl : len = 3 := by simpa [gLen] using hlen
    obtain ⟨v, hv, k⟩ := hs
    exact lv_sipush hx hb hd hv (k H locs cells slots ls L hI hS hc hbs hL)
  | lconst n =>
    obtain rfl : len = 1 := by simpa [gLen] using hlen
    obtain ⟨v, hv, k⟩ := hs
    exact lv_lconst hx hb hd hv (k H locs cells slots ls L hI hS hc hbs hL)
  | dconst n =>
    obtain rfl : len = 1 := by simpa [gLen] using hlen
    obtain ⟨rfl, k⟩ := hs
    exact lv_dconst0 hx hb hd (k H locs cells slots ls L hI hS hc hbs hL)
  | ldc2_w n =>
    obtain rfl : len = 3 := by simpa [gLen] using hlen
    obtain ⟨v, hw, k⟩ := hs
    exact lv_ldc2 hx hb hown (gw _ hw rfl) hd (k H locs cells slots ls L hI hS hc hbs hL)
  | iadd =>
    obtain rfl : len = 1 := by simpa [gLen] using hlen
    obtain ⟨b, a, r, rfl, k⟩ := hs
    exact lv_iadd hx hb hd (k H locs cells slots ls L hI hS hc hbs hL)
  | isub =>
    obtain rfl : len = 1 := by simpa [gLen] using hlen
    obtain ⟨b, a, r, rfl, k⟩ := hs
    exact lv_isub hx hb hd (k H locs cells slots ls L hI hS hc hbs hL)
  | imul =>
    obtain rfl : len = 1 := by simpa [gLen] using hlen
    obtain ⟨b, a, r, rfl, k⟩ := hs
    exact lv_imul hx hb hd (k H locs cells slots ls L hI hS hc hbs hL)
  | iand =>
    obtain rfl : len = 1 := by simpa [gLen] using hlen
    obtain ⟨b, a, r, rfl, k⟩ := hs
    exact lv_iand hx hb hd (k H locs cells slots ls L hI hS hc hbs hL)
  | ixor =>
    obtain rfl : len = 1 := by simpa [gLen] using hlen
    obtain ⟨b, a, r, rfl, k⟩ := hs
    exact lv_ixor hx hb hd (k H locs cells slots ls L hI hS hc hbs hL)
  | ladd =>
    obtain rfl : len = 1 := by simpa [gLen] using hlen
    obtain ⟨b, a, r, rfl, k⟩ := hs
    exact lv_ladd hx hb hd (k H locs cells slots ls L hI hS hc hbs hL)
  | lsub =>
    obtain rfl : len = 1 := by simpa [gLen] using hlen
    obtain ⟨b, a, r, rfl, k⟩ := hs
    exact lv_lsub hx hb hd (k H locs cells slots ls L hI hS hc hbs hL)
  | lmul =>
    obtain rfl : len = 1 := by simpa [gLen] using hlen
    obtain ⟨b, a, r, rfl, k⟩ := hs
    exact lv_lmul hx hb hd (k H locs cells slots ls L hI hS hc hbs hL)
  | land =>
    obtain rfl : len = 1 := by simpa [gLen] using hlen
    obtain ⟨b, a, r, rfl, k⟩ := hs
    exact lv_land hx hb hd (k H locs cells slots ls L hI hS hc hbs hL)
  | lor =>
    obtain rfl : len = 1 := by simpa [gLen] using hlen
    obtain ⟨b, a, r, rfl, k⟩ := hs
    exact lv_lor hx hb hd (k H locs cells slots ls L hI hS hc hbs hL)
  | lxor =>
    obtain rfl : len = 1 := by simpa [gLen] using hlen
    obtain ⟨b, a, r, rfl, k⟩ := hs
    exact lv_lxor hx hb hd (k H locs cells slots ls L hI hS hc hbs hL)
  | idiv =>
    obtain rfl : len = 1 := by simpa [gLen] using hlen
    obtain ⟨b, a, r, rfl, hne, k⟩ := hs
    exact lv_idiv hx hb hd hne (k H locs cells slots ls L hI hS hc hbs hL)
  | irem =>
    obtain rfl : len = 1 := by simpa [gLen] using hlen
    obtain ⟨b, a, r, rfl, hne, k⟩ := hs
    exact lv_irem hx hb hd hne (k H locs cells slots ls L hI hS hc hbs hL)
  | lshl =>
    obtain rfl : len = 1 := by simpa [gLen] using hlen
    obtain ⟨b, a, r, rfl, k⟩ := hs
    exact lv_lshl hx hb hd rfl (k H locs cells slots ls L hI hS hc hbs hL)
  | lushr =>
    obtain rfl : len = 1 := by simpa [gLen] using hlen
    obtain ⟨b, a, r, rfl, k⟩ := hs
    exact lv_lushr hx hb hd rfl (k H locs cells slots ls L hI hS hc hbs hL)
  | lcmp =>
    obtain rfl : len = 1 := by simpa [gLen] using hlen
    obtain ⟨b, a, r, rfl, k⟩ := hs
    exact W.lcmp hx hb hd (k H locs cells slots ls L hI hS hc hbs hL)
  | i2l =>
    obtain rfl : len = 1 := by simpa [gLen] using hlen
    obtain ⟨a, r, rfl, k⟩ := hs
    exact lv_i2l hx hb hd rfl (k H locs cells slots ls L hI hS hc hbs hL)
  | l2i =>
    obtain rfl : len = 1 := by simpa [gLen] using hlen
    obtain ⟨a, r, rfl, k⟩ := hs
    exact lv_l2i hx hb hd rfl (k H locs cells slots ls L hI hS hc hbs hL)
  | i2d =>
    obtain rfl : len = 1 := by simpa [gLen] using hlen
    obtain ⟨a, r, rfl, k⟩ := hs
    exact lv_i2d hx hb hd (k H locs cells slots ls L hI hS hc hbs hL)
  | ddiv =>
    obtain rfl : len = 1 := by simpa [gLen] using hlen
    obtain ⟨b, a, r, rfl, hne, k⟩ := hs
    exact lv_ddiv hx hb hd hne (k H locs cells slots ls L hI hS hc hbs hL)
  | dcmp op =>
    obtain rfl : len = 1 := by simpa [gLen] using hlen
    obtain ⟨b, a, r, rfl, k⟩ := hs
    exact lv_dcmp hx hb hd (k H locs cells slots ls L hI hS hc hbs hL)
  | dup =>
    obtain rfl : len = 1 := by simpa [gLen] using hlen
    obtain ⟨v, r, rfl, hv, k⟩ := hs
    exact lv_dup hx hb hd hv (k H locs cells slots ls L hI hS hc hbs hL)
  | dup2 =>
    obtain rfl : len = 1 := by simpa [gLen] using hlen
    obtain ⟨v, w, r, rfl, hv, hw, k⟩ := hs
    exact lv_dup2_11 hx hb hd hv hw (k H locs cells slots ls L hI hS hc hbs hL)
  | pop =>
    obtain rfl : len = 1 := by simpa [gLen] using hlen
    obtain ⟨v, r, rfl, hv, k⟩ := hs
    exact lv_pop hx hb hd hv (k H locs cells slots ls L hI hS hc hbs hL)
  | goto off =>
    obtain rfl : len = 3 := by simpa [gLen] using hlen
    obtain ⟨t, ht, k⟩ := hs
    exact lv_goto hx hb hd ht (k H locs cells slots ls L hI hS hc hbs hL)
  | ifCond cn off =>
    obtain rfl : len = 3 := by simpa [gLen] using hlen
    obtain ⟨x, r, t, rfl, ht, kt, kf⟩ := hs
    cases cn with
    | eq => exact lv_if_eq hx hb hd ht (fun q => kt q H locs cells slots ls L hI hS hc hbs hL) (fun q => kf q H locs cells slots ls L hI hS hc hbs hL)
    | ne => exact lv_if_ne hx hb hd ht (fun q => kt q H locs cells slots ls L hI hS hc hbs hL) (fun q => kf (fun z => z q) H locs cells slots ls L hI hS hc hbs hL)
    | lt => exact lv_if_lt hx hb hd ht (fun q => kt q H locs cells slots ls L hI hS hc hbs hL) (fun q => kf q H locs cells slots ls L hI hS hc hbs hL)
    | ge => exact lv_if_ge hx hb hd ht (fun q => kt q H locs cells slots ls L hI hS hc hbs hL) (fun q => kf q H locs cells slots ls L hI hS hc hbs hL)
    | gt => exact lv_if_gt hx hb hd ht (fun q => kt q H locs cells slots ls L hI hS hc hbs hL) (fun q => kf q H locs cells slots ls L hI hS hc hbs hL)
    | le => exact lv_if_le hx hb hd ht (fun q => kt q H locs cells slots ls L hI hS hc hbs hL) (fun q => kf q H locs cells slots ls L hI hS hc hbs hL)
  | if_icmp cn off =>
    obtain rfl : len = 3 := by simpa [gLen] using hlen
    obtain ⟨b, a, r, t, rfl, ht, kt, kf⟩ := hs
    cases cn with
    | eq => exact lv_icmp_eq hx hb hd ht (fun q => kt q H locs cells slots ls L hI hS hc hbs hL) (fun q => kf q H locs cells slots ls L hI hS hc hbs hL)
    | ne => exact lv_icmp_ne hx hb hd ht (fun q => kt q H locs cells slots ls L hI hS hc hbs hL) (fun q => kf (fun z => z q) H locs cells slots ls L hI hS hc hbs hL)
    | lt => exact lv_icmp_lt hx hb hd ht (fun q => kt q H locs cells slots ls L hI hS hc hbs hL) (fun q => kf q H locs cells slots ls L hI hS hc hbs hL)
    | ge => exact lv_icmp_ge hx hb hd ht (fun q => kt q H locs cells slots ls L hI hS hc hbs hL) (fun q => kf q H locs cells slots ls L hI hS hc hbs hL)
    | gt => exact lv_icmp_gt hx hb hd ht (fun q => kt q H locs cells slots ls L hI hS hc hbs hL) (fun q => kf q H locs cells slots ls L hI hS hc hbs hL)
    | le => exact lv_icmp_le hx hb hd ht (fun q => kt q H locs cells slots ls L hI hS hc hbs hL) (fun q => kf q H locs cells slots ls L hI hS hc hbs hL)
  | tableswitch dflt lo hi offs =>
    obtain ⟨x, r, rfl, k1, k2⟩ := hs
    by_cases h1 : x.toInt < lo
    · obtain ⟨t, ht, k⟩ := k1 (Or.inl h1)
      exact lv_tableOut hx hb hd (Or.inl h1) ht (k H locs cells slots ls L hI hS hc hbs hL)
    · by_cases h2 : hi < x.toInt
      · obtain ⟨t, ht, k⟩ := k1 (Or.inr h2)
        exact lv_tableOut hx hb hd (Or.inr h2) ht (k H locs cells slots ls L hI hS hc hbs hL)
      · obtain ⟨off, t, ho, ht, k⟩ := k2 h1 h2
        exact lv_tableIn hx hb hd h1 h2 ho ht (k H locs cells slots ls L hI hS hc hbs hL)
  | getfield idx =>
    obtain rfl : len = 3 := by simpa [gLen] using hlen
    obtain ⟨a, r, ci, k0, ty, fin, fs, v, rfl, hf, ha, hv, k⟩ := hs
    obtain ⟨C0, T, N, h1, h2, h3, h4, h5, h6⟩ := hf
    obtain ⟨i, hi⟩ := hI.get ha
    obtain ⟨f1, ⟨ty0, f2⟩, f3⟩ := gCl_facts ci C0 T N h1
    rcases h6 with h6 | ⟨host, h6⟩
    · exact va_get (Ts := gGood) hx hb hts (fun w hw => gGood_in (f1 w hw).1 (f1 w hw).2) hown hK hI.2.1 i hi h1 k0 h2 (gw _ h6 rfl) (fun _ h9 => by rw [h5] at h9; exact h9) hv hd (k H locs cells slots ls L hI hS hc hbs hL)
    · exact va_getN (Ts := gGood) hx hb hts (fun w hw => gGood_in (f1 w hw).1 (f1 w hw).2) hown hK hI.2.1 i hi h1 k0 h2 (va_Nw.use rfl (hE.1 _ h6 rfl)) (fun _ h9 => by rw [h5] at h9; exact h9) hv hd (k H locs cells slots ls L hI hS hc hbs hL)
  | putfield idx =>
    obtain rfl : len = 3 := by simpa [gLen] using hlen
    obtain ⟨v, a, r, ci, k0, ty, fin, fs, rfl, hf, hfin, ha, hl, hnw, hft, k⟩ := hs
    obtain ⟨C0, T, N, h1, h2, h3, h4, h5, h6⟩ := hf
    obtain ⟨i, hi⟩ := hI.get ha
    obtain ⟨f1, ⟨ty0, f2⟩, f3⟩ := gCl_facts ci C0 T N h1
    have kk : ∀ (H1 : Heap) (locs1 : List Loc), va_P D vwCl ((va_pl L (gF dT h)).set i (a, .inr (ci, fs.set k0 v))) H1 → va_D A ((va_pl L (gF dT h)).set i (a, .inr (ci, fs.set k0 v))) → va_S A s.heap H1 locs1 → W p l e R s m args below meth c H1 locs1 cells slots Q (F0 m (pc + 3) ls r) :=
      fun H1 locs1 hP hD hS1 => k H1 locs1 cells slots ls L (hI.set (o' := .inr (ci, fs.set k0 v)) ha hi hP hD) hS1 hc hbs hL
    have hq : ∀ w ∈ u_ws C0 T N, w ∈ gGood := fun w hw => gGood_in (f1 w hw).1 (f1 w hw).2
    cases fin with
    | false =>
      rcases h6 with h6 | ⟨host, h6⟩
      · exact va_put (Ts := gGood) hx hb hts hq ty0 f2 f3 hown hK hI.2.1 hI.2.2 hS i hi h1 k0 h2 (gw _ h6 rfl) (fun _ h9 => by rw [h5] at h9; exact h9) h4 h3 hnw hft hl hd kk
      · exact va_putN (Ts := gGood) hx hb hts hq ty0 f2 f3 hown hK hI.2.1 hI.2.2 hS i hi h1 k0 h2 (va_Nw.use rfl (hE.1 _ h6 rfl)) (fun _ h9 => by rw [h5] at h9; exact h9) h4 h3 hnw hft hl hd kk
    | true =>
      rcases hfin with hfin | ⟨hi1, T2, N2, hi2⟩
      · cases hfin
      · have he : C0 = y.1.cls := by rw [h1] at hi2; exact congrArg (fun q : vw_C => q.1) (Option.some.inj hi2)
        rcases h6 with h6 | ⟨host, h6⟩
        · exact va_putF (Ts := gGood) hx hb hts hq ty0 f2 f3 hown hK hI.2.1 hI.2.2 hS i hi h1 k0 h2 (gw _ h6 rfl) (fun _ h9 => by rw [h5] at h9; exact h9) h4 (hin hi1) (h5.trans he) h3 hnw hft hl hd kk
        · exact absurd (gNestF _ h6) (by rw [← he]; simp [gNestBad])
  | iaload =>
    obtain rfl : len = 1 := by simpa [gLen] using hlen
    obtain ⟨i, a, r, n, f, rfl, ha, hi, k⟩ := hs
    rcases ha with ha | ha
    · obtain ⟨q, hq⟩ := hI.get ha
      exact va_iald hx hb hK hI.2.1 q 0 hq rfl hi hd (k H locs cells slots ls L hI hS hc hbs hL)
    · obtain ⟨g1, g2, g3⟩ := hro a n f ha
      exact va_sld hx hb g1 g2 g3 hS hi hd (k H locs cells slots ls L hI hS hc hbs hL)
  | baload =>
    obtain rfl : len = 1 := by simpa [gLen] using hlen
    obtain ⟨i, a, r, n, f, rfl, ha, hi, k⟩ := hs
    obtain ⟨q, hq⟩ := hI.get ha
    exact va_zald hx hb hK hI.2.1 q 1 hq rfl hi hd (k H locs cells slots ls L hI hS hc hbs hL)
  | laload =>
    obtain rfl : len = 1 := by simpa [gLen] using hlen
    obtain ⟨i, a, r, n, f, rfl, ha, hi, k⟩ := hs
    obtain ⟨q, hq⟩ := hI.get ha
    exact va_lald hx hb hK hI.2.1 q 2 hq rfl hi hd (k H locs cells slots ls L hI hS hc hbs hL)
  | iastore =>
    obtain rfl : len = 1 := by simpa [gLen] using hlen
    obtain ⟨x, i, a, r, n, f, rfl, ha, hi, k⟩ := hs
    obtain ⟨q, hq⟩ := hI.get ha
    exact va_iast hx hb hK hI.2.1 hI.2.2 hS q 0 hq rfl hi hd (fun H1 locs1 hP hD hS1 => k H1 locs1 cells slots ls L (hI.set (o' := .inl (0, n, .inl (upd f i.toNatClampNeg x))) ha hq hP hD) hS1 hc hbs hL)
  | bastore =>
    obtain rfl : len = 1 := by simpa [gLen] using hlen
    obtain ⟨x, i, a, r, n, f, rfl, ha, hi, k⟩ := hs
    obtain ⟨q, hq⟩ := hI.get ha
    exact va_zast hx hb hK hI.2.1 hI.2.2 hS q 1 hq rfl hi hd (fun H1 locs1 hP hD hS1 => k H1 locs1 cells slots ls L (hI.set (o' := .inl (1, n, .inl (upd f i.toNatClampNeg (vp_nar .boolean x)))) ha hq hP hD) hS1 hc hbs hL)
  | lastore =>
    obtain rfl : len = 1 := by simpa [gLen] using hlen
    obtain ⟨x, i, a, r, n, f, rfl, ha, hi, k⟩ := hs
    obtain ⟨q, hq⟩ := hI.get ha
    exact va_last hx hb hK hI.2.1 hI.2.2 hS q 2 hq rfl hi hd (fun H1 locs1 hP hD hS1 => k H1 locs1 cells slots ls L (hI.set (o' := .inl (2, n, .inr (.inl (vp_updL f i.toNatClampNeg x)))) ha hq hP hD) hS1 hc hbs hL)
  | arraylength =>
    obtain rfl : len = 1 := by simpa [gLen] using hlen
    obtain ⟨a, r, v, rfl, ha, k⟩ := hs
    rcases ha with ⟨t, x, ha, ht, hv⟩ | ⟨n, f, ha, hv⟩
    · obtain ⟨q, hq⟩ := hI.get ha
      have ht9 : ∃ ty : FieldType, (gTys dT)[t]? = some (dT t, ty) := by
        match t, ht with
        | 0, _ => exact ⟨_, rfl⟩
        | 1, _ => exact ⟨_, rfl⟩
        | 2, _ => exact ⟨_, rfl⟩
      obtain ⟨ty, ht9⟩ := ht9
      exact va_alen hx hb hK hI.2.1 q t hq ht9 hv hd (k H locs cells slots ls L hI hS hc hbs hL)
    · obtain ⟨g1, g2, g3⟩ := hro a n f ha
      refine va_slen hx hb g1 g2 g3 hS hd ?_
      rw [hv]
      exact k H locs cells slots ls L hI hS hc hbs hL
  | newarray at_ =>
    obtain rfl : len = 2 := by simpa [gLen] using hlen
    obtain ⟨n, r, N, t, c0, rfl, hg, hn, hN, hN2, hc1, hs1, k⟩ := hs
    have go : ∀ (ty : FieldType), newarray.typeOf at_ = ty → Jvm.Cond.arrayClass (newarray.typeOf at_) ∈ lw_tbl → (∀ cA : ClassId, vp_cell cA (N, c0) = arrV cA N (fun _ => defaultValue ty)) → N * componentBytes ty ≤ 536870912 → (gTys dT)[t]? = some (dT t, ty) → (match ty with | .object _ => False | _ => True) → W p l e R s m args below meth c H locs cells slots Q (F0 m pc ls (.int n :: r)) := by
      intro ty hty hw hcell hbytes ht hno
      refine va_newa hx hb (gw _ hw rfl) hty hK hI.2.1 hI.2.2 hS hA hcell hn hN hbytes (by omega) (by omega) hd (fun q cA H1 hK1 hP hD hS1 => ?_)
      have hcA : cA = dT t := by
        have q1 := (hK1.2 (gTys dT).length (cA, ty) (by rw [List.getElem?_append_right (Nat.le_refl _)]; simp)).2
        have q2 := (hK.2 t (dT t, ty) ht).2
        cases ty with
        | object C => exact hno.elim
        | _ => exact Option.some.inj (q1.symm.trans q2)
      subst hcA
      obtain ⟨hn0, hI1⟩ := hI.new (o := .inl (t, N, c0)) hP hD
      exact k q hn0 H1 locs (cells + 1) (slots + N) ls (L ++ [q]) hI1 hS1 (by omega) (by omega) hL
    cases at_ with
    | int => cases hg; exact go .int rfl gArI (fun cA => by first | rfl | exact vp_cell_i .. | simp [vp_cell, defaultValue]) (by simp [componentBytes]; omega) rfl trivial
    | boolean => cases hg; exact go .boolean rfl gArZ (fun cA => by first | rfl | exact vp_cell_i .. | simp [vp_cell, defaultValue]) (by simp [componentBytes]; omega) rfl trivial
    | long => cases hg; exact go .long rfl gArJ (fun cA => by first | rfl | exact vp_cell_i .. | simp [vp_cell, defaultValue]) (by simp [componentBytes]; omega) rfl trivial
    | _ => cases hg
  | new idx =>
    obtain rfl : len = 3 := by simpa [gLen] using hlen
    rcases hs with ⟨ci, C0, T, N, fs, h1, h2, h3, h4, ⟨h5, h5b⟩, h6, h7, k⟩ | ⟨E, h1, h2, h3, h4, h5, h6⟩
    · obtain ⟨f1, ⟨ty0, f2⟩, f3⟩ := gCl_facts ci C0 T N h1
      refine va_new (Ts := gGood) (fs := fs) hx hb hts (fun w hw => gGood_in (f1 w hw).1 (f1 w hw).2) ty0 f2 hown (gw _ h2 rfl) (gw _ h3 rfl) (gw _ h4 rfl) hK hI.2.1 hI.2.2 hS hA h1 (fun j hj => ?_) (by omega) (by omega) hd (fun q H1 hP hD hS1 => ?_)
      · obtain ⟨ty, e1, e2⟩ := h5b j hj
        rw [f2 j hj] at e1
        rw [Option.some.inj e1]
        exact e2
      · obtain ⟨hn0, hI1⟩ := hI.new (o := .inr (ci, fs)) hP hD
        exact k q hn0 H1 locs (cells + 1) (slots + N) ls (L ++ [q]) hI1 hS1 (by omega) (by omega) hL
    · exact hnew E pc idx ls st h L H locs cells slots h1 hd h2 h5 h6 hI hS (by omega) (by omega) hL.1
  | invokespecial idx =>
    obtain rfl : len = 3 := by simpa [gLen] using hlen
    rcases hs with ⟨a, r, rfl, h1, h2, h3, k⟩ | ⟨z, n, as, a, r, mc, ms, hl, rfl, hn, hr, hmc, hms, hq⟩
    · refine W.objInit hx hb hown (gw _ h1 rfl) (gw _ gObjI rfl) (gw _ gObjC rfl) rfl (by rw [hml]; exact hL.1) rfl hd (by omega) ?_ ?_
      · have := hR.2
        have h3' : (r.map fun v => v.category).sum ≤ 8 := h3
        have hm0 : 2 * (F0 m pc ls (.ref a :: r)).monitorRoom + (r.map fun v => v.category).sum ≤ 8 := lv_room h3'
        omega
      · exact k H locs cells slots ls L hI hS hc hbs hL
    · exact gx_In C (hcall z _ h mc ms _ _ (Or.inl hl.1) hq) hl hI hS hn hr hL.1 ⟨by omega, by omega⟩ hd (kxx pc lv r mc ms hmc hms hL) (fun v h' L1 H1 locs1 hp hI1 hS1 => hp H1 locs1 _ _ ls L1 hI1 hS1 (by omega) (by omega) hL)
  | invokevirtual idx =>
    obtain rfl : len = 3 := by simpa [gLen] using hlen
    obtain ⟨z, n, ci, as, a, r, fs, mc, ms, hl, rfl, hn, ha, hr, hmc, hms, hq⟩ := hs
    exact gx_V C (hcall z _ h mc ms _ _ (Or.inl hl.1) hq) hl hI hS hn ha hr hL.1 ⟨by omega, by omega⟩ hd (kxx pc lv r mc ms hmc hms hL) (fun v h' L1 H1 locs1 hp hI1 hS1 => hp H1 locs1 _ _ ls L1 hI1 hS1 (by omega) (by omega) hL)
  | invokestatic idx =>
    obtain rfl : len = 3 := by simpa [gLen] using hlen
    obtain ⟨z, n, as, r, mc, ms, hl, rfl, hn, hr, hmc, hms, hq⟩ := hs
    rcases hl with hl | hl
    · exact gx_St C (hcall z _ h mc ms _ _ (Or.inl hl.1) hq) hl hI hS hn hr hL.1 ⟨by omega, by omega⟩ hd (kxx pc lv r mc ms hmc hms hL) (fun v h' L1 H1 locs1 hp hI1 hS1 => hp H1 locs1 _ _ ls L1 hI1 hS1 (by omega) (by omega) hL)
    · exact gx_Sw C (hcall z _ h mc ms _ _ (Or.inr hl.1) hq) hl hl.1.2.2.2.2.2.1 hI hS hn hr hL.1 ⟨by omega, by omega⟩ hd (kxx pc lv r mc ms hmc hms hL) (fun v h' L1 H1 locs1 hp hI1 hS1 => hp H1 locs1 _ _ ls L1 hI1 hS1 (by omega) (by omega) hL)
  | ireturn =>
    obtain rfl : len = 1 := by simpa [gLen] using hlen
    obtain ⟨x, ty, rfl, h1, h2, h3⟩ := hs
    exact W.widen (by omega) (by omega) (hret .ireturn (some (.int x)) pc ls h L H locs (Or.inl ⟨rfl, x, ty, rfl, h1, h2⟩) hd h3 hI hS)
  | lreturn =>
    obtain rfl : len = 1 := by simpa [gLen] using hlen
    obtain ⟨x, rfl, h1, h3⟩ := hs
    exact W.widen (by omega) (by omega) (hret .lreturn (some (.long x)) pc ls h L H locs (Or.inr (Or.inl ⟨rfl, x, rfl, h1⟩)) hd h3 hI hS)
  | dreturn =>
    obtain rfl : len = 1 := by simpa [gLen] using hlen
    obtain ⟨x, rfl, h1, h3⟩ := hs
    exact W.widen (by omega) (by omega) (hret .dreturn (some (.double x)) pc ls h L H locs (Or.inr (Or.inr (Or.inl ⟨rfl, x, rfl, h1⟩))) hd h3 hI hS)
  | return_ =>
    obtain rfl : len = 1 := by simpa [gLen] using hlen
    obtain ⟨rfl, h1, h3⟩ := hs
    exact W.widen (by omega) (by omega) (hret .return_ none pc ls h L H locs (Or.inr (Or.inr (Or.inr ⟨rfl, rfl, h1⟩))) hd h3 hI hS)
  | _ => exact hs.elim
end GXS
end
section
/-! what is safe is met by the machine -/
theorem gSl_len (vs : List Value) : (gSl vs).length = (lg_sl vs).length := by
  induction vs with
  | nil => rfl
  | cons v vs ih => cases v <;> simp [gSl, lg_sl, Value.category] at ih ⊢ <;> exact ih
theorem gNames_fit : ∀ n ∈ gNames, Bundle.fit n = true := by decide +kernel
section GXM
variable {p : Program} {l : Launch} {e : Env} {R : Room} {s : State} {m : MethodId} {args : Array Value} {below : List Frame} {meth : Method} {c : Code} {A : Nat → Prop} {D : va_G} {dT : Nat → ClassId} {y : gM} {d : Nat} {Post : Option Value → gH → Prop} {X : String → gH → Prop}
theorem gx_hret {free : Addr → Prop} (hx : p.tables.exec = Jvm.exec) (hb : c.code = y.2.1) (hr : meth.sig.returnType = y.2.2.2.1) (hlocks : meth.locks = false) (hfree : ∀ q, A q → free q) {mc ms : Nat} :
    ∀ (i : Instr) (v : Option Value) (pc : Nat) (ls : Array Slot) (h : gH) (L : List Nat) (H : Heap) (locs : List Loc), gRet y i v → decode y.2.1 pc = .ok (i, 1) → Post v h → gI D dT A L h H → va_S A s.heap H locs → W p l e R s m args below meth c H locs mc ms (vx_MQ below (gQc D dT A Post) (gXC D dT A X) args s mc ms free) (F0 m pc ls v.toList) := by
  intro i v pc ls h L H locs hg hd hp hI hS
  refine vx_ret ?_
  have hq : ∀ t : State, t.heap = H → s.WarmedH t.vm → gQc D dT A Post args s (.returned v) t := fun t ht _ => ⟨v, h, L, rfl, hp, by rw [ht]; exact hI, hS.F ht⟩
  have hf : ∀ q ∈ locs, free q.base := fun q hm => hfree _ (hS.2.2 q hm)
  rcases hg with ⟨rfl, x, ty, rfl, h1, h2⟩ | ⟨rfl, x, rfl, h1⟩ | ⟨rfl, x, rfl, h1⟩ | ⟨rfl, rfl, h1⟩
  · exact W.zret hx hb (hr.trans h1) h2 hq hf hd hlocks
  · exact W.lret hx hb (hr.trans h1) hq hf hd hlocks
  · exact W.dret hx hb (hr.trans h1) hq hf hd hlocks
  · exact W.vret hx hb (hr.trans h1) hq hf hd hlocks
theorem gx_hthrow {free : Addr → Prop} (C : gCtx p l R s m args meth c y d D dT A) (hlocks : meth.locks = false) (hfree : ∀ q, A q → free q) {mc ms : Nat} :
    ∀ (E : String) (ce : Cell) (q9 : Addr) (pc : Nat) (ls : Array Slot) (rest : List Value) (h : gH) (L : List Nat) (H : Heap) (locs : List Loc), gHd y pc E = none → E ∈ gExc → X E h → gI D dT A L h H → va_S A s.heap H locs → H[q9]? = some ce → ce.vm = .none → s.vm.findClass E = some ce.cls → vx_W p l e R s m args below meth c H locs mc ms (vx_MQ below (gQc D dT A Post) (gXC D dT A X) args s mc ms free) (F0 m pc ls rest) q9 := by
  intro E ce q9 pc ls rest h L H locs hg hEx hX hI hS hce hcv hcl
  obtain ⟨hx, hb, hml, hown, hts, hK, hA, hE, hR, hin, htab, hhd⟩ := id C
  refine vx_outP (own := y.1.cls) hown hlocks ?_ hce hcv hcl (fun t ht _ => ⟨h, L, hEx, hX, by rw [ht]; exact hI, hS.F ht⟩) (fun q hm => hfree _ (hS.2.2 q hm)) (Nat.le_refl _) (Nat.le_refl _)
  intro z hz
  rw [htab] at hz
  unfold tableOf gHh at hz
  rw [List.map_map] at hz
  obtain ⟨z0, hz0, rfl⟩ := List.mem_map.mp hz
  unfold gHd at hg
  have hn0 := List.find?_eq_none.mp (Option.map_eq_none_iff.mp hg) z0 hz0
  obtain ⟨k1, k2, k3⟩ := hhd z0 hz0
  by_cases hcov : z0.1 ≤ pc ∧ pc < z0.2.1
  · refine Or.inr ⟨k1, z0.2.2.2.2, hts _ (gGood_in k3 rfl), hE.2.2.2.2 E hEx _ k2 ?_⟩
    intro he
    simp [hcov.1, hcov.2, he] at hn0
  · left
    simp only [Function.comp, covers]
    by_cases c5 : z0.1 ≤ pc
    · have c6 : ¬ pc < z0.2.1 := fun h => hcov ⟨c5, h⟩
      simp [c6]
    · simp [c5]
theorem gx_hnew {free : Addr → Prop} (hl : l.stackTraces = false) (C : gCtx p l R s m args meth c y d D dT A) (hlocks : meth.locks = false) (hfree : ∀ q, A q → free q) :
    ∀ (E : String) (pc ik : Nat) (ls : Array Slot) (st : List Value) (h : gH) (L : List Nat) (H : Heap) (locs : List Loc) (cells slots : Nat), gTN y pc ik E → decode y.2.1 pc = .ok (.new ik, 3) → 6 ≤ d → gCat st ≤ 100 → X E h → gI D dT A L h H → va_S A s.heap H locs → cells + 1 ≤ R.cells → slots + 6 ≤ R.slots → ls.size = y.2.2.1 → W p l e R s m args below meth c H locs cells slots (vx_MQ below (gQc D dT A Post) (gXC D dT A X) args s R.cells R.slots free) (F0 m pc ls st) := by
  intro E pc ik ls st h L H locs cells slots hT hd0 h6 hcat hX hI hS hc hs hls
  obtain ⟨hx, hb, hml, hown, hts, hK, hA, hE, hR, hin, htab, hhd⟩ := id C
  obtain ⟨is, ic, text, t1, t2, t3, t4, t5, t6, t7, t8, t9, t10, t11⟩ := hT
  obtain ⟨sa, hsa⟩ := hE.2.2.2.1 y.1.cls is text t9
  have hcat' : (st.map fun v => v.category).sum ≤ 100 := hcat
  refine vx_throwS (own := y.1.cls) (cls := E) (text := text) (names := gNames) (ik := ik) (is := is) (ic := ic) (sa := sa) (A := A) hx hb hl hown t11 gNames_fit (hts _ (gGood_in t7 rfl)) (hts _ (gGood_in t8 rfl)) hsa ?_ ?_ hE.2.1 hE.2.2.1 hS (by rw [hls, hml]) hd0 t3 t4 t5 t6 ?_ ?_ ?_ hc hs hlocks ?_ (fun z hz => hfree _ (hS.2.2 z hz)) hc hs
  · intro w hw
    obtain ⟨w1, w2, w3⟩ := t10 w hw
    rcases w2 with w2 | w2
    · exact hts _ (gGood_in w1 w2)
    · exact va_Nw.use (gNw_on w2) (hE.1 w w1 w2)
  · intro w hw
    rcases List.mem_cons.mp hw with rfl | hw
    · rfl
    · rcases List.mem_cons.mp hw with rfl | hw
      · rfl
      · exact (t10 w hw).2.2
  · intro x hx9
    rw [htab] at hx9
    unfold gHh at hx9
    rw [t2] at hx9
    cases hx9
  · show 2 + 3 < R.frames
    omega
  · show (st.map fun v => v.category).sum + (13 * (2 + 1) + 43) ≤ R.locals
    omega
  · intro t hvm hz hq
    exact ⟨h, L, t1, hX, hI.kept hq, Nat.le_trans hS.1 hz, fun q h1 h2 => (hq q (Nat.lt_of_lt_of_le h1 hS.1)).trans (hS.2.1 q h1 h2)⟩
end GXM
theorem gx_met (l : Launch) (hl : l.stackTraces = false) : ∀ (d : Nat) (z : gM) (as : List Value) (h : gH) (mc ms : Nat) (Post : Option Value → gH → Prop) (X : String → gH → Prop), (gOK z ∨ gOKW z) → gSafe d z as h mc ms Post X → gMet l d z as h mc ms Post X := by
  intro d
  induction d with
  | zero => intro z as h mc ms Post X _ hs; exact hs.elim
  | succ d ih =>
    intro z as h mc ms Post X hz hs D dT sz
    obtain ⟨hlen, hs⟩ := hs
    have hlen : (lg_sl as).length ≤ z.2.2.1 := by rw [← gSl_len]; exact hlen
    have body : ∀ (p : Program) (e : Env) (s : State) (m : MethodId) (args : Array Value) (below : List Frame) (meth : Method) (c : Code) (s₁ : State), BodyLoose p l z.1 (headSpec (gWs z) (gRm (d + 1) mc ms)) z.2.1 z.2.2.1 z.2.2.2.1 e s m args below meth c s₁ → c.maxLocals = z.2.2.1 → c.exceptionTable.toList = tableOf (gHh z) → (∀ q ∈ z.2.2.2.2, q.2.2.2.1 ≠ 0 ∧ q.2.2.2.2 ∈ gExc ∧ Jvm.Cond.classLink z.1.cls q.2.2.2.1 q.2.2.2.2 ∈ lw_tbl) → gPc D dT as h sz args s →
        W p l e (headSpec (gWs z) (gRm (d + 1) mc ms)).room s m args below meth c s.heap [] 0 0 (vx_MQ below (gQc D dT (gAd h sz) Post) (gXC D dT (gAd h sz) X) args s mc ms (gAd h sz)) (entryFrame m args z.2.2.1) := by
      intro p e s m args below meth c s₁ B hml htab hhd hv
      obtain ⟨rfl, hsz, ⟨L, hI⟩, hK, hE⟩ := hv
      have hpre := atoms_spec (ws := gWs z) B.pre
      have hts : ∀ w ∈ gGood, w.before as.toArray s = true := fun w hw => hpre w (by
        unfold gWs
        split
        · exact List.mem_cons_of_mem _ hw
        · exact List.mem_cons_of_mem _ hw)
      have hown : s.vm.findClass z.1.cls = some m.cls := findClass_of_methodNamed B.named
      have hnm : meth.name = z.1.name := (name_of_methodNamed B.named B.method).1
      have hI2 : gI D dT (gAd h sz) L h s.heap := ⟨hI.1, hI.2.1, hI.2.2.1, fun k q hk => by
        left
        have : q.1 ∈ L := by
          unfold va_pl at hk
          rw [List.getElem?_map] at hk
          cases hx : L[k]? with
          | none => rw [hx] at hk; cases hk
          | some x => rw [hx] at hk; cases hk; exact List.mem_of_getElem? hx
        exact (hI.1 q.1).mp this⟩
      have C : gCtx p l (gRm (d + 1) mc ms) s m as.toArray meth c z (d + 1) D dT (gAd h sz) := ⟨B.exec, B.bytes, hml, hown, hts, hK, fun q hq => Or.inr (by rw [← hsz]; exact hq), hE, ⟨Nat.le_refl _, Nat.le_refl _⟩, fun h1 => hnm.trans h1, htab, hhd⟩
      rw [lg_entry_eq]
      have key := gx_step (e := e) (below := below) (Q := vx_MQ below (gQc D dT (gAd h sz) Post) (gXC D dT (gAd h sz) X) as.toArray s mc ms (gAd h sz)) (Post := Post) (X := X) (ro := fun _ => none) C ih (fun a n f hh => by cases hh) (gx_hret B.exec B.bytes B.returns B.notSynchronized (fun q hq => hq)) (gx_hthrow C B.notSynchronized (fun q hq => hq)) (gx_hnew hl C B.notSynchronized (fun q hq => hq))
      exact hs _ key s.heap [] 0 0 _ L hI2 va_S.rf (by show 0 + mc ≤ mc; omega) (by show 0 + ms ≤ ms; omega) (gEntry_has hlen)
    rcases hz with hz | hz
    · refine vx_ofW hz.1 (gWs_ok hz) (fun p e s m args below meth c s₁ B hml ht hv => body p e s m args below meth c s₁ B hml ?_ (fun q hq => by rw [hz.2.2.2.2.2] at hq; cases hq) hv)
      unfold gHh
      rw [hz.2.2.2.2.2]
      exact List.eq_nil_iff_forall_not_mem.mpr fun x hx => ht x hx
    · have hw := gWsW_ok hz.2.2.2.2.2.1
      refine vx_ofWH hz.1 hw (fun p e s m args below meth c s₁ B hml hv => body p e s m args below meth c s₁ B hml ?_ hz.2.2.2.2.2.2 hv)
      exact vx_table (x := z.1) B (atoms_spec (ws := gWs z) B.pre _ (by rw [hw]; exact List.mem_cons_self))
end
