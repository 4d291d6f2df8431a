/-! locals -/
theorem gget_some {lv : gL} {i : Nat} {v : Value} : gget lv i = some v ↔ lv[i]? = some (some v) := by
  unfold gget
  constructor
  · intro h
    split at h
    · next w hw => rw [hw, Option.some.inj h]
    · cases h
  · intro h
    rw [h]
theorem gget_set {lv : gL} {i j : Nat} {o : Option Value} {w : Value} (h : gget (lv.set i o) j = some w) : (j = i ∧ o = some w) ∨ (j ≠ i ∧ gget lv j = some w) := by
  rw [gget_some] at h
  by_cases e : j = i
  · subst e
    rw [List.getElem?_set] at h
    simp at h
    exact Or.inl ⟨rfl, h.2⟩
  · rw [List.getElem?_set_ne (Ne.symm e)] at h
    exact Or.inr ⟨e, gget_some.mpr h⟩
theorem gsetB_spec {lv l2 : gL} {k j : Nat} {w : Value} (h : gget (gsetB lv k l2) j = some w) : gget l2 j = some w ∧ (j = k → ∀ v, gget lv k = some v → v.category ≠ 2) := by
  unfold gsetB at h
  split at h
  · next x hx =>
    rcases gget_set h with ⟨-, h1⟩ | ⟨h1, h2⟩
    · cases h1
    · exact ⟨h2, fun e => absurd e h1⟩
  · next x hx =>
    rcases gget_set h with ⟨-, h1⟩ | ⟨h1, h2⟩
    · cases h1
    · exact ⟨h2, fun e => absurd e h1⟩
  · next n1 n2 =>
    refine ⟨h, fun _ v hv hc => ?_⟩
    cases v with
    | long x => exact n1 x hv
    | double x => exact n2 x hv
    | _ => simp [Value.category] at hc
theorem gset_spec {lv : gL} {i j : Nat} {v w : Value} (h : gget (gset lv i v) j = some w) : (j = i ∧ w = v) ∨ (j ≠ i ∧ gget lv j = some w ∧ (j + 1 = i → w.category ≠ 2)) := by
  cases i with
  | zero =>
    rcases gget_set h with ⟨h1, h2⟩ | ⟨h1, h2⟩
    · exact Or.inl ⟨h1, (Option.some.inj h2).symm⟩
    · exact Or.inr ⟨h1, h2, fun e => by omega⟩
  | succ k =>
    obtain ⟨h0, hc⟩ := gsetB_spec h
    rcases gget_set h0 with ⟨h1, h2⟩ | ⟨h1, h2⟩
    · exact Or.inl ⟨h1, (Option.some.inj h2).symm⟩
    · refine Or.inr ⟨h1, h2, fun e => ?_⟩
      have e2 : j = k := by omega
      exact hc e2 w (e2 ▸ h2)
theorem gset2_spec {lv : gL} {i j : Nat} {v w : Value} (h : gget (gset2 lv i v) j = some w) : (j = i ∧ w = v) ∨ (j ≠ i ∧ j ≠ i + 1 ∧ gget lv j = some w ∧ (j + 1 = i → w.category ≠ 2)) := by
  cases i with
  | zero =>
    rcases gget_set h with ⟨-, h2⟩ | ⟨h1, h2⟩
    · cases h2
    · rcases gget_set h2 with ⟨h3, h4⟩ | ⟨h3, h4⟩
      · exact Or.inl ⟨h3, (Option.some.inj h4).symm⟩
      · exact Or.inr ⟨h3, h1, h4, fun e => by omega⟩
  | succ k =>
    obtain ⟨h0, hc⟩ := gsetB_spec h
    rcases gget_set h0 with ⟨-, h2⟩ | ⟨h1, h2⟩
    · cases h2
    · rcases gget_set h2 with ⟨h3, h4⟩ | ⟨h3, h4⟩
      · exact Or.inl ⟨h3, (Option.some.inj h4).symm⟩
      · refine Or.inr ⟨h3, h1, h4, fun e => ?_⟩
        have e2 : j = k := by omega
        exact hc e2 w (e2 ▸ h4)
theorem gsetB_len (lv l2 : gL) (j : Nat) : (gsetB lv j l2).length = l2.length := by
  unfold gsetB
  split <;> simp
theorem gset_len (lv : gL) (i : Nat) (v : Value) : (gset lv i v).length = lv.length := by
  cases i with
  | zero => simp [gset]
  | succ k => rw [gset, gsetB_len]; simp
theorem gset2_len (lv : gL) (i : Nat) (v : Value) : (gset2 lv i v).length = lv.length := by
  cases i with
  | zero => simp [gset2]
  | succ k => rw [gset2, gsetB_len]; simp
def gA (lv : gL) : List (Nat × Value) := (List.range lv.length).filterMap (fun i => (gget lv i).map (fun v => (i, v)))
theorem gget_lt {lv : gL} {i : Nat} {v : Value} (h : gget lv i = some v) : i < lv.length := (List.getElem?_eq_some_iff.mp (gget_some.mp h)).1
theorem gA_mem {lv : gL} {q : Nat × Value} : q ∈ gA lv ↔ gget lv q.1 = some q.2 := by
  unfold gA
  rw [List.mem_filterMap]
  constructor
  · rintro ⟨i, -, h⟩
    cases hg : gget lv i with
    | none => rw [hg] at h; cases h
    | some v => rw [hg] at h; cases h; exact hg
  · intro h
    refine ⟨q.1, List.mem_range.mpr (gget_lt h), ?_⟩
    rw [h]
    rfl
def gLH (ls : Array Slot) (nL : Nat) (lv : gL) : Prop := ls.size = nL ∧ lv.length = nL ∧ lv_wf ls ∧ ∀ (i : Nat) (v : Value), gget lv i = some v → ls[i]? = some (.val v)
theorem gLH.has {ls : Array Slot} {nL : Nat} {lv : gL} (h : gLH ls nL lv) : lv_has ls nL (gA lv) := ⟨h.1, h.2.2.1, fun q hq => h.2.2.2 q.1 q.2 (gA_mem.mp hq)⟩
theorem gLH.set {ls ls' : Array Slot} {nL i : Nat} {lv : gL} {v : Value} (h : gLH ls nL lv) (h' : lv_has ls' nL ((i, v) :: (gA lv).filter (fun q => !(q.1 == i) && !(q.1 + 1 == i && q.2.category == 2)))) : gLH ls' nL (gset lv i v) := by
  refine ⟨h'.1, by rw [gset_len]; exact h.2.1, h'.2.1, fun j w hg => ?_⟩
  rcases gset_spec hg with ⟨rfl, rfl⟩ | ⟨h1, h2, h3⟩
  · exact h'.2.2 (j, w) List.mem_cons_self
  · refine h'.2.2 (j, w) (List.mem_cons_of_mem _ (List.mem_filter.mpr ⟨gA_mem.mpr h2, ?_⟩))
    by_cases e : j + 1 = i
    · have := h3 e
      simp [h1, e, this]
    · simp [h1, e]
theorem gLH.set2 {ls ls' : Array Slot} {nL i : Nat} {lv : gL} {v : Value} (h : gLH ls nL lv) (h' : lv_has ls' nL ((i, v) :: (gA lv).filter (fun q => !(q.1 == i) && (!(q.1 == i + 1) && !(q.1 + 1 == i && q.2.category == 2))))) : gLH ls' nL (gset2 lv i v) := by
  refine ⟨h'.1, by rw [gset2_len]; exact h.2.1, h'.2.1, fun j w hg => ?_⟩
  rcases gset2_spec hg with ⟨rfl, rfl⟩ | ⟨h1, h1b, h2, h3⟩
  · exact h'.2.2 (j, w) List.mem_cons_self
  · refine h'.2.2 (j, w) (List.mem_cons_of_mem _ (List.mem_filter.mpr ⟨gA_mem.mpr h2, ?_⟩))
    by_cases e : j + 1 = i
    · have := h3 e
      simp [h1, h1b, e, this]
    · simp [h1, h1b, e]
theorem gEntry_has {vs : List Value} {n : Nat} (h : (lg_sl vs).length ≤ n) : gLH ((lg_sl vs ++ List.replicate (n - (lg_sl vs).length) Slot.unset).toArray) n (gEntry n vs) := by
  have hlen : ∀ vs : List Value, (gSl vs).length = (lg_sl vs).length := by
    intro vs
    induction vs with
    | nil => rfl
    | cons v vs ih => cases v <;> simp [gSl, lg_sl, Value.category] at ih ⊢ <;> exact ih
  have hl := lv_entry vs h
  refine ⟨hl.1, ?_, hl.2.1, ?_⟩
  · unfold gEntry
    rw [List.length_append, List.length_replicate, hlen]
    omega
  · intro i v hg
    have key : ∀ (vs : List Value) (b i : Nat) (v : Value), (gSl vs)[i]? = some (some v) → (b + i, v) ∈ lv_args b vs := by
      intro vs
      induction vs with
      | nil => intro b i v h; simp [gSl] at h
      | cons w vs ih =>
        intro b i v h
        have two : ∀ {x : Value}, x.category = 2 → gSl (x :: vs) = some x :: none :: gSl vs → (gSl (x :: vs))[i]? = some (some v) → (b + i, v) ∈ lv_args b (x :: vs) := by
          intro x hx hs h
          rw [hs] at h
          match i, h with
          | 0, h => simp at h; subst h; simp [lv_args]
          | 1, h => simp at h
          | i + 2, h =>
            simp at h
            have := ih (b + 2) i v h
            simp only [lv_args, hx, if_true]
            refine List.mem_cons_of_mem _ ?_
            rw [show b + (i + 2) = b + 2 + i by omega]
            exact this
        have one : ∀ {x : Value}, x.category ≠ 2 → gSl (x :: vs) = some x :: gSl vs → (gSl (x :: vs))[i]? = some (some v) → (b + i, v) ∈ lv_args b (x :: vs) := by
          intro x hx hs h
          rw [hs] at h
          match i, h with
          | 0, h => simp at h; subst h; simp [lv_args]
          | i + 1, h =>
            simp at h
            have := ih (b + 1) i v h
            simp only [lv_args, hx, if_false]
            refine List.mem_cons_of_mem _ ?_
            rw [show b + (i + 1) = b + 1 + i by omega]
            exact this
        cases w with
        | long x => exact two rfl rfl h
        | double x => exact two rfl rfl h
        | _ => exact one (by simp [Value.category]) rfl h
    rw [gget_some] at hg
    unfold gEntry at hg
    by_cases hi : i < (gSl vs).length
    · rw [List.getElem?_append_left hi] at hg
      have := key vs 0 i v hg
      rw [Nat.zero_add] at this
      exact hl.2.2 (i, v) this
    · rw [List.getElem?_append_right (by omega)] at hg
      have := List.eq_of_mem_replicate (List.mem_of_getElem? hg)
      cases this
/-! the heap of known objects, and the machine's -/
def gTys (dT : Nat → ClassId) : List (ClassId × FieldType) := [(dT 0, .int), (dT 1, .boolean), (dT 2, .array .int), (dT 3, .array .boolean), (dT 4, .array (.array .boolean)), (dT 5, .object "GhostCandlesLaw$Ghost")]
def gE (dT : Nat → ClassId) : gO → va_E
  | .inl x => .inl (dT x.1, x.2)
  | .inr o => .inr o
def gF (dT : Nat → ClassId) (h : gH) : Nat → va_E := fun a => match h a with
  | some o => gE dT o
  | none => .inr (0, [])
/-- an array that no one writes: the script -/
def gRo : gO → Bool
  | .inl x => x.1 == 7
  | .inr _ => false
theorem gRo_lt {t : Nat} {x : vp_A} (h : t < 7) : gRo (.inl (t, x)) = false := by
  show (t == 7) = false
  rw [beq_eq_false_iff_ne]
  omega
def gKn (h : gH) (a : Nat) : Bool := match h a with
  | some o => !gRo o
  | none => false
theorem gKn_of {h : gH} {a : Nat} {o : gO} (e : h a = some o) (ho : gRo o = false) : gKn h a = true := by
  unfold gKn
  rw [e]
  simp [ho]
theorem gKn_ex {h : gH} {a : Nat} (e : gKn h a = true) : ∃ o, h a = some o ∧ gRo o = false := by
  unfold gKn at e
  split at e
  · next o ho => exact ⟨o, ho, by simpa using e⟩
  · cases e
def gRO (h : gH) : Nat → vp_A → Prop := fun a x => h a = some (.inl (7, x))
def gI (D : va_G) (dT : Nat → ClassId) (A : Nat → Prop) (RO : Nat → vp_A → Prop) (L : List Nat) (h : gH) (H : Heap) : Prop := (∀ a : Nat, a ∈ L ↔ gKn h a = true) ∧ va_P D vwCl (va_pl L (gF dT h)) H ∧ va_D A (va_pl L (gF dT h)) ∧ ∀ (a : Nat) (x : vp_A), h a = some (.inl (7, x)) → RO a x
theorem gF_some {dT : Nat → ClassId} {h : gH} {a : Nat} {o : gO} (e : h a = some o) : gF dT h a = gE dT o := by simp [gF, e]
theorem gF_gU {dT : Nat → ClassId} (h : gH) (a : Nat) (o : gO) : va_up (gF dT h) a (gE dT o) = gF dT (gU h a o) := by
  funext q
  by_cases e : q = a
  · subst e; simp [va_up, gF, gU]
  · simp [va_up, gF, gU, e]
theorem gRo_U {h : gH} {a : Nat} {o : gO} (ho : gRo o = false) {RO : Nat → vp_A → Prop} (k : ∀ (a : Nat) (x : vp_A), h a = some (.inl (7, x)) → RO a x) : ∀ (q : Nat) (x : vp_A), gU h a o q = some (.inl (7, x)) → RO q x := by
  intro q x e
  by_cases hq : q = a
  · subst hq
    rw [gU_eq] at e
    cases e
    cases ho
  · rw [gU_ne hq] at e
    exact k q x e
theorem gI.get {D : va_G} {dT : Nat → ClassId} {A : Nat → Prop} {RO : Nat → vp_A → Prop} {L : List Nat} {h : gH} {H : Heap} (I : gI D dT A RO L h H) {a : Nat} {o : gO} (e : h a = some o) (ho : gRo o = false := by rfl) : ∃ k : Nat, (va_pl L (gF dT h))[k]? = some (a, gE dT o) := by
  obtain ⟨k, hk⟩ := va_pl_get (X := []) (f := gF dT h) ((I.1 a).mpr (gKn_of e ho))
  rw [gF_some e] at hk
  exact ⟨k, hk⟩
theorem gI.set {D : va_G} {dT : Nat → ClassId} {A : Nat → Prop} {RO : Nat → vp_A → Prop} {L : List Nat} {h : gH} {H H1 : Heap} (I : gI D dT A RO L h H) {a k : Nat} {o o' : gO} (e : h a = some o) (hk : (va_pl L (gF dT h))[k]? = some (a, gE dT o)) (hP : va_P D vwCl ((va_pl L (gF dT h)).set k (a, gE dT o')) H1) (hD : va_D A ((va_pl L (gF dT h)).set k (a, gE dT o'))) (ho : gRo o = false := by rfl) (ho' : gRo o' = false := by rfl) : gI D dT A RO L (gU h a o') H1 := by
  have ha : a ∈ L := (I.1 a).mpr (gKn_of e ho)
  have hs : (va_pl L (gF dT h)).set k (a, gE dT o') = va_pl L (gF dT (gU h a o')) := by
    have := va_pl_set (X := []) (e := gE dT o') I.2.2.1 ha (by rw [gF_some e]; exact hk)
    rw [← gF_gU]
    exact this
  rw [hs] at hP hD
  refine ⟨fun q => ?_, hP, hD, gRo_U ho' I.2.2.2⟩
  by_cases hq : q = a
  · subst hq
    exact ⟨fun _ => gKn_of (gU_eq _ _ _) ho', fun _ => ha⟩
  · rw [I.1 q]
    unfold gKn
    rw [gU_ne hq]
theorem gI.new {D : va_G} {dT : Nat → ClassId} {A : Nat → Prop} {RO : Nat → vp_A → Prop} {L : List Nat} {h : gH} {H H1 : Heap} (I : gI D dT A RO L h H) {q : Nat} {o : gO} (hRO : ∀ (a : Nat) (x : vp_A), RO a x → ¬ A a) (hP : va_P D vwCl (va_pl L (gF dT h) ++ [(q, gE dT o)]) H1) (hD : va_D A (va_pl L (gF dT h) ++ [(q, gE dT o)])) (ho : gRo o = false := by rfl) : h q = none ∧ gI D dT A RO (L ++ [q]) (gU h q o) H1 := by
  have h2 : (va_pl L (gF dT h) ++ [(q, gE dT o)])[(va_pl L (gF dT h)).length]? = some (q, gE dT o) := by rw [List.getElem?_append_right (Nat.le_refl _)]; simp
  have hq : q ∉ L := fun hm => by
    obtain ⟨k, hk⟩ := va_pl_get (X := []) (f := gF dT h) hm
    have hk : (va_pl L (gF dT h))[k]? = some (q, gF dT h q) := hk
    have hl := (List.getElem?_eq_some_iff.mp hk).1
    have h1 : (va_pl L (gF dT h) ++ [(q, gE dT o)])[k]? = some (q, gF dT h q) := by rw [List.getElem?_append_left hl]; exact hk
    have := hD.1 k _ _ _ h1 h2 rfl
    omega
  have hn : h q = none := by
    cases e : h q with
    | none => rfl
    | some o9 =>
      cases ho9 : gRo o9 with
      | false => exact absurd ((I.1 q).mpr (gKn_of e ho9)) hq
      | true =>
        cases o9 with
        | inr x => cases ho9
        | inl x =>
          have e7 : x.1 = 7 := by simpa [gRo] using ho9
          have e8 : h q = some (.inl (7, x.2)) := by rw [e, ← e7]
          exact absurd (hD.2 _ _ h2) (hRO q x.2 (I.2.2.2 q x.2 e8))
  have hs : va_pl L (gF dT h) ++ [(q, gE dT o)] = va_pl (L ++ [q]) (gF dT (gU h q o)) := by rw [va_pl_push hq, gF_gU]
  rw [hs] at hP hD
  refine ⟨hn, fun x => ?_, hP, hD, gRo_U ho I.2.2.2⟩
  by_cases hx : x = q
  · subst hx
    exact ⟨fun _ => gKn_of (gU_eq _ _ _) ho, fun _ => by simp⟩
  · rw [List.mem_append, I.1 x]
    unfold gKn
    rw [gU_ne hx]
    simp [hx]
theorem gI.dom {D : va_G} {dT : Nat → ClassId} {A : Nat → Prop} {RO : Nat → vp_A → Prop} {L : List Nat} {h : gH} {H : Heap} (I : gI D dT A RO L h H) {q : Nat} (hq : gKn h q = true) : A q ∧ q < H.size := by
  obtain ⟨o, e, ho⟩ := gKn_ex hq
  obtain ⟨k, hk⟩ := I.get e ho
  exact ⟨I.2.2.1.2 k _ hk, (I.2.1 k _ hk).lt⟩
theorem gI.none {D : va_G} {dT : Nat → ClassId} {A : Nat → Prop} {RO : Nat → vp_A → Prop} {L : List Nat} {h : gH} {H : Heap} (I : gI D dT A RO L h H) {q : Nat} (hq : H.size ≤ q) (hRO : ∀ x : vp_A, ¬ RO q x) : h q = none := by
  cases e : h q with
  | none => rfl
  | some o =>
    cases ho : gRo o with
    | false => exact absurd (I.dom (gKn_of e ho)).2 (Nat.not_lt.mpr hq)
    | true =>
      cases o with
      | inr x => cases ho
      | inl x =>
        have e7 : x.1 = 7 := by simpa [gRo] using ho
        have e8 : h q = some (.inl (7, x.2)) := by rw [e, ← e7]
        exact absurd (I.2.2.2 q x.2 e8) (hRO x.2)
theorem gI.weaken {D : va_G} {dT : Nat → ClassId} {A B : Nat → Prop} {RO RO' : Nat → vp_A → Prop} {L : List Nat} {h : gH} {H : Heap} (I : gI D dT A RO L h H) (hAB : ∀ q, A q → B q) (hR : ∀ a x, RO a x → RO' a x) : gI D dT B RO' L h H := ⟨I.1, I.2.1, I.2.2.1.weaken (fun _ q _ => hAB q.1), fun a x e => hR a x (I.2.2.2 a x e)⟩
theorem gI.kept {D : va_G} {dT : Nat → ClassId} {A : Nat → Prop} {RO : Nat → vp_A → Prop} {L : List Nat} {h : gH} {H H1 : Heap} (I : gI D dT A RO L h H) (hq : ∀ q : Nat, q < H.size → H1[q]? = H[q]?) : gI D dT A RO L h H1 := ⟨I.1, I.2.1.kept (fun k q hk => hq q.1 ((I.2.1 k q hk).lt)), I.2.2⟩
