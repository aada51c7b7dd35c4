-- A MACHINE OF CELLS BY NUMBER over the kit's worlds: the layout is fixed (mmLay), only whole numbers change. MH: what stands in the cell k at place i. MV: a whole number, or a cell's number.
abbrev MH : Type := Nat → Nat → Int32
abbrev MV : Type := Int32 ⊕ Nat
abbrev MMeth : Type := MethodName × ByteArray × Nat × Option FieldType
def mmUp (h : MH) (k : Nat) (g : Nat → Int32) : MH := fun j => if j = k then g else h j
abbrev mmSet (h : MH) (k i : Nat) (v : Int32) : MH := mmUp h k (upd (h k) i v)
theorem mmUp_same (h : MH) (k : Nat) (g : Nat → Int32) : mmUp h k g k = g := if_pos rfl
theorem mmUp_ne (h : MH) {j k : Nat} (g : Nat → Int32) (hj : j ≠ k) : mmUp h k g j = h j := if_neg hj
def mmFv (ρ : Nat → Nat) (x : Int32) : Option Nat → Value
  | none => .int x
  | some j => .ref (ρ j)
def mmV (ρ : Nat → Nat) : MV → Value
  | .inl x => .int x
  | .inr j => .ref (ρ j)
theorem mmV_cat (ρ : Nat → Nat) (v : MV) : (mmV ρ v).category = 1 := by cases v <;> rfl
def mmCell (ρ : Nat → Nat) (ca : Nat → ClassId) (h : Nat → Int32) : MLay → va_E
  | .inl (ci, fk) => .inr (ci, fk.mapIdx (fun f o => mmFv ρ (h f) o))
  | .inr (ti, n, none) => .inl (ca ti, n, .inl h)
  | .inr (ti, n, some rs) => .inl (ca ti, n, .inr (.inr (.inr (.inr (fun i => (rs[i]?).map ρ)))))
def mmWorld (ρ : Nat → Nat) (ca : Nat → ClassId) (h : MH) : va_W := mmLay.mapIdx (fun k e => (ρ k, mmCell ρ ca (h k) e))
def mmTys (ca : Nat → ClassId) : List (ClassId × FieldType) := [(ca 0, .int), (ca 1, .char), (ca 2, .boolean), (ca 3, .object RX4)]
theorem mmWorld_get {ρ : Nat → Nat} {ca : Nat → ClassId} {h : MH} {k : Nat} {e : MLay} (he : mmLay[k]? = some e) : (mmWorld ρ ca h)[k]? = some (ρ k, mmCell ρ ca (h k) e) := by
  simp [mmWorld, List.getElem?_mapIdx, he]
theorem mmWorld_at {ρ : Nat → Nat} {ca : Nat → ClassId} {h : MH} {k : Nat} {q : Nat × va_E} (hq : (mmWorld ρ ca h)[k]? = some q) : ∃ e, mmLay[k]? = some e ∧ q = (ρ k, mmCell ρ ca (h k) e) := by
  simp only [mmWorld, List.getElem?_mapIdx] at hq
  cases he : mmLay[k]? with
  | none => rw [he] at hq; cases hq
  | some e => rw [he] at hq; exact ⟨e, rfl, (Option.some.inj hq).symm⟩
theorem mmWorld_set {ρ : Nat → Nat} {ca : Nat → ClassId} {h : MH} {k : Nat} {e : MLay} {g : Nat → Int32} {x : va_E} (he : mmLay[k]? = some e) (hx : mmCell ρ ca g e = x) : (mmWorld ρ ca h).set k (ρ k, x) = mmWorld ρ ca (mmUp h k g) := by
  subst hx
  apply List.ext_getElem?
  intro j
  rw [List.getElem?_set]
  by_cases hj : k = j
  · subst hj
    have hlt : k < (mmWorld ρ ca h).length := (List.getElem?_eq_some_iff.mp (mmWorld_get (ρ := ρ) (ca := ca) (h := h) he)).1
    rw [if_pos rfl, if_pos hlt, mmWorld_get he, mmUp_same]
  · rw [if_neg hj]
    simp only [mmWorld, List.getElem?_mapIdx]
    cases hjj : mmLay[j]? with
    | none => rfl
    | some ej => simp [mmUp_ne h g (fun q => hj q.symm)]
theorem mmWorld_D {ρ : Nat → Nat} {ca : Nat → ClassId} {h h' : MH} {A : Nat → Prop} (hD : va_D A (mmWorld ρ ca h)) : va_D A (mmWorld ρ ca h') := by
  refine ⟨fun i j p q hi hj hpq => ?_, fun k q hk => ?_⟩
  · obtain ⟨ei, hei, rfl⟩ := mmWorld_at hi
    obtain ⟨ej, hej, rfl⟩ := mmWorld_at hj
    exact hD.1 i j (ρ i, mmCell ρ ca (h i) ei) (ρ j, mmCell ρ ca (h j) ej) (mmWorld_get hei) (mmWorld_get hej) hpq
  · obtain ⟨ek, hek, rfl⟩ := mmWorld_at hk
    exact hD.2 k (ρ k, mmCell ρ ca (h k) ek) (mmWorld_get hek)
theorem mmWorld_A {ρ : Nat → Nat} {ca : Nat → ClassId} {h h' : MH} {sz : Nat} {q : Nat} (hq : va_A (mmWorld ρ ca h) sz q) : va_A (mmWorld ρ ca h') sz q := by
  rcases hq with ⟨k, e, hk⟩ | hq
  · obtain ⟨ek, hek, he⟩ := mmWorld_at hk
    have h1 := mmWorld_get (ρ := ρ) (ca := ca) (h := h') hek
    have h2 : q = ρ k := congrArg Prod.fst he
    rw [h2]
    exact Or.inl ⟨k, _, h1⟩
  · exact Or.inr hq
-- locals
def mmLv (ρ : Nat → Nat) (ls : List (Option MV)) : List (Nat × Value) := (List.range ls.length).filterMap (fun i => (ls[i]?.join).map (fun v => (i, mmV ρ v)))
theorem mmLv_mem {ρ : Nat → Nat} {ls : List (Option MV)} {q : Nat × Value} : q ∈ mmLv ρ ls ↔ ∃ v, ls[q.1]? = some (some v) ∧ q.2 = mmV ρ v := by
  unfold mmLv
  rw [List.mem_filterMap]
  constructor
  · rintro ⟨i, -, hi⟩
    cases hl : ls[i]? with
    | none => rw [hl] at hi; cases hi
    | some o =>
      cases o with
      | none => rw [hl] at hi; cases hi
      | some v =>
        rw [hl] at hi
        obtain rfl := Option.some.inj hi
        exact ⟨v, hl, rfl⟩
  · rintro ⟨v, h1, h2⟩
    refine ⟨q.1, ?_, ?_⟩
    · rw [List.mem_range]
      exact (List.getElem?_eq_some_iff.mp h1).1
    · rw [h1]
      show some (q.1, mmV ρ v) = some q
      rw [← h2]
theorem mmL_get {ρ : Nat → Nat} {ls : List (Option MV)} {la : Array Slot} {nL i : Nat} {v : MV} (hl : lv_has la nL (mmLv ρ ls)) (hv : ls[i]? = some (some v)) : la[i]? = some (.val (mmV ρ v)) := hl.2.2 (i, mmV ρ v) (mmLv_mem.mpr ⟨v, hv, rfl⟩)
theorem mmL_set {ρ : Nat → Nat} {ls : List (Option MV)} {la : Array Slot} {nL i : Nat} {v : MV} (hl : lv_has la nL ((i, mmV ρ v) :: (mmLv ρ ls).filter (fun q => !(q.1 == i) && !(q.1 + 1 == i && q.2.category == 2)))) : lv_has la nL (mmLv ρ (ls.set i (some v))) := by
  refine ⟨hl.1, hl.2.1, fun q hq => ?_⟩
  obtain ⟨w, h1, h2⟩ := mmLv_mem.mp hq
  rw [List.getElem?_set] at h1
  by_cases hi : i = q.1
  · rw [if_pos hi] at h1
    split at h1
    · have hw : v = w := Option.some.inj (Option.some.inj h1)
      subst hw
      have h3 := hl.2.2 (i, mmV ρ v) List.mem_cons_self
      rw [h2, ← hi]
      exact h3
    · cases h1
  · rw [if_neg hi] at h1
    refine hl.2.2 q (List.mem_cons_of_mem _ (List.mem_filter.mpr ⟨mmLv_mem.mpr ⟨w, h1, h2⟩, ?_⟩))
    have h3 : q.2.category = 1 := by rw [h2]; exact mmV_cat ρ w
    simp [h3]
    exact fun h => hi h.symm
theorem mmL_entry (ρ : Nat → Nat) (vs : List MV) : ∀ (k : Nat) (i : Nat) (v : MV), vs[i]? = some v → (k + i, mmV ρ v) ∈ lv_args k (vs.map (mmV ρ)) := by
  induction vs with
  | nil => intro k i v h; simp at h
  | cons a t ih =>
    intro k i v h
    show (k + i, mmV ρ v) ∈ (k, mmV ρ a) :: lv_args (if (mmV ρ a).category = 2 then k + 2 else k + 1) (t.map (mmV ρ))
    rw [mmV_cat, if_neg (by decide)]
    cases i with
    | zero =>
      have h1 : a = v := Option.some.inj h
      subst h1
      exact List.mem_cons_self
    | succ j =>
      have h1 := ih (k + 1) j v (by simpa using h)
      rw [show k + (j + 1) = k + 1 + j by omega]
      exact List.mem_cons_of_mem _ h1
theorem mmL_sl (ρ : Nat → Nat) (vs : List MV) : (lg_sl (vs.map (mmV ρ))).length = vs.length := by
  induction vs with
  | nil => rfl
  | cons a t ih =>
    simp only [lg_sl, List.map_cons, List.flatMap_cons, mmV_cat] at ih ⊢
    simp only [List.length_append, ih]
    simp; omega
def mmStart (nL : Nat) (vs : List MV) : List (Option MV) := vs.map some ++ List.replicate (nL - vs.length) none
theorem mmL_start {ρ : Nat → Nat} {vs : List MV} {la : Array Slot} {nL : Nat} (hl : lv_has la nL (lv_args 0 (vs.map (mmV ρ)))) : lv_has la nL (mmLv ρ (mmStart nL vs)) := by
  refine ⟨hl.1, hl.2.1, fun q hq => ?_⟩
  obtain ⟨w, h1, h2⟩ := mmLv_mem.mp hq
  have h3 : vs[q.1]? = some w := by
    unfold mmStart at h1
    rw [List.getElem?_append] at h1
    split at h1
    · rw [List.getElem?_map] at h1
      cases hv : vs[q.1]? with
      | none => rw [hv] at h1; cases h1
      | some y => rw [hv] at h1; exact Option.some.inj h1
    · rw [List.getElem?_replicate] at h1
      split at h1
      · cases h1
      · cases h1
  have h4 := mmL_entry ρ vs 0 q.1 w h3
  rw [Nat.zero_add, ← h2] at h4
  exact hl.2.2 q h4
