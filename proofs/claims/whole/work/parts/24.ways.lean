-- the reference's ways
def okU (r : Int → Int) : Prop := ∀ u, 0 ≤ u → u < 16 → (ofF r u 0 = 0 ∨ ofF r u 0 = 1) ∧ 0 ≤ ofF r u 2 ∧ ofF r u 2 < 63
theorem ofU_R {r : Int → Int} (hk : okB r) {u w : Int} (hu : 0 ≤ u ∧ u < 16) (hw : 0 ≤ w ∧ w < 6) : zR (ofF r u w) := by
  have h1 := ofF_R hk hu hw
  exact ⟨by omega, by omega⟩
def stepC (r : Int → Int) (x d y : Int) : Int := (if r y = 0 then 1 else 2) + zB (rivB r x d)
theorem stepC_R (r : Int → Int) (x d y : Int) : 1 ≤ stepC r x d y ∧ stepC r x d y ≤ 3 := by
  unfold stepC
  have h1 := zB_1 (rivB r x d)
  split <;> omega
theorem c_X8_entering (g : ZH) (hk : okB (g 101)) {x d y : Int} (hx : 0 ≤ x ∧ x < 63) (hd : 0 ≤ d ∧ d < 6) (hy : 0 ≤ y ∧ y < 63) : ZC 1 mX8_entering [.inr 100, .inl x, .inl d, .inl y] g (fun r g' => r = stepC (g 101) x d y ∧ g' = g) := by
  have h1 := hk.1 y (by omega) (by omega)
  refine ZC.of (by decide +kernel) (Nat.le_of_ble_eq_true rfl) ?_
  refine ZW.aload_n dX8_entering_0 rfl ?_
  refine ZW.getR dX8_entering_1 fl_X8_7 ⟨_, rfl, rfl⟩ ?_
  refine ZW.iconst dX8_entering_4 ?_
  refine ZW.iload_n dX8_entering_5 rfl ?_
  refine ZW.iadd dX8_entering_6 (ZW.top (Int.zero_add y) ?_)
  have tail : ∀ v : Int, v = (if g 101 y = 0 then 1 else 2) → ZW 1 mX8_entering 16 [some (.inr 100), some (.inl x), some (.inl d), some (.inl y)] [.inl v] g (fun r g' => r = stepC (g 101) x d y ∧ g' = g) := by
    intro v hv
    refine ZW.aload_n dX8_entering_16 rfl ?_
    refine ZW.iload_n dX8_entering_17 rfl ?_
    refine ZW.iload_n dX8_entering_18 rfl ?_
    refine ZW.callV (as := [_, _]) dX8_entering_19 cv_X8_77 ⟨_, rfl⟩ rfl (by decide) (Nat.le_of_ble_eq_true rfl) rfl (c_X8_hasRiver _ hk hx hd) (fun r1 g1 ⟨e1, e2⟩ => ?_)
    subst e1; subst e2
    refine ZW.if_eq (tgt := 29) dX8_entering_22 (by decide) (by exact zB_R _) (fun c22 => ?_) (fun c22 => ?_)
    · have e := zB_eq c22
      refine ZW.iconst dX8_entering_29 ?_
      refine ZW.iadd dX8_entering_30 ?_
      refine ZW.ireti dX8_entering_31 rfl ?_
      exact ⟨by unfold stepC; rw [hv, e]; rfl, rfl⟩
    · have e := zB_ne c22
      refine ZW.iconst dX8_entering_25 ?_
      refine ZW.goto (tgt := 30) dX8_entering_26 (by decide) ?_
      refine ZW.iadd dX8_entering_30 ?_
      refine ZW.ireti dX8_entering_31 rfl ?_
      exact ⟨by unfold stepC; rw [hv, e]; rfl, rfl⟩
  refine ZW.iald dX8_entering_7 rfl (by decide) (by omega) rfl ?_
  refine ZW.if_ne (tgt := 15) dX8_entering_8 (by decide) (by omega) (fun c8 => ?_) (fun c8 => ?_)
  · refine ZW.iconst dX8_entering_15 ?_
    exact tail 2 (by rw [if_neg c8])
  · refine ZW.iconst dX8_entering_11 ?_
    refine ZW.goto (tgt := 16) dX8_entering_12 (by decide) ?_
    exact tail 1 (by rw [if_pos c8])
def goB (r : Int → Int) (u x : Int) : Bool := decide (x = ofF r u 2) || !zoneB r x (1 - ofF r u 0)
def entB (r : Int → Int) (u y : Int) : Bool := !isOnB r y (1 - ofF r u 0)
/-- from x in the direction d a way of the unit u goes on to y -/
def edgeP (r : Int → Int) (u x d y : Int) : Prop := 0 ≤ x ∧ x < 63 ∧ 0 ≤ d ∧ d < 6 ∧ nextF x d = y ∧ y ≠ -5 ∧ goB r u x = true ∧ entB r u y = true
theorem edgeP_y {r : Int → Int} {u x d y : Int} (h : edgeP r u x d y) : 0 ≤ y ∧ y < 63 := by
  obtain ⟨_, _, _, _, h5, h6, _⟩ := h
  have := (nextF_R (x := x) (d := d)).resolve_left (by omega)
  omega
/-- a row of costs within B: by its steps, and no more than they give -/
def wayP (r : Int → Int) (u B : Int) (f : Int → Int) : Prop :=
  f (ofF r u 2) = 0 ∧ (∀ x, 0 ≤ x → x < 63 → f x = 1000 ∨ (0 ≤ f x ∧ f x ≤ B)) ∧ (∀ x d y, edgeP r u x d y → f x ≠ 1000 → f x + stepC r x d y ≤ B → f y ≤ f x + stepC r x d y) ∧ ∀ y, 0 ≤ y → y < 63 → y ≠ ofF r u 2 → f y ≠ 1000 → ∃ x d, edgeP r u x d y ∧ f x ≠ 1000 ∧ f y = f x + stepC r x d y
theorem wayP_le {r : Int → Int} {u B B' : Int} {f f' : Int → Int} (h : wayP r u B f) (h' : wayP r u B' f') (hB : B ≤ B') (hB' : B' < 1000) : ∀ (k : Nat) (x : Int), 0 ≤ x → x < 63 → f x = k → f x ≠ 1000 → f' x ≤ f x := by
  intro k
  induction k using Nat.strongRecOn with
  | ind k ih =>
    intro x h0 h1 hk hn
    by_cases hx : x = ofF r u 2
    · rw [hx, h.1, h'.1]
      exact Int.le_refl 0
    · obtain ⟨y, d, he, hy, hyx⟩ := h.2.2.2 x h0 h1 hx hn
      have hc := stepC_R r y d x
      have hr := (h.2.1 y he.1 he.2.1).resolve_left hy
      have hrx := (h.2.1 x h0 h1).resolve_left hn
      have h2 := ih (f y).toNat (by omega) y he.1 he.2.1 (by omega) hy
      have h3 := h'.2.2.1 y d x he (by omega) (by omega)
      omega
theorem wayP_eq {r : Int → Int} {u B B' : Int} {f f' : Int → Int} (h : wayP r u B f) (h' : wayP r u B' f') (hB : B ≤ B') (hB' : B' < 1000) {x : Int} (h0 : 0 ≤ x) (h1 : x < 63) : (f' x ≤ B → f x = f' x) ∧ (f x ≠ 1000 → f' x = f x) := by
  have hle : ∀ (k : Nat) (x : Int), 0 ≤ x → x < 63 → f' x = k → f' x ≤ B → f x ≤ f' x := by
    intro k
    induction k using Nat.strongRecOn with
    | ind k ih =>
      intro x h0 h1 hk hn
      by_cases hx : x = ofF r u 2
      · rw [hx, h.1, h'.1]
        exact Int.le_refl 0
      · obtain ⟨y, d, he, hy, hyx⟩ := h'.2.2.2 x h0 h1 hx (by omega)
        have hc := stepC_R r y d x
        have hr := (h'.2.1 y he.1 he.2.1).resolve_left hy
        have hrx := (h'.2.1 x h0 h1).resolve_left (by omega)
        have h2 := ih (f' y).toNat (by omega) y he.1 he.2.1 (by omega) (by omega)
        have h3 := h.2.2.1 y d x he (by omega) (by omega)
        omega
  have a1 : f' x ≤ B → f x = f' x := by
    intro hb
    have hrx := (h'.2.1 x h0 h1).resolve_left (by omega)
    have h2 := hle (f' x).toNat x h0 h1 (by omega) hb
    have h3 := wayP_le h h' hB hB' (f x).toNat x h0 h1 (by have := h.2.1 x h0 h1; omega) (by omega)
    omega
  refine ⟨a1, fun hn => ?_⟩
  have hrx := (h.2.1 x h0 h1).resolve_left hn
  have h3 := wayP_le h h' hB hB' (f x).toNat x h0 h1 (by omega) hn
  rw [a1 (by omega)]
-- the costs, as a function
def stR (r : Int → Int) (u : Int) : Nat → Int → Int → Prop
  | 0, k, y => k = 0 ∧ y = ofF r u 2
  | n + 1, k, y => ∃ x d, edgeP r u x d y ∧ stR r u n (k - stepC r x d y) x
theorem stR_nn {r : Int → Int} {u : Int} : ∀ {n : Nat} {k y : Int}, stR r u n k y → 0 ≤ k
  | 0, _, _, h => by rw [h.1]; exact Int.le_refl 0
  | n + 1, k, y, ⟨x, d, _, h⟩ => by
    have h1 := stR_nn h
    have h2 := stepC_R r x d y
    omega
noncomputable def wayF (r : Int → Int) (u x : Int) : Int := @dite Int (∃ k : Nat, k ≤ 999 ∧ ∃ n, stR r u n (k : Int) x) (Classical.propDecidable _) (fun h => ((Classical.choose (pk_least _ h) : Nat) : Int)) (fun _ => 1000)
theorem wayF_spec {r : Int → Int} {u x : Int} (h : wayF r u x ≠ 1000) : 0 ≤ wayF r u x ∧ wayF r u x ≤ 999 ∧ (∃ n, stR r u n (wayF r u x) x) := by
  unfold wayF at h ⊢
  split
  · next hk =>
    obtain ⟨h1, h2⟩ := Classical.choose_spec (pk_least _ hk)
    exact ⟨by omega, by omega, h1.2⟩
  · next hk => rw [dif_neg hk] at h; exact absurd rfl h
theorem wayF_le {r : Int → Int} {u x k : Int} {n : Nat} (h : stR r u n k x) (hk : k ≤ 999) : wayF r u x ≤ k := by
  have h0 := stR_nn h
  have hex : ∃ k : Nat, k ≤ 999 ∧ ∃ n, stR r u n (k : Int) x := ⟨k.toNat, by omega, n, by rw [Int.toNat_of_nonneg h0]; exact h⟩
  unfold wayF
  rw [dif_pos hex]
  obtain ⟨h1, h2⟩ := Classical.choose_spec (pk_least _ hex)
  apply Classical.byContradiction
  intro hlt
  exact h2 k.toNat (by omega) ⟨by omega, n, by rw [Int.toNat_of_nonneg h0]; exact h⟩
theorem wayF_P (r : Int → Int) (u : Int) (hf : 0 ≤ ofF r u 2 ∧ ofF r u 2 < 63) : wayP r u 999 (wayF r u) := by
  have h0 : wayF r u (ofF r u 2) = 0 := by
    have h1 := wayF_le (r := r) (u := u) (x := ofF r u 2) (k := 0) (n := 0) ⟨rfl, rfl⟩ (by decide)
    have h2 := wayF_spec (r := r) (u := u) (x := ofF r u 2) (by omega)
    omega
  refine ⟨h0, fun x _ _ => ?_, fun x d y he hx hb => ?_, fun y _ _ hy hn => ?_⟩
  · by_cases h : wayF r u x = 1000
    · exact Or.inl h
    · have := wayF_spec h
      exact Or.inr ⟨this.1, this.2.1⟩
  · obtain ⟨_, _, n, h2⟩ := wayF_spec hx
    refine wayF_le (n := n + 1) ⟨x, d, he, ?_⟩ hb
    rw [Int.add_sub_cancel]
    exact h2
  · obtain ⟨h1, h2, n, h3⟩ := wayF_spec hn
    cases n with
    | zero => exact absurd h3.2 hy
    | succ n =>
      obtain ⟨x, d, he, h4⟩ := h3
      have hc := stepC_R r x d y
      have h5 := wayF_le h4 (by omega)
      have h6 : wayF r u x ≠ 1000 := by omega
      obtain ⟨h7, h8, m, h9⟩ := wayF_spec h6
      have h10 := wayF_le (r := r) (u := u) (x := y) (k := wayF r u x + stepC r x d y) (n := m + 1) ⟨x, d, he, by rw [Int.add_sub_cancel]; exact h9⟩ (by omega)
      exact ⟨x, d, he, h6, by omega⟩
theorem wayP_F {r : Int → Int} {u : Int} (hf : 0 ≤ ofF r u 2 ∧ ofF r u 2 < 63) {f : Int → Int} (h : wayP r u 999 f) {x : Int} (h0 : 0 ≤ x) (h1 : x < 63) : f x = wayF r u x := by
  have h2 := wayP_eq h (wayF_P r u hf) (Int.le_refl _) (by decide) h0 h1
  rcases h.2.1 x h0 h1 with q | q
  · rcases (wayF_P r u hf).2.1 x h0 h1 with q2 | q2
    · rw [q, q2]
    · exact h2.1 q2.2
  · exact (h2.2 (by omega)).symm
-- the loop that finds the cheapest
def chP (f e : Int → Int) (v n : Int) : Prop := (v = -5 ∧ ∀ x, 0 ≤ x → x < n → e x = 0 → ¬ f x < 1000) ∨ (0 ≤ v ∧ v < n ∧ e v = 0 ∧ f v < 1000 ∧ ∀ x, 0 ≤ x → x < n → e x = 0 → f v ≤ f x)
theorem c_X8_cheapest (g : ZH) (h106 : ∀ x, 0 ≤ x → x < 63 → 0 ≤ g 106 x ∧ g 106 x ≤ 1000) (h107 : ∀ x, 0 ≤ x → x < 63 → g 107 x = 0 ∨ g 107 x = 1) : ZC 0 mX8_cheapest [.inr 100] g (fun r g' => chP (g 106) (g 107) r 63 ∧ g' = g) := by
  refine ZC.of (by decide +kernel) (Nat.le_of_ble_eq_true rfl) ?_
  have loop : ∀ (n : Nat) (x v : Int), 0 ≤ x → x + n = 63 → chP (g 106) (g 107) v x → ZW 0 mX8_cheapest 5 [some (.inr 100), some (.inl v), some (.inl x)] [] g (fun r g' => chP (g 106) (g 107) r 63 ∧ g' = g) := by
    intro n
    induction n with
    | zero =>
      intro x v hx hn hc
      have e : x = 63 := by omega
      subst e
      refine ZW.iload_n dX8_cheapest_5 rfl ?_
      refine ZW.bipush dX8_cheapest_6 rfl ?_
      refine ZW.icmp_ge (tgt := 65) dX8_cheapest_8 (by decide) (by omega) (by omega) (fun c8 => ?_) (fun c8 => ?_)
      · refine ZW.iload_n dX8_cheapest_65 rfl ?_
        refine ZW.ireti dX8_cheapest_66 rfl ?_
        exact ⟨hc, rfl⟩
      · exact absurd c8 (by omega)
    | succ n ih =>
      intro x v hx hn hc
      have a1 := h106 x hx (by omega)
      have a2 := h107 x hx (by omega)
      have hv : zR v := by rcases hc with ⟨q, _⟩ | ⟨q, q2, _⟩ <;> exact ⟨by omega, by omega⟩
      have keep : (g 107 x = 1 ∨ ¬ g 106 x < 1000 ∨ (v ≠ -5 ∧ g 106 v ≤ g 106 x)) → chP (g 106) (g 107) v (x + 1) := by
        intro hk
        rcases hc with ⟨q1, q2⟩ | ⟨q1, q2, q3, q4, q5⟩
        · refine Or.inl ⟨q1, fun y y0 y1 ye => ?_⟩
          by_cases hy : y = x
          · subst hy; omega
          · exact q2 y y0 (by omega) ye
        · refine Or.inr ⟨q1, by omega, q3, q4, fun y y0 y1 ye => ?_⟩
          by_cases hy : y = x
          · subst hy; omega
          · exact q5 y y0 (by omega) ye
      refine ZW.iload_n dX8_cheapest_5 rfl ?_
      refine ZW.bipush dX8_cheapest_6 rfl ?_
      refine ZW.icmp_ge (tgt := 65) dX8_cheapest_8 (by decide) (by omega) (by omega) (fun c8 => ?_) (fun c8 => ?_)
      · exact absurd c8 (by omega)
      · refine ZW.aload_n dX8_cheapest_11 rfl ?_
        refine ZW.getR dX8_cheapest_12 fl_X8_28 ⟨_, rfl, rfl⟩ ?_
        refine ZW.iload_n dX8_cheapest_15 rfl ?_
        refine ZW.zald dX8_cheapest_16 rfl (by decide) (by omega) rfl ?_
        refine ZW.if_ne (tgt := 57) dX8_cheapest_17 (by decide) (by omega) (fun c17 => ?_) (fun c17 => ?_)
        · refine ZW.iload_n dX8_cheapest_57 rfl ?_
          refine ZW.istore_n dX8_cheapest_58 (by decide) rfl ?_
          refine ZW.iinc dX8_cheapest_59 rfl (by decide) rfl ?_
          refine ZW.goto (tgt := 5) dX8_cheapest_62 (by decide) ?_
          exact ih (x + 1) v (by omega) (by omega) (keep (by omega))
        · refine ZW.aload_n dX8_cheapest_20 rfl ?_
          refine ZW.getR dX8_cheapest_21 fl_X8_25 ⟨_, rfl, rfl⟩ ?_
          refine ZW.iload_n dX8_cheapest_24 rfl ?_
          refine ZW.iald dX8_cheapest_25 rfl (by decide) (by omega) rfl ?_
          refine ZW.sipush dX8_cheapest_26 rfl ?_
          refine ZW.icmp_ge (tgt := 57) dX8_cheapest_29 (by decide) (by omega) (by omega) (fun c29 => ?_) (fun c29 => ?_)
          · refine ZW.iload_n dX8_cheapest_57 rfl ?_
            refine ZW.istore_n dX8_cheapest_58 (by decide) rfl ?_
            refine ZW.iinc dX8_cheapest_59 rfl (by decide) rfl ?_
            refine ZW.goto (tgt := 5) dX8_cheapest_62 (by decide) ?_
            exact ih (x + 1) v (by omega) (by omega) (keep (by omega))
          · refine ZW.iload_n dX8_cheapest_32 rfl ?_
            refine ZW.bipush dX8_cheapest_33 rfl ?_
            refine ZW.icmp_eq (tgt := 53) dX8_cheapest_35 (by decide) (by omega) (by omega) (fun c35 => ?_) (fun c35 => ?_)
            · refine ZW.iload_n dX8_cheapest_53 rfl ?_
              refine ZW.goto (tgt := 58) dX8_cheapest_54 (by decide) ?_
              refine ZW.istore_n dX8_cheapest_58 (by decide) rfl ?_
              refine ZW.iinc dX8_cheapest_59 rfl (by decide) rfl ?_
              refine ZW.goto (tgt := 5) dX8_cheapest_62 (by decide) ?_
              refine ih (x + 1) x (by omega) (by omega) (Or.inr ⟨hx, by omega, c17, by omega, fun y y0 y1 ye => ?_⟩)
              rcases hc with ⟨q1, q2⟩ | ⟨q1, _⟩
              · by_cases hy : y = x
                · rw [hy]; exact Int.le_refl _
                · have := q2 y y0 (by omega) ye
                  omega
              · omega
            · have hvr : 0 ≤ v ∧ v < x := by rcases hc with ⟨q1, _⟩ | ⟨q1, q2, _⟩ <;> omega
              have a3 := h106 v (by omega) (by omega)
              refine ZW.aload_n dX8_cheapest_38 rfl ?_
              refine ZW.getR dX8_cheapest_39 fl_X8_25 ⟨_, rfl, rfl⟩ ?_
              refine ZW.iload_n dX8_cheapest_42 rfl ?_
              refine ZW.iald dX8_cheapest_43 rfl (by decide) (by omega) rfl ?_
              refine ZW.aload_n dX8_cheapest_44 rfl ?_
              refine ZW.getR dX8_cheapest_45 fl_X8_25 ⟨_, rfl, rfl⟩ ?_
              refine ZW.iload_n dX8_cheapest_48 rfl ?_
              refine ZW.iald dX8_cheapest_49 rfl (by decide) (by omega) rfl ?_
              refine ZW.icmp_ge (tgt := 57) dX8_cheapest_50 (by decide) (by omega) (by omega) (fun c50 => ?_) (fun c50 => ?_)
              · refine ZW.iload_n dX8_cheapest_57 rfl ?_
                refine ZW.istore_n dX8_cheapest_58 (by decide) rfl ?_
                refine ZW.iinc dX8_cheapest_59 rfl (by decide) rfl ?_
                refine ZW.goto (tgt := 5) dX8_cheapest_62 (by decide) ?_
                exact ih (x + 1) v (by omega) (by omega) (keep (by omega))
              · refine ZW.iload_n dX8_cheapest_53 rfl ?_
                refine ZW.goto (tgt := 58) dX8_cheapest_54 (by decide) ?_
                refine ZW.istore_n dX8_cheapest_58 (by decide) rfl ?_
                refine ZW.iinc dX8_cheapest_59 rfl (by decide) rfl ?_
                refine ZW.goto (tgt := 5) dX8_cheapest_62 (by decide) ?_
                refine ih (x + 1) x (by omega) (by omega) (Or.inr ⟨hx, by omega, c17, by omega, fun y y0 y1 ye => ?_⟩)
                rcases hc with ⟨q1, q2⟩ | ⟨q1, q2, q3, q4, q5⟩
                · omega
                · by_cases hy : y = x
                  · rw [hy]; exact Int.le_refl _
                  · have := q5 y y0 (by omega) ye
                    omega
  refine ZW.bipush dX8_cheapest_0 rfl ?_
  refine ZW.istore_n dX8_cheapest_2 (by decide) rfl ?_
  refine ZW.iconst dX8_cheapest_3 ?_
  refine ZW.istore_n dX8_cheapest_4 (by decide) rfl ?_
  exact loop 63 0 (-5) (by omega) (by omega) (Or.inl ⟨rfl, fun y y0 y1 => by omega⟩)
