-- what always holds of a state
def okN (r : Int → Int) : Prop := ∀ u v, 0 ≤ u → u < r 192 → 0 ≤ v → v < r 192 → 0 < ofF r u 1 → 0 < ofF r v 1 → ofF r u 2 = ofF r v 2 → u = v
def okV (r : Int → Int) : Prop := (∀ x, 0 ≤ x → x < 63 → r (63 + x) < 64) ∧ ∀ x d, 0 ≤ x → x < 63 → 0 ≤ d → d < 6 → (nextF x d = -5 → rivB r x d = false) ∧ (nextF x d ≠ -5 → rivB r x d = rivB r (nextF x d) ((d + 3) % 6))
def okF (r : Int → Int) : Prop := ∀ x, 0 ≤ x → x < 63 → r (126 + x) ≤ 2
def okZ (r : Int → Int) : Prop := ∀ u, r 192 ≤ u → u < 16 → ofF r u 5 = 0
def okA (r : Int → Int) : Prop := okS r ∧ okN r ∧ okV r ∧ okF r ∧ okZ r
theorem okV_off {r f : Int → Int} (h : okV r) (hf : ∀ x, 0 ≤ x → x < 63 → f (63 + x) = r (63 + x)) : okV f := by
  have e : ∀ x d, 0 ≤ x → x < 63 → rivB f x d = rivB r x d := fun x d x0 x1 => by unfold rivB; rw [hf x x0 x1]
  refine ⟨fun x x0 x1 => by rw [hf x x0 x1]; exact h.1 x x0 x1, fun x d x0 x1 d0 d1 => ?_⟩
  rw [e x d x0 x1]
  refine ⟨(h.2 x d x0 x1 d0 d1).1, fun hn => ?_⟩
  have hr := (nextF_R (x := x) (d := d)).resolve_left hn
  rw [e _ _ hr.1 hr.2]
  exact (h.2 x d x0 x1 d0 d1).2 hn
/-- a number of a unit is laid -/
theorem okA_lay {r : Int → Int} (h : okA r) {u w v : Int} (hu : 0 ≤ u ∧ u < 16) (hw : 0 ≤ w ∧ w < 6) (hv : 0 ≤ v ∧ v < 1000) (h0 : w = 0 → v = 0 ∨ v = 1) (h2 : w = 2 → v < 63 ∧ ∀ z, 0 ≤ z → z < r 192 → z ≠ u → ¬ (0 < ofF r z 1 ∧ ofF r z 2 = v)) (h1 : w = 1 → (v = 0 ∨ 0 < ofF r u 1)) (h5 : w ≠ 5) : okA (layF r u w v) := by
  obtain ⟨⟨hB, hU, hT⟩, hN, hV, hF, hZ⟩ := h
  have n192 : layF r u w v 192 = r 192 := zUp_ne _ _ (by omega)
  have n191 : layF r u w v 191 = r 191 := zUp_ne _ _ (by omega)
  have o : ∀ z y, 0 ≤ y ∧ y < 6 → (z ≠ u ∨ y ≠ w) → ofF (layF r u w v) z y = ofF r z y := fun z y hy hz => layF_ne hw hy hz
  refine ⟨⟨okB_lay hB hu.1 hw.1 hv, fun z z0 z1 => ?_, fun z z0 z1 => ?_, by rw [n191]; exact hT.2⟩, fun a b a0 a1 b0 b1 ha hb hab => ?_, okV_off hV (fun x x0 x1 => zUp_ne _ _ (by omega)), fun x x0 x1 => by rw [show layF r u w v (126 + x) = r (126 + x) from zUp_ne _ _ (by omega)]; exact hF x x0 x1, fun z z0 z1 => ?_⟩
  · have hz := hU z z0 z1
    refine ⟨?_, ?_⟩
    · by_cases q : z = u ∧ (0 : Int) = w
      · obtain ⟨rfl, rfl⟩ := q
        rw [layF_same]; exact h0 rfl
      · rw [o z 0 (by decide) (by omega)]; exact hz.1
    · by_cases q : z = u ∧ (2 : Int) = w
      · obtain ⟨rfl, rfl⟩ := q
        rw [layF_same]; exact ⟨hv.1, (h2 rfl).1⟩
      · rw [o z 2 (by decide) (by omega)]; exact hz.2
  · rw [n191, o z 5 (by decide) (by omega)]
    exact hT.1 z z0 z1
  · rw [n192] at a1 b1
    have al : ∀ z, 0 < ofF (layF r u w v) z 1 → 0 < ofF r z 1 := fun z hz => by
      by_cases q : z = u ∧ (1 : Int) = w
      · obtain ⟨rfl, rfl⟩ := q
        rw [layF_same] at hz
        have := h1 rfl
        omega
      · rw [o z 1 (by decide) (by omega)] at hz; exact hz
    have ha' := al a ha
    have hb' := al b hb
    by_cases q2 : (2 : Int) = w
    · subst q2
      obtain ⟨_, h2'⟩ := h2 rfl
      by_cases qa : a = u
      · by_cases qb : b = u
        · rw [qa, qb]
        · rw [qa, layF_same, o b 2 (by decide) (Or.inl qb)] at hab
          exact absurd ⟨hb', hab.symm⟩ (h2' b b0 b1 qb)
      · by_cases qb : b = u
        · rw [qb, layF_same, o a 2 (by decide) (Or.inl qa)] at hab
          exact absurd ⟨ha', hab⟩ (h2' a a0 a1 qa)
        · rw [o a 2 (by decide) (Or.inl qa), o b 2 (by decide) (Or.inl qb)] at hab
          exact hN a b a0 a1 b0 b1 ha' hb' hab
    · rw [o a 2 (by decide) (Or.inr q2), o b 2 (by decide) (Or.inr q2)] at hab
      exact hN a b a0 a1 b0 b1 ha' hb' hab
  · rw [n192] at z0
    rw [o z 5 (by decide) (by omega)]
    exact hZ z z0 z1
/-- a number ahead of the turns is laid: ground, fort, base -/
theorem okA_lo {r : Int → Int} (h : okA r) {i v : Int} (hi : 0 ≤ i ∧ i < 191) (hv : 0 ≤ v ∧ v < 1000) (h1 : i < 63 ∨ 126 ≤ i) (h2 : 126 ≤ i → i < 189 → v ≤ 2) : okA (zUp r i v) := by
  obtain ⟨⟨hB, hU, hT⟩, hN, hV, hF, hZ⟩ := h
  have n192 : zUp r i v 192 = r 192 := zUp_ne _ _ (by omega)
  have n191 : zUp r i v 191 = r 191 := zUp_ne _ _ (by omega)
  have o : ∀ z y, 0 ≤ z → 0 ≤ y → ofF (zUp r i v) z y = ofF r z y := fun z y hz hy => zUp_ne _ _ (by omega)
  refine ⟨⟨⟨fun j j0 j1 => ?_, by rw [n192]; exact hB.2⟩, fun z z0 z1 => by rw [o z 0 z0 (by decide), o z 2 z0 (by decide)]; exact hU z z0 z1, fun z z0 z1 => by rw [n191, o z 5 z0 (by decide)]; exact hT.1 z z0 z1, by rw [n191]; exact hT.2⟩, fun a b a0 a1 b0 b1 ha hb hab => ?_, okV_off hV (fun x x0 x1 => zUp_ne _ _ (by omega)), fun x x0 x1 => ?_, fun z z0 z1 => ?_⟩
  · by_cases q : j = i
    · rw [q, zUp_same]; exact hv
    · rw [zUp_ne _ _ q]; exact hB.1 j j0 j1
  · rw [n192] at a1 b1
    rw [o a 1 a0 (by decide)] at ha
    rw [o b 1 b0 (by decide)] at hb
    rw [o a 2 a0 (by decide), o b 2 b0 (by decide)] at hab
    exact hN a b a0 a1 b0 b1 ha hb hab
  · by_cases q : 126 + x = i
    · rw [q, zUp_same]; exact h2 (by omega) (by omega)
    · rw [zUp_ne _ _ q]; exact hF x x0 x1
  · rw [n192] at z0
    have h192 := hB.1 192 (by decide) (by decide)
    rw [o z 5 (by omega) (by decide)]
    exact hZ z z0 z1
theorem okA_stands {r : Int → Int} (h : okA r) {u x : Int} (hu : 0 ≤ u ∧ u < 16) (hx : 0 ≤ x ∧ x < 63) (hn : ∀ z, 0 ≤ z → z < r 192 → z ≠ u → ¬ (0 < ofF r z 1 ∧ ofF r z 2 = x)) : okA (standsF r u x) := by
  have hU := h.1.2.1 u hu.1 hu.2
  unfold standsF
  refine okA_lo (okA_lay h hu (by decide) (by omega) (fun q => absurd q (by decide)) (fun _ => ⟨hx.2, hn⟩) (fun q => absurd q (by decide)) (by decide)) (by omega) ?_ (Or.inr (by omega)) (fun _ _ => ?_) <;> split <;> omega
theorem okA_moves {r : Int → Int} (h : okA r) {u x : Int} (hm : refMF r u x = 0) : okA (movesF r u x) := by
  obtain ⟨h1, h2, h3, h4, h5, h6⟩ := refMF_0 hm
  have hu := isUnitB_t h.1.1 h1
  have hx := isHexB_t h2
  have hw := wayF_R r u x
  have h3 := ofF_R h.1.1 (u := u) (w := 3) ⟨hu.1, hu.2.2.1⟩ (by decide)
  have hl := okA_lay h (u := u) (w := 3) (v := ofF r u 3 - wayF r u x) ⟨hu.1, hu.2.2.1⟩ (by decide) (by omega) (fun q => absurd q (by decide)) (fun q => absurd q (by decide)) (fun q => absurd q (by decide)) (by decide)
  unfold movesF
  refine okA_stands hl ⟨hu.1, hu.2.2.1⟩ hx (fun z z0 z1 zn => ?_)
  rw [show layF r u 3 (ofF r u 3 - wayF r u x) 192 = r 192 from zUp_ne _ _ (by omega)] at z1
  rw [layF_ne (by decide) (by decide) (Or.inl zn), layF_ne (by decide) (by decide) (Or.inl zn)]
  exact unitOnF_no h6 z0 z1
theorem okA_fights {r : Int → Int} (h : okA r) {u x : Int} (hu : 0 ≤ u ∧ u < 16) (hul : 0 < ofF r u 1) (hx : 0 ≤ x ∧ x < 63) (hc : canF r u x = true) : okA (fightsF r u x) := by
  obtain ⟨t1, t2, t3, t4, t5, t6, t7, t8, t9⟩ := canF_t h.1.1 hc
  have h4 := okA_lay h (u := u) (w := 4) (v := 0) hu (by decide) (by decide) (fun q => absurd q (by decide)) (fun q => absurd q (by decide)) (fun q => absurd q (by decide)) (by decide)
  have o4 : ∀ z y, 0 ≤ y ∧ y < 6 → y ≠ 4 → ofF (layF r u 4 0) z y = ofF r z y := fun z y hy hn => layF_ne (by decide) hy (Or.inr hn)
  unfold fightsF
  split
  · next hlt =>
    have hw := weakF_R h.1.1 (u := unitOnF r x) (m := powF r u x - defF r (unitOnF r x)) ⟨t2, t4⟩ (by omega)
    have h6 := okA_lay h4 (u := unitOnF r x) (w := 1) (v := weakF r (unitOnF r x) (powF r u x - defF r (unitOnF r x))) ⟨t2, t4⟩ (by decide) hw (fun q => absurd q (by decide)) (fun q => absurd q (by decide)) (fun _ => Or.inr (by rw [o4 _ 1 (by decide) (by decide)]; exact t8)) (by decide)
    split
    · next h0 =>
      refine okA_stands h6 hu hx (fun z z0 z1 zn => ?_)
      rw [show layF (layF r u 4 0) (unitOnF r x) 1 (weakF r (unitOnF r x) (powF r u x - defF r (unitOnF r x))) 192 = r 192 by rw [show layF (layF r u 4 0) (unitOnF r x) 1 (weakF r (unitOnF r x) (powF r u x - defF r (unitOnF r x))) 192 = layF r u 4 0 192 from zUp_ne _ _ (by omega)]; exact zUp_ne _ _ (by omega)] at z1
      by_cases q : z = unitOnF r x
      · rw [q, layF_same, h0]
        exact fun y => absurd y.1 (by decide)
      · rw [layF_ne (by decide) (by decide) (Or.inl q), layF_ne (by decide) (by decide) (Or.inl q), o4 _ 1 (by decide) (by decide), o4 _ 2 (by decide) (by decide)]
        intro y
        exact q (h.2.1 z (unitOnF r x) z0 z1 t2 t3 y.1 t8 (by rw [y.2, t9]))
    · exact h6
  · next hlt =>
    have hw := weakF_R h.1.1 (u := u) (m := defF r (unitOnF r x) - powF r u x) hu (by omega)
    exact okA_lay h4 hu (by decide) hw (fun q => absurd q (by decide)) (fun q => absurd q (by decide)) (fun _ => Or.inr (by rw [o4 _ 1 (by decide) (by decide)]; exact hul)) (by decide)
theorem eN_R {r : Int → Int} (h : okA r) (h9 : r 191 ≠ 999) {u : Int} (hu : 0 ≤ u ∧ u < 16) : (∀ w, 0 ≤ w → w < 6 → 0 ≤ eN r u w ∧ eN r u w < 1000) ∧ (eN r u 0 = ofF r u 0) ∧ (eN r u 2 = ofF r u 2) ∧ (eN r u 5 ≤ r 191 + 1) ∧ (0 < eN r u 1 → 0 < ofF r u 1) := by
  have hT := h.1.2.2.1 u hu.1 hu.2
  have hT2 := h.1.2.2.2
  have f := fun w (hw : 0 ≤ w ∧ w < 6) => ofF_R h.1.1 hu (w := w) hw
  have f1 := f 1 (by decide)
  have f5 := f 5 (by decide)
  have h191 := h.1.1.1 191 (by decide) (by decide)
  have e5 : 0 ≤ e5F r u ∧ e5F r u ≤ r 191 + 1 := by unfold e5F; split <;> omega
  have own1 : ownB r u = true → 0 < ofF r u 1 := fun q => (of_decide_eq_true q).1
  have e1 : ownB r u = true → 0 ≤ e1F r u ∧ e1F r u < 1000 := fun q => by have := own1 q; unfold e1F; split <;> omega
  refine ⟨fun w w0 w1 => ?_, ?_, ?_, ?_, ?_⟩
  · have fw := f w ⟨w0, w1⟩
    unfold eN
    split
    · next q =>
      have := e1 q
      split
      · omega
      · split <;> omega
    · (repeat' split) <;> omega
  · unfold eN; (repeat' split) <;> first | rfl | omega
  · unfold eN; (repeat' split) <;> first | rfl | omega
  · unfold eN; (repeat' split) <;> omega
  · unfold eN
    split
    · next q => exact fun _ => own1 q
    · (repeat' split) <;> intro z <;> omega
theorem okA_ends {r : Int → Int} (h : okA r) (h9 : r 191 ≠ 999) : okA (endsF r) := by
  have h192 := h.1.1.1 192 (by decide) (by decide)
  have h16 := h.1.1.2
  have h191 := h.1.1.1 191 (by decide) (by decide)
  have hT2 := h.1.2.2.2
  have n192 : endsF r 192 = r 192 := by unfold endsF; rw [zUp_ne _ _ (by decide), endsG_lo (by decide)]
  have n191 : endsF r 191 = r 191 + 1 := by unfold endsF; rw [zUp_same]
  have lo : ∀ i, i < 191 → endsF r i = r i := fun i hi => by unfold endsF; rw [zUp_ne _ _ (by omega), endsG_lo (by omega)]
  have o : ∀ z w, 0 ≤ z → 0 ≤ w ∧ w < 6 → ofF (endsF r) z w = if z < r 192 then eN r z w else ofF r z w := fun z w hz hw => by
    rw [← endsG_at hz hw]
    unfold endsF ofF
    exact zUp_ne _ _ (by omega)
  refine ⟨⟨⟨fun i i0 i1 => ?_, by rw [n192]; exact h16⟩, fun z z0 z1 => ?_, fun z z0 z1 => ?_, by rw [n191]; omega⟩, fun a b a0 a1 b0 b1 ha hb hab => ?_, okV_off h.2.2.1 (fun x x0 x1 => lo _ (by omega)), fun x x0 x1 => by rw [lo _ (by omega)]; exact h.2.2.2.1 x x0 x1, fun z z0 z1 => ?_⟩
  · by_cases q : i < 191
    · rw [lo i q]; exact h.1.1.1 i i0 i1
    · by_cases q1 : i = 191
      · rw [q1, n191]; omega
      · by_cases q2 : i = 192
        · rw [q2, n192]; omega
        · have e := o ((i - 193) / 6) ((i - 193) % 6) (by omega) (by omega)
          unfold ofF at e
          rw [show 193 + 6 * ((i - 193) / 6) + (i - 193) % 6 = i by omega] at e
          rw [e]
          split
          · next hlt => exact (eN_R h h9 (u := (i - 193) / 6) (by omega)).1 _ (by omega) (by omega)
          · exact h.1.1.1 i i0 i1
  · rw [o z 0 z0 (by decide), o z 2 z0 (by decide)]
    have e := eN_R h h9 (u := z) ⟨z0, z1⟩
    split
    · rw [e.2.1, e.2.2.1]; exact h.1.2.1 z z0 z1
    · exact h.1.2.1 z z0 z1
  · rw [o z 5 z0 (by decide), n191]
    have e := eN_R h h9 (u := z) ⟨z0, z1⟩
    have e2 := h.1.2.2.1 z z0 z1
    split
    · exact e.2.2.2.1
    · omega
  · rw [n192] at a1 b1
    have ea := eN_R h h9 (u := a) ⟨a0, by omega⟩
    have eb := eN_R h h9 (u := b) ⟨b0, by omega⟩
    rw [o a 1 a0 (by decide), if_pos a1] at ha
    rw [o b 1 b0 (by decide), if_pos b1] at hb
    rw [o a 2 a0 (by decide), if_pos a1, o b 2 b0 (by decide), if_pos b1, ea.2.2.1, eb.2.2.1] at hab
    exact h.2.1 a b a0 a1 b0 b1 (ea.2.2.2.2 ha) (eb.2.2.2.2 hb) hab
  · rw [n192] at z0
    rw [o z 5 (by omega) (by decide), if_neg (by omega)]
    exact h.2.2.2.2 z z0 z1
theorem okA_do {r : Int → Int} (h : okA r) {o : ZO} (ho : zoP o) : okA (doS r o) := by
  unfold doS
  split
  · next h0 =>
    unfold rawF at h0
    split
    · next q => rw [if_pos q] at h0; exact okA_moves h h0
    · next q =>
      rw [if_neg q] at h0
      split
      · next q2 =>
        rw [if_pos q2] at h0
        have h3 := refAF_0 h0
        have hu := isUnitB_t h.1.1 h3.1
        exact okA_fights h ⟨hu.1, hu.2.2.1⟩ hu.2.2.2 (isHexB_t h3.2.1) h3.2.2.2.2
      · next q2 =>
        rw [if_neg q2] at h0
        refine okA_ends h (fun q3 => ?_)
        rw [if_pos q3] at h0
        exact absurd h0 (by decide)
  · exact h
-- numbers that are none of the state's are never touched
def outF (r f : Int → Int) : Prop := ∀ i, (i < 0 ∨ 289 ≤ i) → f i = r i
theorem outF_lay {r f : Int → Int} (h : outF r f) {u w v : Int} (hu : 0 ≤ u ∧ u < 16) (hw : 0 ≤ w ∧ w < 6) : outF r (layF f u w v) := fun i hi => (zUp_ne _ _ (by omega)).trans (h i hi)
theorem outF_up {r f : Int → Int} (h : outF r f) {j v : Int} (hj : 0 ≤ j ∧ j < 289) : outF r (zUp f j v) := fun i hi => (zUp_ne _ _ (by omega)).trans (h i hi)
theorem outF_rf (r : Int → Int) : outF r r := fun _ _ => rfl
theorem outF_stands {r f : Int → Int} (h : outF r f) {u x : Int} (hu : 0 ≤ u ∧ u < 16) (hx : 0 ≤ x ∧ x < 63) : outF r (standsF f u x) := outF_up (outF_lay h hu (by decide)) (by omega)
theorem outF_do {r f : Int → Int} (h : outF r f) (hA : okA f) {o : ZO} (ho : zoP o) : outF r (doS f o) := by
  obtain ⟨hw, hu, hx⟩ := ho
  unfold doS
  split
  · next h0 =>
    unfold rawF at h0
    split
    · next q => exact outF_stands (outF_lay h hu (by decide)) hu hx
    · next q =>
      rw [if_neg q] at h0
      split
      · next q2 =>
        rw [if_pos q2] at h0
        have h3 := refAF_0 h0
        obtain ⟨t1, t2, t3, t4, _⟩ := canF_t hA.1.1 h3.2.2.2.2
        unfold fightsF
        split
        · split
          · exact outF_stands (outF_lay (outF_lay h hu (by decide)) ⟨t2, t4⟩ (by decide)) hu hx
          · exact outF_lay (outF_lay h hu (by decide)) ⟨t2, t4⟩ (by decide)
        · exact outF_lay (outF_lay h hu (by decide)) hu (by decide)
      · intro i hi
        have h16 := hA.1.1.2
        unfold endsF
        rw [zUp_ne _ _ (by omega)]
        unfold endsG
        rw [if_neg (by omega)]
        exact h i hi
  · exact h
noncomputable def runC : (Int → Int) → List ZO → Int
  | _, [] => 0
  | r, o :: l => if doR r o = 0 then runC (doS r o) l else doR r o
noncomputable def runS : (Int → Int) → List ZO → (Int → Int)
  | r, [] => r
  | r, o :: l => runS (doS r o) l
theorem okA_run {l : List ZO} (hl : ∀ o ∈ l, zoP o) : ∀ {r : Int → Int}, okA r → okA (runS r l) := by
  induction l with
  | nil => intro r h; exact h
  | cons o l ih => intro r h; exact ih (fun z hz => hl z (List.mem_cons_of_mem _ hz)) (okA_do h (hl o List.mem_cons_self))
