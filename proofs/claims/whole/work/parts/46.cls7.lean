-- the class changes a State
abbrev StAt (g : ZH) (b : Nat) (r : Int → Int) : Prop := StF (g b) (g (b + 1)) (g (b + 2)) (g (b + 3)) (g (b + 4)) (g (b + 5)) (g (b + 6)) (g (b + 7)) (g (b + 8)) (g (b + 9)) (g (b + 10)) (g (b + 11)) r
theorem uoF_cong {r r' : Int → Int} {x : Int} : ∀ {n : Nat} {u : Int}, (∀ z, u ≤ z → z < u + n → ((0 < ofF r' z 1 ∧ ofF r' z 2 = x) ↔ (0 < ofF r z 1 ∧ ofF r z 2 = x))) → uoF r' x n u = uoF r x n u
  | 0, _, _ => rfl
  | n + 1, u, h => by
    have h0 := h u (by omega) (by omega)
    unfold uoF
    by_cases q : 0 < ofF r u 1 ∧ ofF r u 2 = x
    · rw [if_pos (h0.mpr q), if_pos q]
    · rw [if_neg (fun z => q (h0.mp z)), if_neg q]
      exact uoF_cong (fun z z0 z1 => h z (by omega) (by omega))
theorem uo_cong {r r' : Int → Int} {x : Int} (h192 : r' 192 = r 192) (h : ∀ z, 0 ≤ z → z < r 192 → ((0 < ofF r' z 1 ∧ ofF r' z 2 = x) ↔ (0 < ofF r z 1 ∧ ofF r z 2 = x))) : unitOnF r' x = unitOnF r x := by
  unfold unitOnF
  rw [h192]
  exact uoF_cong (fun z z0 z1 => h z z0 (by omega))
theorem uo_none {r : Int → Int} (hB : okB r) {x : Int} (h : ∀ z, 0 ≤ z → z < r 192 → ¬ (0 < ofF r z 1 ∧ ofF r z 2 = x)) : unitOnF r x = -5 := by
  rcases unitOnF_R hB x with q | ⟨q1, q2, q3, q4⟩
  · exact q
  · exact absurd q4 (h _ q1 q2)
theorem uoN_eq {r r' : Int → Int} {x : Int} (h : unitOnF r' x = unitOnF r x) : uoN r' x = uoN r x := by unfold uoN; rw [h]
theorem uoN_no {r : Int → Int} {x : Int} (h : unitOnF r x = -5) : uoN r x = -1 := by unfold uoN; rw [if_pos h]
theorem uoN_on {r : Int → Int} (hA : okA r) {u : Int} (h0 : 0 ≤ u) (h1 : u < r 192) (hl : 0 < ofF r u 1) : uoN r (ofF r u 2) = u := by
  unfold uoN
  rw [stand_on hA h0 h1 hl, if_neg (by omega)]
theorem layF_192 {r : Int → Int} {u w v i : Int} (hu : 0 ≤ u) (hw : 0 ≤ w) (hi : i < 193) : layF r u w v i = r i := zUp_ne _ _ (by omega)
/-- a State where a number of a unit is laid -/
theorem StF.of_lay {o gr ri fo un ba si st he po at_ sv r un' si' st' he' po' at' sv' : Int → Int} {u w v : Int} (h : StF o gr ri fo un ba si st he po at_ sv r) (hu : 0 ≤ u) (hw : 0 ≤ w) (hun : ∀ x, 0 ≤ x → x < 63 → un' x = uoN (layF r u w v) x) (hf : ∀ z, 0 ≤ z → z < r 192 → si' z = ofF (layF r u w v) z 0 ∧ st' z = ofF (layF r u w v) z 1 ∧ he' z = ofF (layF r u w v) z 2 ∧ sv' z = ofF (layF r u w v) z 5 ∧ (0 < ofF (layF r u w v) z 1 → po' z = ofF (layF r u w v) z 3 ∧ at' z = ofF (layF r u w v) z 4)) : StF o gr ri fo un' ba si' st' he' po' at' sv' (layF r u w v) := by
  have e : ∀ i, i < 193 → layF r u w v i = r i := fun i hi => layF_192 hu hw hi
  refine ⟨fun x x0 x1 => ?_, ?_, ?_, fun z z0 z1 => ?_⟩
  · rw [e x (by omega), e (63 + x) (by omega), e (126 + x) (by omega)]
    have h1 := h.1 x x0 x1
    exact ⟨h1.1, h1.2.1, h1.2.2.1, hun x x0 x1⟩
  · rw [e 189 (by decide), e 190 (by decide)]; exact h.2.1
  · rw [e 192 (by decide), e 191 (by decide)]; exact h.2.2.1
  · rw [e 192 (by decide)] at z1
    exact hf z z0 z1
theorem lay_uo {r : Int → Int} {u w v x : Int} (hu : 0 ≤ u) (hw : 3 ≤ w ∧ w < 6) : unitOnF (layF r u w v) x = unitOnF r x :=
  uo_cong (layF_192 hu (by omega) (by decide)) (fun z _ _ => by rw [layF_ne (by omega) (by decide) (Or.inr (by omega)), layF_ne (by omega) (by decide) (Or.inr (by omega))])
theorem StF.lay3 {o gr ri fo un ba si st he po at_ sv r : Int → Int} (h : StF o gr ri fo un ba si st he po at_ sv r) {u v : Int} (hu : 0 ≤ u) : StF o gr ri fo un ba si st he (zUp po u v) at_ sv (layF r u 3 v) := by
  refine h.of_lay hu (by decide) (fun x x0 x1 => by rw [uoN_eq (lay_uo hu (by decide))]; exact (h.1 x x0 x1).2.2.2) (fun z z0 z1 => ?_)
  have h1 := h.2.2.2 z z0 z1
  rw [layF_ne (by decide) (by decide) (Or.inr (by decide)), layF_ne (by decide) (by decide) (Or.inr (by decide)), layF_ne (by decide) (by decide) (Or.inr (by decide)), layF_ne (by decide) (by decide) (Or.inr (by decide)), layF_ne (w2 := 4) (by decide) (by decide) (Or.inr (by decide))]
  refine ⟨h1.1, h1.2.1, h1.2.2.1, h1.2.2.2.1, fun hl => ⟨?_, (h1.2.2.2.2 hl).2⟩⟩
  by_cases q : z = u
  · rw [q, zUp_same, layF_same]
  · rw [zUp_ne _ _ q, layF_ne (by decide) (by decide) (Or.inl q)]; exact (h1.2.2.2.2 hl).1
theorem StF.lay4 {o gr ri fo un ba si st he po at_ sv r : Int → Int} (h : StF o gr ri fo un ba si st he po at_ sv r) {u v : Int} (hu : 0 ≤ u) : StF o gr ri fo un ba si st he po (zUp at_ u v) sv (layF r u 4 v) := by
  refine h.of_lay hu (by decide) (fun x x0 x1 => by rw [uoN_eq (lay_uo hu (by decide))]; exact (h.1 x x0 x1).2.2.2) (fun z z0 z1 => ?_)
  have h1 := h.2.2.2 z z0 z1
  rw [layF_ne (by decide) (by decide) (Or.inr (by decide)), layF_ne (by decide) (by decide) (Or.inr (by decide)), layF_ne (by decide) (by decide) (Or.inr (by decide)), layF_ne (by decide) (by decide) (Or.inr (by decide)), layF_ne (w2 := 3) (by decide) (by decide) (Or.inr (by decide))]
  refine ⟨h1.1, h1.2.1, h1.2.2.1, h1.2.2.2.1, fun hl => ⟨(h1.2.2.2.2 hl).1, ?_⟩⟩
  by_cases q : z = u
  · rw [q, zUp_same, layF_same]
  · rw [zUp_ne _ _ q, layF_ne (by decide) (by decide) (Or.inl q)]; exact (h1.2.2.2.2 hl).2
theorem StF.fort {o gr ri fo un ba si st he po at_ sv r : Int → Int} (h : StF o gr ri fo un ba si st he po at_ sv r) {x s : Int} (hx : 0 ≤ x ∧ x < 63) : StF o gr ri (zUp fo x s) un ba si st he po at_ sv (zUp r (126 + x) (s + 1)) := by
  have o2 : ∀ z w, 0 ≤ z → 0 ≤ w → ofF (zUp r (126 + x) (s + 1)) z w = ofF r z w := fun z w hz hw => zUp_ne _ _ (by omega)
  refine ⟨fun y y0 y1 => ?_, ?_, ?_, fun z z0 z1 => ?_⟩
  · have h1 := h.1 y y0 y1
    rw [zUp_ne (i := 126 + x) _ _ (show y ≠ 126 + x by omega), zUp_ne (i := 126 + x) _ _ (show 63 + y ≠ 126 + x by omega), uoN_eq (r := r) (uo_cong (zUp_ne _ _ (by omega)) (fun z z0 _ => by rw [o2 z 1 z0 (by decide), o2 z 2 z0 (by decide)]))]
    refine ⟨h1.1, h1.2.1, ?_, h1.2.2.2⟩
    by_cases q : y = x
    · rw [q, zUp_same, zUp_same]; omega
    · rw [zUp_ne _ _ q, zUp_ne _ _ (by omega)]; exact h1.2.2.1
  · rw [zUp_ne _ _ (by omega), zUp_ne _ _ (by omega)]; exact h.2.1
  · rw [zUp_ne _ _ (by omega), zUp_ne _ _ (by omega)]; exact h.2.2.1
  · rw [zUp_ne _ _ (by omega)] at z1
    rw [o2 z 0 z0 (by decide), o2 z 1 z0 (by decide), o2 z 2 z0 (by decide), o2 z 3 z0 (by decide), o2 z 4 z0 (by decide), o2 z 5 z0 (by decide)]
    exact h.2.2.2 z z0 z1
def gvF (r : Int → Int) (x : Int) : Int → Int := if r (126 + x) ≠ 0 ∧ sdF r x ≠ -1 then zUp r (126 + x) (sdF r x + 1) else r
theorem c_X4_giveFortToUnit (g : ZH) {r : Int → Int} (hA : okA r) (hS : StN g r) {x : Int} (hx : 0 ≤ x ∧ x < 63) : ZC 1 mX4_giveFortToUnit [.inr 3, .inl x] g (fun _ g' => zFr [6] g g' ∧ StN g' (gvF r x)) := by
  have hsd := sdF_R hA x
  refine ZC.of (by decide +kernel) (Nat.le_of_ble_eq_true rfl) ?_
  refine ZW.aload_n dX4_giveFortToUnit_0 rfl ?_
  refine ZW.iload_n dX4_giveFortToUnit_1 rfl ?_
  refine ZW.callV (as := [_]) dX4_giveFortToUnit_2 cv_X4_80 ⟨_, rfl⟩ rfl (by decide) (Nat.le_of_ble_eq_true rfl) rfl (c_X4_hasFort _ hA hS hx) (fun v1 g1 ⟨q1, q2⟩ => ?_)
  subst q1; subst q2
  refine ZW.if_eq (tgt := 28) dX4_giveFortToUnit_5 (by decide) (by first | omega | exact zB_R _) (fun c5 => ?_) (fun c5 => ?_)
  · have e := of_decide_eq_false (zB_eq c5)
    refine ZW.vret dX4_giveFortToUnit_28 rfl ?_
    refine ⟨zFr.rf _ _, ?_⟩
    unfold gvF
    rw [if_neg (fun q => e q.1)]
    exact hS
  · have e := of_decide_eq_true (zB_ne c5)
    refine ZW.aload_n dX4_giveFortToUnit_8 rfl ?_
    refine ZW.iload_n dX4_giveFortToUnit_9 rfl ?_
    refine ZW.callV (as := [_]) dX4_giveFortToUnit_10 cv_X4_83 ⟨_, rfl⟩ rfl (by decide) (Nat.le_of_ble_eq_true rfl) rfl (c_X4_sideOn _ hA hS hx) (fun v1 g1 ⟨q1, q2⟩ => ?_)
    subst q1; subst q2
    refine ZW.iconst dX4_giveFortToUnit_13 ?_
    refine ZW.icmp_eq (tgt := 28) dX4_giveFortToUnit_14 (by decide) (by first | omega | exact zB_R _) (by first | omega | exact zB_R _) (fun c14 => ?_) (fun c14 => ?_)
    · refine ZW.vret dX4_giveFortToUnit_28 rfl ?_
      refine ⟨zFr.rf _ _, ?_⟩
      unfold gvF
      rw [if_neg (fun q => q.2 c14)]
      exact hS
    · refine ZW.aload_n dX4_giveFortToUnit_17 rfl ?_
      refine ZW.getR dX4_giveFortToUnit_18 fl_X4_18 ⟨_, rfl, rfl⟩ ?_
      refine ZW.iload_n dX4_giveFortToUnit_21 rfl ?_
      refine ZW.aload_n dX4_giveFortToUnit_22 rfl ?_
      refine ZW.iload_n dX4_giveFortToUnit_23 rfl ?_
      refine ZW.callV (as := [_]) dX4_giveFortToUnit_24 cv_X4_83 ⟨_, rfl⟩ rfl (by decide) (Nat.le_of_ble_eq_true rfl) rfl (c_X4_sideOn _ hA hS hx) (fun v1 g1 ⟨q1, q2⟩ => ?_)
      subst q1; subst q2
      refine ZW.iast dX4_giveFortToUnit_27 rfl (by decide) (by omega) ?_
      refine ZW.vret dX4_giveFortToUnit_28 rfl ?_
      refine ⟨(zFr.rf _ _).set (by decide) _ _, ?_⟩
      unfold gvF
      rw [if_pos ⟨e, c14⟩]
      exact StF.fort hS hx
theorem c_X4_stand (g : ZH) {r1 : Int → Int} (hA : okA r1) {u x : Int} (hu : 0 ≤ u ∧ u < 16) (hx : 0 ≤ x ∧ x < 63) (hS : StN (zSet (zSet g 11 u x) 7 x u) r1) : ZC 2 mX4_stand [.inr 3, .inl u, .inl x] g (fun _ g' => zFr [6, 7, 11] g g' ∧ StN g' (gvF r1 x)) := by
  refine ZC.of (by decide +kernel) (Nat.le_of_ble_eq_true rfl) ?_
  refine ZW.aload_n dX4_stand_0 rfl ?_
  refine ZW.getR dX4_stand_1 fl_X4_33 ⟨_, rfl, rfl⟩ ?_
  refine ZW.iload_n dX4_stand_4 rfl ?_
  refine ZW.iload_n dX4_stand_5 rfl ?_
  refine ZW.iast dX4_stand_6 rfl (by decide) (by omega) ?_
  refine ZW.aload_n dX4_stand_7 rfl ?_
  refine ZW.getR dX4_stand_8 fl_X4_21 ⟨_, rfl, rfl⟩ ?_
  refine ZW.iload_n dX4_stand_11 rfl ?_
  refine ZW.iload_n dX4_stand_12 rfl ?_
  refine ZW.iast dX4_stand_13 rfl (by decide) (by omega) ?_
  refine ZW.aload_n dX4_stand_14 rfl ?_
  refine ZW.iload_n dX4_stand_15 rfl ?_
  refine ZW.callVv (as := [_]) dX4_stand_16 cv_X4_76 ⟨_, rfl⟩ rfl (by decide) (Nat.le_of_ble_eq_true rfl) rfl (fun _ _ hz _ => hz) (c_X4_giveFortToUnit _ hA hS hx) (fun g1 ⟨f1, s1⟩ => ?_)
  refine ZW.vret dX4_stand_19 rfl ?_
  exact ⟨(((zFr.rf _ _).set (by decide) _ _).set (by decide) _ _).tr (f1.up (by decide)), s1⟩
theorem gv_stands {r : Int → Int} {u x : Int} (hA : okA (layF r u 2 x)) (hu : 0 ≤ u) (h1 : u < r 192) (hl : 0 < ofF r u 1) (hx : 0 ≤ x ∧ x < 63) : gvF (layF r u 2 x) x = standsF r u x := by
  have h16 := hA.1.1.2
  rw [layF_192 hu (by decide) (by decide)] at h16
  have hU := hA.1.2.1 u hu (by omega)
  have e := sdF_on hA hu (by rw [layF_192 hu (by decide) (by decide)]; exact h1) (by rw [layF_ne (by decide) (by decide) (Or.inr (by decide))]; exact hl)
  rw [layF_same, layF_ne (w2 := 0) (by decide) (by decide) (Or.inr (by decide))] at e
  rw [layF_ne (w2 := 0) (by decide) (by decide) (Or.inr (by decide))] at hU
  unfold gvF standsF
  rw [e, layF_fort hu (by decide) hx.2]
  by_cases q : r (126 + x) = 0
  · rw [if_neg (fun z => z.1 q), if_pos q, zUp_id]
    rw [layF_fort hu (by decide) hx.2]; exact q
  · rw [if_pos ⟨q, by omega⟩, if_neg q]
theorem c_X4_shift (g : ZH) {r : Int → Int} (hA : okA r) (hS : StN g r) {u x : Int} (hu : 0 ≤ u ∧ u < r 192) (hul : 0 < ofF r u 1) (hx : 0 ≤ x ∧ x < 63) (hn : ∀ z, 0 ≤ z → z < r 192 → z ≠ u → ¬ (0 < ofF r z 1 ∧ ofF r z 2 = x)) : ZC 3 mX4_shift [.inr 3, .inl u, .inl x] g (fun _ g' => zFr [6, 7, 11] g g' ∧ StN g' (standsF r u x)) := by
  have h16 := hA.1.1.2
  have hu16 : 0 ≤ u ∧ u < 16 := by omega
  have hU := hA.1.2.1 u hu.1 hu16.2
  have hst := st_u hS hu.1 hu.2
  have hA1 : okA (layF r u 2 x) := okA_lay hA hu16 (by decide) (by omega) (fun q => absurd q (by decide)) (fun _ => ⟨hx.2, hn⟩) (fun q => absurd q (by decide)) (by decide)
  have e192 : layF r u 2 x 192 = r 192 := layF_192 hu.1 (by decide) (by decide)
  have o1 : ∀ z, ofF (layF r u 2 x) z 1 = ofF r z 1 := fun z => layF_ne (by decide) (by decide) (Or.inr (by decide))
  refine ZC.of (by decide +kernel) (Nat.le_of_ble_eq_true rfl) ?_
  refine ZW.aload_n dX4_shift_0 rfl ?_
  refine ZW.getR dX4_shift_1 fl_X4_21 ⟨_, rfl, rfl⟩ ?_
  refine ZW.aload_n dX4_shift_4 rfl ?_
  refine ZW.getR dX4_shift_5 fl_X4_33 ⟨_, rfl, rfl⟩ ?_
  refine ZW.iload_n dX4_shift_8 rfl ?_
  refine ZW.iald dX4_shift_9 rfl (by decide) (by omega) rfl ?_
  rw [hst.2.2.1]
  refine ZW.iconst dX4_shift_10 ?_
  refine ZW.iast dX4_shift_11 rfl (by decide) (by omega) ?_
  refine ZW.aload_n dX4_shift_12 rfl ?_
  refine ZW.iload_n dX4_shift_13 rfl ?_
  refine ZW.iload_n dX4_shift_14 rfl ?_
  have hS1 : StN (zSet (zSet (zSet g 7 (ofF r u 2) (-1)) 11 u x) 7 x u) (layF r u 2 x) := by
    refine StF.of_lay hS hu.1 (by decide) (fun y y0 y1 => ?_) (fun z z0 z1 => ?_)
    · show zUp (zUp (g 7) (ofF r u 2) (-1)) x u y = _
      by_cases q : y = x
      · have := uoN_on hA1 hu.1 (by rw [e192]; exact hu.2) (by rw [o1]; exact hul)
        rw [layF_same] at this
        rw [q, zUp_same, this]
      · rw [zUp_ne _ _ q]
        by_cases q2 : y = ofF r u 2
        · rw [q2, zUp_same]
          refine (uoN_no (uo_none hA1.1.1 (fun z z0 z1 hz => ?_))).symm
          rw [e192] at z1
          rw [o1] at hz
          by_cases q3 : z = u
          · rw [q3, layF_same] at hz
            exact q (q2.trans hz.2.symm)
          · rw [layF_ne (by decide) (by decide) (Or.inl q3)] at hz
            exact q3 (hA.2.1 z u z0 z1 hu.1 hu.2 hz.1 hul hz.2)
        · rw [zUp_ne _ _ q2, (hS.1 y y0 y1).2.2.2]
          refine (uoN_eq (uo_cong e192 (fun z z0 z1 => ?_))).symm
          rw [o1]
          by_cases q3 : z = u
          · rw [q3, layF_same]
            exact ⟨fun hz => absurd hz.2.symm q, fun hz => absurd hz.2.symm q2⟩
          · rw [layF_ne (by decide) (by decide) (Or.inl q3)]
    · have h1 := hS.2.2.2 z z0 z1
      rw [o1, layF_ne (w2 := 0) (by decide) (by decide) (Or.inr (by decide)), layF_ne (w2 := 5) (by decide) (by decide) (Or.inr (by decide)), layF_ne (w2 := 3) (by decide) (by decide) (Or.inr (by decide)), layF_ne (w2 := 4) (by decide) (by decide) (Or.inr (by decide))]
      refine ⟨h1.1, h1.2.1, ?_, h1.2.2.2⟩
      show zUp (g 11) u x z = _
      by_cases q : z = u
      · rw [q, zUp_same, layF_same]
      · rw [zUp_ne _ _ q, layF_ne (by decide) (by decide) (Or.inl q)]; exact h1.2.2.1
  refine ZW.callVv (as := [_, _]) dX4_shift_15 cv_X4_72 ⟨_, rfl⟩ rfl (by decide) (Nat.le_of_ble_eq_true rfl) rfl (fun _ _ hz _ => hz) (c_X4_stand _ hA1 hu16 hx hS1) (fun g1 ⟨f1, s1⟩ => ?_)
  refine ZW.vret dX4_shift_18 rfl ?_
  rw [gv_stands hA1 hu.1 hu.2 hul hx] at s1
  exact ⟨((zFr.rf _ _).set (by decide) _ _).tr f1, s1⟩
-- strengths, by the cells
def stS (g : ZH) (u s : Int) : ZH := if maxF s 0 = 0 then zSet (zSet g 10 u (maxF s 0)) 7 (g 11 u) (-1) else zSet g 10 u (maxF s 0)
theorem c_X4_setStrengthR (g : ZH) {u s : Int} (hu : 0 ≤ u ∧ u < 16) (hs : zR s) (hx : 0 ≤ g 11 u ∧ g 11 u < 63) : ZC 1 mX4_setStrength [.inr 3, .inl u, .inl s] g (fun _ g' => g' = stS g u s) := by
  have hR : zR (maxF s 0) := by unfold maxF; split <;> omega
  refine ZC.of (by decide +kernel) (Nat.le_of_ble_eq_true rfl) ?_
  refine ZW.aload_n dX4_setStrength_0 rfl ?_
  refine ZW.getR dX4_setStrength_1 fl_X4_30 ⟨_, rfl, rfl⟩ ?_
  refine ZW.iload_n dX4_setStrength_4 rfl ?_
  refine ZW.iload_n dX4_setStrength_5 rfl ?_
  refine ZW.iconst dX4_setStrength_6 ?_
  refine ZW.mmax dX4_setStrength_7 (mmW_2 228 rfl rfl) (mmW_2 222 rfl rfl) (mmW_1 12 rfl rfl) (mmW_2 223 rfl rfl) (by decide) (Nat.le_of_ble_eq_true rfl) (by omega) (by omega) ?_
  refine ZW.iast dX4_setStrength_10 rfl (by decide) (by omega) ?_
  refine ZW.aload_n dX4_setStrength_11 rfl ?_
  refine ZW.getR dX4_setStrength_12 fl_X4_30 ⟨_, rfl, rfl⟩ ?_
  refine ZW.iload_n dX4_setStrength_15 rfl ?_
  refine ZW.iald dX4_setStrength_16 rfl (by decide) (by omega) rfl ?_
  rw [zSet_same, zUp_same]
  refine ZW.if_ne (tgt := 32) dX4_setStrength_17 (by decide) (by first | omega | exact zB_R _) (fun c17 => ?_) (fun c17 => ?_)
  · refine ZW.vret dX4_setStrength_32 rfl ?_
    unfold stS
    rw [if_neg c17]
  · refine ZW.aload_n dX4_setStrength_20 rfl ?_
    refine ZW.getR dX4_setStrength_21 fl_X4_21 ⟨_, rfl, rfl⟩ ?_
    refine ZW.aload_n dX4_setStrength_24 rfl ?_
    refine ZW.getR dX4_setStrength_25 fl_X4_33 ⟨_, rfl, rfl⟩ ?_
    refine ZW.iload_n dX4_setStrength_28 rfl ?_
    refine ZW.iald dX4_setStrength_29 rfl (by decide) (by omega) rfl ?_
    rw [zSet_ne _ _ _ (show 11 ≠ 10 by decide)]
    refine ZW.iconst dX4_setStrength_30 ?_
    refine ZW.iast dX4_setStrength_31 rfl (by decide) (by omega) ?_
    refine ZW.vret dX4_setStrength_32 rfl ?_
    unfold stS
    rw [if_pos c17]
theorem c_X4_setStrength (g : ZH) {r : Int → Int} (hA : okA r) (hS : StN g r) {u s : Int} (hu : 0 ≤ u ∧ u < r 192) (hul : 0 < ofF r u 1) (hs : 0 ≤ s ∧ s < 1000) : ZC 1 mX4_setStrength [.inr 3, .inl u, .inl s] g (fun _ g' => zFr [7, 10] g g' ∧ StN g' (layF r u 1 s)) := by
  have h16 := hA.1.1.2
  have hU := hA.1.2.1 u hu.1 (by omega)
  have hst := st_u hS hu.1 hu.2
  have hm : maxF s 0 = s := by unfold maxF; rw [if_neg (by omega)]
  have hB1 := okB_lay hA.1.1 (w := 1) hu.1 (by decide) hs
  refine ZC.mono (c_X4_setStrengthR g (by omega) (by omega) (by rw [hst.2.2.1]; exact hU.2)) (fun _ g' e => ?_)
  have e192 : layF r u 1 s 192 = r 192 := layF_192 hu.1 (by decide) (by decide)
  have o2 : ∀ z, ofF (layF r u 1 s) z 2 = ofF r z 2 := fun z => layF_ne (by decide) (by decide) (Or.inr (by decide))
  have fields : ∀ z, 0 ≤ z → z < r 192 → g 9 z = ofF (layF r u 1 s) z 0 ∧ zUp (g 10) u s z = ofF (layF r u 1 s) z 1 ∧ g 11 z = ofF (layF r u 1 s) z 2 ∧ g 14 z = ofF (layF r u 1 s) z 5 ∧ (0 < ofF (layF r u 1 s) z 1 → g 12 z = ofF (layF r u 1 s) z 3 ∧ g 13 z = ofF (layF r u 1 s) z 4) := fun z z0 z1 => by
    have h1 := hS.2.2.2 z z0 z1
    rw [o2, layF_ne (w2 := 0) (by decide) (by decide) (Or.inr (by decide)), layF_ne (w2 := 5) (by decide) (by decide) (Or.inr (by decide)), layF_ne (w2 := 3) (by decide) (by decide) (Or.inr (by decide)), layF_ne (w2 := 4) (by decide) (by decide) (Or.inr (by decide))]
    by_cases q : z = u
    · subst q
      rw [zUp_same, layF_same]
      exact ⟨h1.1, rfl, h1.2.2.1, h1.2.2.2.1, fun _ => h1.2.2.2.2 hul⟩
    · rw [zUp_ne _ _ q, layF_ne (w2 := 1) (by decide) (by decide) (Or.inl q)]
      exact h1
  unfold stS at e
  rw [hm, hst.2.2.1] at e
  split at e
  · next q =>
    subst q
    refine ⟨by rw [e]; exact ((zFr.rf _ _).set (by decide) _ _).set (by decide) _ _, ?_⟩
    rw [e]
    refine StF.of_lay hS hu.1 (by decide) (fun y y0 y1 => ?_) fields
    show zUp (g 7) (ofF r u 2) (-1) y = _
    by_cases q : y = ofF r u 2
    · rw [q, zUp_same]
      refine (uoN_no (uo_none hB1 (fun z z0 z1 hz => ?_))).symm
      rw [e192] at z1
      rw [o2] at hz
      by_cases q3 : z = u
      · rw [q3, layF_same] at hz
        exact absurd hz.1 (by decide)
      · rw [layF_ne (w2 := 1) (by decide) (by decide) (Or.inl q3)] at hz
        exact q3 (hA.2.1 z u z0 z1 hu.1 hu.2 hz.1 hul hz.2)
    · rw [zUp_ne _ _ q, (hS.1 y y0 y1).2.2.2]
      refine (uoN_eq (uo_cong e192 (fun z z0 z1 => ?_))).symm
      rw [o2]
      by_cases q3 : z = u
      · rw [q3]
        exact ⟨fun hz => absurd hz.2.symm q, fun hz => absurd hz.2.symm q⟩
      · rw [layF_ne (w2 := 1) (by decide) (by decide) (Or.inl q3)]
  · next q =>
    refine ⟨by rw [e]; exact (zFr.rf _ _).set (by decide) _ _, ?_⟩
    rw [e]
    refine StF.of_lay hS hu.1 (by decide) (fun y y0 y1 => ?_) fields
    show g 7 y = _
    rw [(hS.1 y y0 y1).2.2.2]
    refine (uoN_eq (uo_cong e192 (fun z z0 z1 => ?_))).symm
    rw [o2]
    by_cases q3 : z = u
    · rw [q3, layF_same]
      exact ⟨fun hz => ⟨hul, hz.2⟩, fun hz => ⟨by omega, hz.2⟩⟩
    · rw [layF_ne (w2 := 1) (by decide) (by decide) (Or.inl q3)]
theorem c_X4_isUnitR (g : ZH) {u N : Int} (hN : g 3 6 = N) (hN2 : 0 ≤ N ∧ N ≤ 16) (hu : 0 ≤ u ∧ u < 16) (hR : zR (g 10 u)) : ZC 0 mX4_isUnit [.inr 3, .inl u] g (fun v g' => v = zB (decide (u < N ∧ 0 < g 10 u)) ∧ g' = g) := by
  refine ZC.of (by decide +kernel) (Nat.le_of_ble_eq_true rfl) ?_
  have no : ¬ (u < N ∧ 0 < g 10 u) → ZW 0 mX4_isUnit 31 [some (.inr 3), some (.inl u)] [] g (fun v g' => v = zB (decide (u < N ∧ 0 < g 10 u)) ∧ g' = g) := by
    intro hno
    refine ZW.iconst dX4_isUnit_31 ?_
    refine ZW.iretz dX4_isUnit_32 rfl (by first | exact Or.inl rfl | exact Or.inr rfl | assumption | omega) ?_
    exact ⟨by rw [decide_eq_false hno]; rfl, rfl⟩
  refine ZW.iload_n dX4_isUnit_0 rfl ?_
  refine ZW.if_lt (tgt := 31) dX4_isUnit_1 (by decide) (by first | omega | exact zB_R _) (fun c1 => ?_) (fun c1 => ?_)
  · exact no (by omega)
  · refine ZW.iload_n dX4_isUnit_4 rfl ?_
    refine ZW.aload_n dX4_isUnit_5 rfl ?_
    refine ZW.getI (fz := 6) dX4_isUnit_6 fl_X4_61 ⟨_, rfl, rfl⟩ rfl rfl ?_
    rw [hN]
    refine ZW.icmp_ge (tgt := 31) dX4_isUnit_9 (by decide) (by first | omega | exact zB_R _) (by first | omega | exact zB_R _) (fun c9 => ?_) (fun c9 => ?_)
    · exact no (by omega)
    · refine ZW.iload_n dX4_isUnit_12 rfl ?_
      refine ZW.bipush dX4_isUnit_13 rfl ?_
      refine ZW.icmp_ge (tgt := 31) dX4_isUnit_15 (by decide) (by first | omega | exact zB_R _) (by first | omega | exact zB_R _) (fun c15 => ?_) (fun c15 => ?_)
      · exact absurd c15 (by omega)
      · refine ZW.aload_n dX4_isUnit_18 rfl ?_
        refine ZW.getR dX4_isUnit_19 fl_X4_30 ⟨_, rfl, rfl⟩ ?_
        refine ZW.iload_n dX4_isUnit_22 rfl ?_
        refine ZW.iald dX4_isUnit_23 rfl (by decide) (by omega) rfl ?_
        refine ZW.if_le (tgt := 31) dX4_isUnit_24 (by decide) (by first | omega | exact zB_R _) (fun c24 => ?_) (fun c24 => ?_)
        · exact no (by omega)
        · refine ZW.iconst dX4_isUnit_27 ?_
          refine ZW.goto (tgt := 32) dX4_isUnit_28 (by decide) ?_
          refine ZW.iretz dX4_isUnit_32 rfl (by first | exact Or.inl rfl | exact Or.inr rfl | assumption | omega) ?_
          exact ⟨by rw [decide_eq_true ⟨by omega, by omega⟩]; rfl, rfl⟩
theorem c_X4_isUnitOfR (g : ZH) {u N side : Int} (hN : g 3 6 = N) (hN2 : 0 ≤ N ∧ N ≤ 16) (hu : 0 ≤ u ∧ u < N) (hR : zR (g 10 u)) (hR2 : zR (g 9 u)) (hs : zR side) : ZC 1 mX4_isUnitOf [.inr 3, .inl u, .inl side] g (fun v g' => v = zB (decide (0 < g 10 u ∧ g 9 u = side)) ∧ g' = g) := by
  refine ZC.of (by decide +kernel) (Nat.le_of_ble_eq_true rfl) ?_
  refine ZW.aload_n dX4_isUnitOf_0 rfl ?_
  refine ZW.iload_n dX4_isUnitOf_1 rfl ?_
  refine ZW.callV (as := [_]) dX4_isUnitOf_2 cv_X4_68 ⟨_, rfl⟩ rfl (by decide) (Nat.le_of_ble_eq_true rfl) rfl (c_X4_isUnitR _ hN hN2 (by omega) hR) (fun v1 g1 ⟨q1, q2⟩ => ?_)
  subst q1; subst q2
  refine ZW.if_eq (tgt := 22) dX4_isUnitOf_5 (by decide) (by first | omega | exact zB_R _) (fun c5 => ?_) (fun c5 => ?_)
  · have e := of_decide_eq_false (zB_eq c5)
    refine ZW.iconst dX4_isUnitOf_22 ?_
    refine ZW.iretz dX4_isUnitOf_23 rfl (by first | exact Or.inl rfl | exact Or.inr rfl | assumption | omega) ?_
    exact ⟨by rw [decide_eq_false (by omega)]; rfl, rfl⟩
  · have e := of_decide_eq_true (zB_ne c5)
    refine ZW.aload_n dX4_isUnitOf_8 rfl ?_
    refine ZW.getR dX4_isUnitOf_9 fl_X4_27 ⟨_, rfl, rfl⟩ ?_
    refine ZW.iload_n dX4_isUnitOf_12 rfl ?_
    refine ZW.iald dX4_isUnitOf_13 rfl (by decide) (by omega) rfl ?_
    refine ZW.iload_n dX4_isUnitOf_14 rfl ?_
    refine ZW.icmp_ne (tgt := 22) dX4_isUnitOf_15 (by decide) (by first | omega | exact zB_R _) (by first | omega | exact zB_R _) (fun c15 => ?_) (fun c15 => ?_)
    · refine ZW.iconst dX4_isUnitOf_22 ?_
      refine ZW.iretz dX4_isUnitOf_23 rfl (by first | exact Or.inl rfl | exact Or.inr rfl | assumption | omega) ?_
      exact ⟨by rw [decide_eq_false (fun q => c15 q.2)]; rfl, rfl⟩
    · refine ZW.iconst dX4_isUnitOf_18 ?_
      refine ZW.goto (tgt := 23) dX4_isUnitOf_19 (by decide) ?_
      refine ZW.iretz dX4_isUnitOf_23 rfl (by first | exact Or.inl rfl | exact Or.inr rfl | assumption | omega) ?_
      exact ⟨by rw [decide_eq_true ⟨e.2, c15⟩]; rfl, rfl⟩
theorem c_X4_refreshR (g : ZH) {N side : Int} (hN : g 3 6 = N) (hN2 : 0 ≤ N ∧ N ≤ 16) (hs : zR side) (hR : ∀ z, 0 ≤ z → z < N → zR (g 10 z) ∧ zR (g 9 z)) : ZC 2 mX4_refresh [.inr 3, .inl side] g (fun _ g' => zFr [12, 13] g g' ∧ ∀ z, 0 ≤ z → z < N → g' 12 z = (if 0 < g 10 z ∧ g 9 z = side then 4 else g 12 z) ∧ g' 13 z = (if 0 < g 10 z ∧ g 9 z = side then 1 else g 13 z)) := by
  refine ZC.of (by decide +kernel) (Nat.le_of_ble_eq_true rfl) ?_
  have loop : ∀ (n : Nat) (k : Int) (g1 : ZH), 0 ≤ k → k + n = N → zFr [12, 13] g g1 → (∀ z, 0 ≤ z → z < k → g1 12 z = (if 0 < g 10 z ∧ g 9 z = side then 4 else g 12 z) ∧ g1 13 z = (if 0 < g 10 z ∧ g 9 z = side then 1 else g 13 z)) → (∀ z, k ≤ z → z < N → g1 12 z = g 12 z ∧ g1 13 z = g 13 z) → ZW 2 mX4_refresh 2 [some (.inr 3), some (.inl side), some (.inl k)] [] g1 (fun _ g' => zFr [12, 13] g g' ∧ ∀ z, 0 ≤ z → z < N → g' 12 z = (if 0 < g 10 z ∧ g 9 z = side then 4 else g 12 z) ∧ g' 13 z = (if 0 < g 10 z ∧ g 9 z = side then 1 else g 13 z)) := by
    intro n
    induction n with
    | zero =>
      intro k g1 h0 hn hf hz hz2
      have e3 : g1 3 6 = N := by rw [hf 3 (by decide)]; exact hN
      refine ZW.iload_n dX4_refresh_2 rfl ?_
      refine ZW.aload_n dX4_refresh_3 rfl ?_
      refine ZW.getI (fz := 6) dX4_refresh_4 fl_X4_61 ⟨_, rfl, rfl⟩ rfl rfl ?_
      rw [e3]
      refine ZW.icmp_ge (tgt := 39) dX4_refresh_7 (by decide) (by first | omega | exact zB_R _) (by first | omega | exact zB_R _) (fun c7 => ?_) (fun c7 => ?_)
      · refine ZW.vret dX4_refresh_39 rfl ?_
        exact ⟨hf, fun z z0 z1 => hz z z0 (by omega)⟩
      · exact absurd c7 (by omega)
    | succ n ih =>
      intro k g1 h0 hn hf hz hz2
      have e3 : g1 3 6 = N := by rw [hf 3 (by decide)]; exact hN
      have e9 : g1 9 = g 9 := hf 9 (by decide)
      have e10 : g1 10 = g 10 := hf 10 (by decide)
      have hRk := hR k h0 (by omega)
      refine ZW.iload_n dX4_refresh_2 rfl ?_
      refine ZW.aload_n dX4_refresh_3 rfl ?_
      refine ZW.getI (fz := 6) dX4_refresh_4 fl_X4_61 ⟨_, rfl, rfl⟩ rfl rfl ?_
      rw [e3]
      refine ZW.icmp_ge (tgt := 39) dX4_refresh_7 (by decide) (by first | omega | exact zB_R _) (by first | omega | exact zB_R _) (fun c7 => ?_) (fun c7 => ?_)
      · exact absurd c7 (by omega)
      · refine ZW.aload_n dX4_refresh_10 rfl ?_
        refine ZW.iload_n dX4_refresh_11 rfl ?_
        refine ZW.iload_n dX4_refresh_12 rfl ?_
        refine ZW.callV (as := [_, _]) dX4_refresh_13 cv_X4_93 ⟨_, rfl⟩ rfl (by decide) (Nat.le_of_ble_eq_true rfl) rfl (c_X4_isUnitOfR _ e3 hN2 (by omega) (by rw [e10]; exact hRk.1) (by rw [e9]; exact hRk.2) hs) (fun v1 g2 ⟨q1, q2⟩ => ?_)
        subst q1; subst q2
        rw [e9, e10]
        refine ZW.if_eq (tgt := 33) dX4_refresh_16 (by decide) (by first | omega | exact zB_R _) (fun c16 => ?_) (fun c16 => ?_)
        · have e := of_decide_eq_false (zB_eq c16)
          refine ZW.iinc dX4_refresh_33 rfl (by decide) rfl ?_
          refine ZW.goto (tgt := 2) dX4_refresh_36 (by decide) ?_
          refine ih (k + 1) _ (by omega) (by omega) hf (fun z z0 z1 => ?_) (fun z z0 z1 => hz2 z (by omega) z1)
          by_cases q : z = k
          · subst q
            rw [if_neg e, if_neg e]
            exact hz2 z (by omega) (by omega)
          · exact hz z z0 (by omega)
        · have e := of_decide_eq_true (zB_ne c16)
          refine ZW.aload_n dX4_refresh_19 rfl ?_
          refine ZW.getR dX4_refresh_20 fl_X4_36 ⟨_, rfl, rfl⟩ ?_
          refine ZW.iload_n dX4_refresh_23 rfl ?_
          refine ZW.iconst dX4_refresh_24 ?_
          refine ZW.iast dX4_refresh_25 rfl (by decide) (by omega) ?_
          refine ZW.aload_n dX4_refresh_26 rfl ?_
          refine ZW.getR dX4_refresh_27 fl_X4_39 ⟨_, rfl, rfl⟩ ?_
          refine ZW.iload_n dX4_refresh_30 rfl ?_
          refine ZW.iconst dX4_refresh_31 ?_
          refine ZW.iast dX4_refresh_32 rfl (by decide) (by omega) ?_
          refine ZW.iinc dX4_refresh_33 rfl (by decide) rfl ?_
          refine ZW.goto (tgt := 2) dX4_refresh_36 (by decide) ?_
          refine ih (k + 1) _ (by omega) (by omega) ((hf.set (by decide) _ _).set (by decide) _ _) (fun z z0 z1 => ?_) (fun z z0 z1 => ?_)
          · show zUp (g2 12) k 4 z = _ ∧ zUp (g2 13) k 1 z = _
            by_cases q : z = k
            · subst q
              rw [zUp_same, zUp_same, if_pos e, if_pos e]
              exact ⟨rfl, rfl⟩
            · rw [zUp_ne _ _ q, zUp_ne _ _ q]
              exact hz z z0 (by omega)
          · show zUp (g2 12) k 4 z = _ ∧ zUp (g2 13) k 1 z = _
            rw [zUp_ne _ _ (by omega), zUp_ne _ _ (by omega)]
            exact hz2 z (by omega) z1
  refine ZW.iconst dX4_refresh_0 ?_
  refine ZW.istore_n dX4_refresh_1 (by decide) rfl ?_
  exact loop N.toNat 0 g (by omega) (by omega) (zFr.rf _ _) (fun z z0 z1 => by omega) (fun z _ _ => ⟨rfl, rfl⟩)
