-- the class's acts, and what is recorded
theorem okX_moves {r : Int → Int} (h : okX r) {u x : Int} (hm : refMF r u x = 0) : okX (movesF r u x) := by
  obtain ⟨h1, h2, h3, h4, h5, h6⟩ := refMF_0 hm
  have hu := isUnitB_t h.1.1.1 h1
  have hx := isHexB_t h2
  refine ⟨okA_moves h.1 hm, fun z z0 z1 => ?_⟩
  unfold movesF
  rw [standsF_of hu.1 hx.2 z0 (by decide) (Or.inr (by decide)), layF_ne (by decide) (by decide) (Or.inr (by decide))]
  exact h.2 z z0 z1
theorem okX_fights {r : Int → Int} (h : okX r) {u x : Int} (hm : refAF r u x = 0) : okX (fightsF r u x) := by
  obtain ⟨h1, h2, h3, h4, h5⟩ := refAF_0 hm
  have hu := isUnitB_t h.1.1.1 h1
  have hx := isHexB_t h2
  have o : ∀ z, 0 ≤ z → z < 16 → ofF (layF r u 4 0) z 4 ≤ 1 := fun z z0 z1 => by
    by_cases q : z = u
    · rw [q, layF_same]; decide
    · rw [layF_ne (by decide) (by decide) (Or.inl q)]; exact h.2 z z0 z1
  refine ⟨okA_fights h.1 ⟨hu.1, hu.2.2.1⟩ hu.2.2.2 hx h5, fun z z0 z1 => ?_⟩
  unfold fightsF
  split
  · split
    · rw [standsF_of hu.1 hx.2 z0 (by decide) (Or.inr (by decide)), layF_ne (by decide) (by decide) (Or.inr (by decide))]
      exact o z z0 z1
    · rw [layF_ne (by decide) (by decide) (Or.inr (by decide))]
      exact o z z0 z1
  · rw [layF_ne (by decide) (by decide) (Or.inr (by decide))]
    exact o z z0 z1
theorem okX_ends {r : Int → Int} (h : okX r) (h9 : r 191 ≠ 999) : okX (endsF r) := by
  refine ⟨okA_ends h.1 h9, fun z z0 z1 => ?_⟩
  have h1 := h.2 z z0 z1
  have h2 := endsG_at (r := r) (k := r 192) (u := z) (w := 4) z0 (by decide)
  have h3 : ofF (endsF r) z 4 = ofF (endsG r (r 192)) z 4 := zUp_ne _ _ (by omega)
  rw [h3, h2]
  unfold eN
  (repeat' split) <;> omega
/-- what the class's acts leave -/
def cA (g g' : ZH) : Prop := (∀ k, (k < 3 ∨ (27 ≤ k ∧ k < 39) ∨ k = 90 ∨ 100 ≤ k) → g' k = g k) ∧ g' 89 1 = g 89 1
theorem cA.rf (g : ZH) : cA g g := ⟨fun _ _ => rfl, rfl⟩
theorem cA.tr {g g1 g2 : ZH} (h : cA g g1) (h2 : cA g1 g2) : cA g g2 := ⟨fun k hk => (h2.1 k hk).trans (h.1 k hk), h2.2.trans h.2⟩
theorem cA.of {g g1 : ZH} (h : ∀ k, (k < 3 ∨ (27 ≤ k ∧ k < 39) ∨ k = 89 ∨ k = 90 ∨ 100 ≤ k) → g1 k = g k) : cA g g1 := ⟨fun k hk => h k (by omega), by rw [h 89 (by decide)]⟩
theorem cA.A {g g1 : ZH} (h : frA g g1) : cA g g1 := cA.of (fun k hk => h k (by omega))
def cDo (g' : ZH) (r : Int → Int) (n : Int) (H : Int → Int → Int) (V : Int) (F : Int → Int) : Prop := (V < 0 → StN g' r ∧ HisN g' n H) ∧ (0 ≤ V → StN g' F ∧ HisN g' (minF (n + 1) 4) (psH r H))
theorem c_X7_recordedIfDone (g : ZH) {r : Int → Int} {n v : Int} {H : Int → Int → Int} (hv : zR v) (hX : okX r) (h15 : StAt g 15 r) (hH : HisN g n H) : ZC 4 mX7_recordedIfDone [.inr 0, .inl v] g (fun w g' => w = v ∧ (v < 0 → g' = g) ∧ (0 ≤ v → (∀ k, k < 39 ∨ 88 ≤ k → g' k = g k) ∧ HisN g' (minF (n + 1) 4) (psH r H))) := by
  refine ZC.of (by decide +kernel) (Nat.le_of_ble_eq_true rfl) ?_
  refine ZW.iload_n dX7_recordedIfDone_0 rfl ?_
  refine ZW.if_lt (tgt := 15) dX7_recordedIfDone_1 (by decide) (by first | omega | exact zB_R _) (fun c1 => ?_) (fun c1 => ?_)
  · refine ZW.iload_n dX7_recordedIfDone_15 rfl ?_
    refine ZW.ireti dX7_recordedIfDone_16 rfl ?_
    exact ⟨rfl, fun _ => rfl, fun q => by omega⟩
  · refine ZW.aload_n dX7_recordedIfDone_4 rfl ?_
    refine ZW.getR dX7_recordedIfDone_5 fl_X7_34 ⟨_, rfl, rfl⟩ ?_
    refine ZW.aload_n dX7_recordedIfDone_8 rfl ?_
    refine ZW.getR dX7_recordedIfDone_9 fl_X7_25 ⟨_, rfl, rfl⟩ ?_
    refine ZW.callVv (as := [_]) dX7_recordedIfDone_12 cv_X7_76 ⟨_, rfl⟩ rfl (by decide) (Nat.le_of_ble_eq_true rfl) rfl (fun _ _ hz _ => hz) (c_X2_record_15 _ hX h15 hH) (fun g1 q1 => ?_)
    refine ZW.iload_n dX7_recordedIfDone_15 rfl ?_
    refine ZW.ireti dX7_recordedIfDone_16 rfl ?_
    exact ⟨rfl, fun q => by omega, fun _ => q1⟩
theorem frA.his {g g1 : ZH} {n : Int} {H : Int → Int → Int} (h : frA g g1) (hH : HisN g n H) : HisN g1 n H := hH.fr (fun k k0 k1 => h k (by omega))
theorem frA.past {g g1 : ZH} {r : Int → Int} (h : frA g g1) (hS : StAt g 15 r) : StAt g1 15 r := hS.fr (fun k k0 k1 => h k (by omega))
/-- now is put aside into past -/
theorem put_past {g g1 : ZH} {r : Int → Int} {n : Int} {H : Int → Int → Int} (hS : StN g r) (hb : BdN g) (hH : HisN g n H) (f : zFr [15, 16, 17, 18, 19, 20, 21, 22, 23, 24, 25, 26] g g1) : StN g1 r ∧ BdN g1 ∧ HisN g1 n H ∧ cA g g1 := by
  refine ⟨hS.fr f (by decide), hb.fr f (by decide), hH.fr (fun k k0 k1 => f k (by simp; omega)), cA.of (fun k hk => f k (by simp; omega))⟩
/-- an act behind which the past is recorded -/
theorem act_end {g g1 g2 g3 : ZH} {r F : Int → Int} {n V w : Int} {H : Int → Int → Int} (h01 : cA g g1) (h12 : frA g1 g2) (hH1 : HisN g1 n H) (hF : 0 ≤ V → StN g2 F) (hN : V < 0 → StN g2 r) (h : w = V ∧ (V < 0 → g3 = g2) ∧ (0 ≤ V → (∀ k, k < 39 ∨ 88 ≤ k → g3 k = g2 k) ∧ HisN g3 (minF (n + 1) 4) (psH r H))) : w = V ∧ cA g g3 ∧ cDo g3 r n H V F := by
  refine ⟨h.1, ?_, fun q => ?_, fun q => ⟨?_, (h.2.2 q).2⟩⟩
  · refine h01.tr ((cA.A h12).tr ?_)
    by_cases q : V < 0
    · rw [h.2.1 q]; exact cA.rf _
    · have h3 := (h.2.2 (by omega)).1
      exact cA.of (fun k hk => h3 k (by omega))
  · rw [h.2.1 q]
    exact ⟨hN q, h12.his hH1⟩
  · have h3 := (h.2.2 q).1
    exact StAt.fr (b := 3) (hF q) (fun k k0 k1 => h3 k (by omega))
theorem c_X7_move (g : ZH) {r : Int → Int} {n : Int} {H : Int → Int → Int} (hX : okX r) (hS : StN g r) (hb : BdN g) (hH : HisN g n H) {u x : Int} (hu : zR u) (hx : zR x) : ZC 5 mX7_move [.inr 0, .inl u, .inl x] g (fun v g' => v = movV r u x ∧ cA g g' ∧ cDo g' r n H (movV r u x) (movesF r u x)) := by
  have h16 := hX.1.1.1.2
  have hM := refMF_R r u x
  have hV : -5 ≤ movV r u x ∧ movV r u x < 1000 ∧ (refMF r u x = 0 ↔ 0 ≤ movV r u x) := by
    unfold movV
    by_cases q : refMF r u x = 0
    · rw [if_pos q]
      obtain ⟨h1, h2, h3, h4, h5, h6⟩ := refMF_0 q
      have hu2 := isUnitB_t hX.1.1.1 h1
      have hw := wayF_R r u x
      have hP := ofF_R hX.1.1.1 (u := u) (w := 3) ⟨hu2.1, hu2.2.2.1⟩ (by decide)
      unfold movesR
      exact ⟨by omega, by omega, fun _ => by omega, fun _ => q⟩
    · rw [if_neg q]
      exact ⟨by omega, by omega, fun z => absurd z q, fun z => by omega⟩
  refine ZC.of (by decide +kernel) (Nat.le_of_ble_eq_true rfl) ?_
  refine ZW.aload_n dX7_move_0 rfl ?_
  refine ZW.getR dX7_move_1 fl_X7_25 ⟨_, rfl, rfl⟩ ?_
  refine ZW.aload_n dX7_move_4 rfl ?_
  refine ZW.getR dX7_move_5 fl_X7_21 ⟨_, rfl, rfl⟩ ?_
  refine ZW.callVv (as := [_]) dX7_move_8 cv_X7_131 ⟨_, rfl⟩ rfl (by decide) (Nat.le_of_ble_eq_true rfl) rfl (fun _ _ hz _ => hz) (c_X4_copyFrom_15_3 _ h16 hS) (fun g1 ⟨f1, P1⟩ => ?_)
  obtain ⟨S1, b1, H1, A1⟩ := put_past hS hb hH f1
  refine ZW.aload_n dX7_move_11 rfl ?_
  refine ZW.aload_n dX7_move_12 rfl ?_
  refine ZW.iload_n dX7_move_13 rfl ?_
  refine ZW.iload_n dX7_move_14 rfl ?_
  refine ZW.callV (as := [_, _]) dX7_move_15 cv_X7_134 ⟨_, rfl⟩ rfl (by decide) (Nat.le_of_ble_eq_true rfl) rfl (c_X7_moveUnit _ hX.1 S1 b1 hu hx) (fun v2 g2 ⟨q1, F2, y2, n2⟩ => ?_)
  subst q1
  refine ZW.callV (as := [_]) dX7_move_18 cv_X7_138 ⟨_, rfl⟩ rfl (by decide) (Nat.le_of_ble_eq_true rfl) rfl (c_X7_recordedIfDone _ (by omega) hX (F2.past P1) (F2.his H1)) (fun v3 g3 h3 => ?_)
  refine ZW.ireti dX7_move_21 rfl ?_
  exact act_end A1 F2 H1 (fun q => y2 (hV.2.2.mpr q)) (fun q => n2 (fun z => by have := hV.2.2.mp z; omega)) h3
theorem c_X7_attack (g : ZH) {r : Int → Int} {n : Int} {H : Int → Int → Int} (hX : okX r) (hS : StN g r) (hb : BdN g) (hH : HisN g n H) {u x : Int} (hu : zR u) (hx : zR x) : ZC 6 mX7_attack [.inr 0, .inl u, .inl x] g (fun v g' => v = attV r u x ∧ cA g g' ∧ cDo g' r n H (attV r u x) (fightsF r u x)) := by
  have h16 := hX.1.1.1.2
  have hM := refAF_R r u x
  have hV : -5 ≤ attV r u x ∧ attV r u x < 1000 ∧ (refAF r u x = 0 ↔ 0 ≤ attV r u x) := by
    unfold attV
    by_cases q : refAF r u x = 0
    · rw [if_pos q]
      obtain ⟨h1, h2, h3, h4, h5⟩ := refAF_0 q
      obtain ⟨t1, t2, t3, t4, t5, t6, t7, t8, t9⟩ := canF_t hX.1.1.1 h5
      have hw1 := ofF_R hX.1.1.1 (u := unitOnF r x) (w := 1) ⟨t2, t4⟩ (by decide)
      have hR : 0 ≤ fightsR r u x ∧ fightsR r u x < 1000 := by
        unfold fightsR
        split
        · exact weakF_R hX.1.1.1 ⟨t2, t4⟩ (by omega)
        · omega
      exact ⟨by omega, by omega, fun _ => by omega, fun _ => q⟩
    · rw [if_neg q]
      exact ⟨by omega, by omega, fun z => absurd z q, fun z => by omega⟩
  refine ZC.of (by decide +kernel) (Nat.le_of_ble_eq_true rfl) ?_
  refine ZW.aload_n dX7_attack_0 rfl ?_
  refine ZW.getR dX7_attack_1 fl_X7_25 ⟨_, rfl, rfl⟩ ?_
  refine ZW.aload_n dX7_attack_4 rfl ?_
  refine ZW.getR dX7_attack_5 fl_X7_21 ⟨_, rfl, rfl⟩ ?_
  refine ZW.callVv (as := [_]) dX7_attack_8 cv_X7_131 ⟨_, rfl⟩ rfl (by decide) (Nat.le_of_ble_eq_true rfl) rfl (fun _ _ hz _ => hz) (c_X4_copyFrom_15_3 _ h16 hS) (fun g1 ⟨f1, P1⟩ => ?_)
  obtain ⟨S1, b1, H1, A1⟩ := put_past hS hb hH f1
  refine ZW.aload_n dX7_attack_11 rfl ?_
  refine ZW.aload_n dX7_attack_12 rfl ?_
  refine ZW.iload_n dX7_attack_13 rfl ?_
  refine ZW.iload_n dX7_attack_14 rfl ?_
  refine ZW.callV (as := [_, _]) dX7_attack_15 cv_X7_141 ⟨_, rfl⟩ rfl (by decide) (Nat.le_of_ble_eq_true rfl) rfl (c_X7_strike _ hX S1 b1 hu hx) (fun v2 g2 ⟨q1, F2, y2, n2⟩ => ?_)
  subst q1
  refine ZW.callV (as := [_]) dX7_attack_18 cv_X7_138 ⟨_, rfl⟩ rfl (by decide) (Nat.le_of_ble_eq_true rfl) rfl (c_X7_recordedIfDone _ (by omega) hX (F2.past P1) (F2.his H1)) (fun v3 g3 h3 => ?_)
  refine ZW.ireti dX7_attack_21 rfl ?_
  exact act_end A1 F2 H1 (fun q => y2 (hV.2.2.mpr q)) (fun q => n2 (fun z => by have := hV.2.2.mp z; omega)) h3
theorem endV_R {r : Int → Int} (hA : okA r) : -5 ≤ endV r ∧ endV r < 1000 ∧ (r 191 ≠ 999 ↔ 0 ≤ endV r) := by
  have h := goneF_R r (r 192).toNat 0
  have h16 := hA.1.1.2
  unfold endV
  by_cases q : r 191 = 999
  · rw [if_pos q]
    exact ⟨by decide, by decide, fun z => absurd q z, fun z => absurd z (by decide)⟩
  · rw [if_neg q]
    unfold endsR
    exact ⟨by omega, by omega, fun _ => h.1, fun _ => q⟩
theorem c_X7_endTurn (g : ZH) {r : Int → Int} {n : Int} {H : Int → Int → Int} (hX : okX r) (hS : StN g r) (hb : BdN g) (hH : HisN g n H) : ZC 6 mX7_endTurn [.inr 0] g (fun v g' => v = endV r ∧ cA g g' ∧ cDo g' r n H (endV r) (endsF r)) := by
  have h16 := hX.1.1.1.2
  have hV := endV_R hX.1
  refine ZC.of (by decide +kernel) (Nat.le_of_ble_eq_true rfl) ?_
  refine ZW.aload_n dX7_endTurn_0 rfl ?_
  refine ZW.getR dX7_endTurn_1 fl_X7_25 ⟨_, rfl, rfl⟩ ?_
  refine ZW.aload_n dX7_endTurn_4 rfl ?_
  refine ZW.getR dX7_endTurn_5 fl_X7_21 ⟨_, rfl, rfl⟩ ?_
  refine ZW.callVv (as := [_]) dX7_endTurn_8 cv_X7_131 ⟨_, rfl⟩ rfl (by decide) (Nat.le_of_ble_eq_true rfl) rfl (fun _ _ hz _ => hz) (c_X4_copyFrom_15_3 _ h16 hS) (fun g1 ⟨f1, P1⟩ => ?_)
  obtain ⟨S1, b1, H1, A1⟩ := put_past hS hb hH f1
  refine ZW.aload_n dX7_endTurn_11 rfl ?_
  refine ZW.aload_n dX7_endTurn_12 rfl ?_
  refine ZW.callV (as := []) dX7_endTurn_13 cv_X7_144 ⟨_, rfl⟩ rfl (by decide) (Nat.le_of_ble_eq_true rfl) rfl (c_X7_finishTurn _ hX.1 S1 b1) (fun v2 g2 ⟨q1, F2, y2, n2⟩ => ?_)
  subst q1
  refine ZW.callV (as := [_]) dX7_endTurn_16 cv_X7_138 ⟨_, rfl⟩ rfl (by decide) (Nat.le_of_ble_eq_true rfl) rfl (c_X7_recordedIfDone _ (by omega) hX (F2.past P1) (F2.his H1)) (fun v3 g3 h3 => ?_)
  refine ZW.ireti dX7_endTurn_19 rfl ?_
  exact act_end A1 F2 H1 (fun q => y2 (hV.2.2.mpr q)) (fun q => n2 (Classical.byContradiction (fun z => by have := hV.2.2.mp z; omega))) h3
