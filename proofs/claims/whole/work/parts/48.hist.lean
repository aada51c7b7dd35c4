-- the history of the class
def okX (r : Int → Int) : Prop := okA r ∧ ∀ u, 0 ≤ u → u < 16 → ofF r u 4 ≤ 1
/-- the cell of the State that was recorded k States ago -/
def hB (nx k : Int) : Nat := 39 + 12 * ((nx + 3 - k) % 4).toNat
def HisN (g : ZH) (n : Int) (H : Int → Int → Int) : Prop := (0 ≤ g 87 1 ∧ g 87 1 < 4) ∧ g 87 2 = n ∧ (0 ≤ n ∧ n ≤ 4) ∧ ∀ k, 0 ≤ k → k < n → okX (H k) ∧ StAt g (hB (g 87 1) k) (H k)
def psH (r : Int → Int) (H : Int → Int → Int) : Int → Int → Int := fun k => if k = 0 then r else H (k - 1)
theorem StAt.fr {g g' : ZH} {b : Nat} {r : Int → Int} (h : StAt g b r) (hf : ∀ k, b ≤ k → k < b + 12 → g' k = g k) : StAt g' b r := by
  unfold StAt
  rw [hf b (by omega) (by omega), hf (b + 1) (by omega) (by omega), hf (b + 2) (by omega) (by omega), hf (b + 3) (by omega) (by omega), hf (b + 4) (by omega) (by omega), hf (b + 5) (by omega) (by omega), hf (b + 6) (by omega) (by omega), hf (b + 7) (by omega) (by omega), hf (b + 8) (by omega) (by omega), hf (b + 9) (by omega) (by omega), hf (b + 10) (by omega) (by omega), hf (b + 11) (by omega) (by omega)]
  exact h
theorem HisN.fr {g g' : ZH} {n : Int} {H : Int → Int → Int} (h : HisN g n H) (hf : ∀ k, 39 ≤ k → k < 88 → g' k = g k) : HisN g' n H := by
  unfold HisN
  rw [hf 87 (by decide) (by decide)]
  refine ⟨h.1, h.2.1, h.2.2.1, fun k k0 k1 => ⟨(h.2.2.2 k k0 k1).1, ?_⟩⟩
  have h3 := h.2.2.1
  have h1 := h.1
  refine (h.2.2.2 k k0 k1).2.fr (fun i i0 i1 => hf i ?_ ?_) <;> unfold hB at i0 i1 <;> omega
def recN (g g' : ZH) (j : Nat) (n : Int) (r : Int → Int) : Prop := (∀ k, k ≠ 87 → (k < 39 + 12 * j ∨ 51 + 12 * j ≤ k) → g' k = g k) ∧ g' 87 1 = ((j : Int) + 1) % 4 ∧ g' 87 2 = minF (n + 1) 4 ∧ StAt g' (39 + 12 * j) r
theorem recN.his {g g' : ZH} {j : Nat} {n : Int} {r : Int → Int} {H : Int → Int → Int} (hH : HisN g n H) (hj : g 87 1 = (j : Int)) (hr : okX r) (h : recN g g' j n r) : HisN g' (minF (n + 1) 4) (psH r H) := by
  obtain ⟨h1, h2, h3, h4⟩ := h
  obtain ⟨a1, a2, a3, a4⟩ := hH
  have hm : 0 ≤ minF (n + 1) 4 ∧ minF (n + 1) 4 ≤ 4 ∧ minF (n + 1) 4 ≤ n + 1 := by unfold minF; split <;> omega
  refine ⟨by omega, h3, ⟨hm.1, hm.2.1⟩, fun k k0 k1 => ?_⟩
  unfold psH
  by_cases q : k = 0
  · subst q
    rw [if_pos rfl]
    have e : hB (g' 87 1) 0 = 39 + 12 * j := by unfold hB; omega
    rw [e]
    exact ⟨hr, h4⟩
  · rw [if_neg q]
    have e : hB (g' 87 1) k = hB (g 87 1) (k - 1) := by unfold hB; omega
    have h5 := a4 (k - 1) (by omega) (by omega)
    rw [e]
    refine ⟨h5.1, h5.2.fr (fun i i0 i1 => h1 i ?_ ?_)⟩ <;> unfold hB at i0 i1 <;> omega
theorem c_X2_record_3_0 (g : ZH) {n : Int} {r : Int → Int} (h16 : r 192 ≤ 16) (hS : StAt g 3 r) (hj : g 87 1 = 0) (hn : g 87 2 = n) (hn2 : 0 ≤ n ∧ n ≤ 4) : ZC 3 mX2_record [.inr 87, .inr 3] g (fun _ g' => recN g g' 0 n r) := by
  refine ZC.of (by decide +kernel) (Nat.le_of_ble_eq_true rfl) ?_
  refine ZW.aload_n dX2_record_0 rfl ?_
  refine ZW.getR dX2_record_1 fl_X2_11 ⟨_, rfl, rfl⟩ ?_
  refine ZW.aload_n dX2_record_4 rfl ?_
  refine ZW.getI (fz := 1) dX2_record_5 fl_X2_18 ⟨_, rfl, rfl⟩ rfl rfl ?_
  rw [hj]
  refine ZW.aald dX2_record_8 rfl (by decide) (by decide) rfl ?_
  refine ZW.aload_n dX2_record_9 rfl ?_
  refine ZW.callVv (as := [_]) dX2_record_10 cv_X2_22 ⟨_, rfl⟩ rfl (by decide) (Nat.le_of_ble_eq_true rfl) rfl (fun _ _ hz _ => hz) (c_X4_copyFrom_39_3 _ h16 hS) (fun g1 ⟨f1, s1⟩ => ?_)
  have e1 : g1 87 = g 87 := f1 87 (by decide)
  refine ZW.aload_n dX2_record_13 rfl ?_
  refine ZW.aload_n dX2_record_14 rfl ?_
  refine ZW.getI (fz := 1) dX2_record_15 fl_X2_18 ⟨_, rfl, rfl⟩ rfl rfl ?_
  rw [e1, hj]
  refine ZW.iconst dX2_record_18 ?_
  refine ZW.iadd dX2_record_19 ?_
  refine ZW.iconst dX2_record_20 ?_
  refine ZW.irem dX2_record_21 (by omega) ?_
  refine ZW.puti (fz := 1) dX2_record_22 fp_X2_18 ⟨_, rfl, rfl⟩ rfl ?_
  refine ZW.aload_n dX2_record_25 rfl ?_
  refine ZW.aload_n dX2_record_26 rfl ?_
  refine ZW.getI (fz := 2) dX2_record_27 fl_X2_26 ⟨_, rfl, rfl⟩ rfl rfl ?_
  rw [zSet_same, zUp_ne _ _ (by decide), e1, hn]
  refine ZW.iconst dX2_record_30 ?_
  refine ZW.iadd dX2_record_31 ?_
  refine ZW.iconst dX2_record_32 ?_
  refine ZW.mmin dX2_record_33 (mmW_2 51 rfl rfl) (mmW_2 52 rfl rfl) (mmW_1 12 rfl rfl) (mmW_2 53 rfl rfl) (by decide) (Nat.le_of_ble_eq_true rfl) (by omega) (by omega) ?_
  refine ZW.puti (fz := 2) dX2_record_36 fp_X2_26 ⟨_, rfl, rfl⟩ rfl ?_
  refine ZW.vret dX2_record_39 rfl ?_
  refine ⟨fun k hk hk2 => ?_, ?_, ?_, ?_⟩
  · rw [zSet_ne _ _ _ hk, zSet_ne _ _ _ hk]
    exact f1 k (by simp; omega)
  · rw [zSet_same, zUp_ne _ _ (by decide), zSet_same, zUp_same]; rfl
  · rw [zSet_same, zUp_same]
  · exact s1
theorem c_X2_record_3_1 (g : ZH) {n : Int} {r : Int → Int} (h16 : r 192 ≤ 16) (hS : StAt g 3 r) (hj : g 87 1 = 1) (hn : g 87 2 = n) (hn2 : 0 ≤ n ∧ n ≤ 4) : ZC 3 mX2_record [.inr 87, .inr 3] g (fun _ g' => recN g g' 1 n r) := by
  refine ZC.of (by decide +kernel) (Nat.le_of_ble_eq_true rfl) ?_
  refine ZW.aload_n dX2_record_0 rfl ?_
  refine ZW.getR dX2_record_1 fl_X2_11 ⟨_, rfl, rfl⟩ ?_
  refine ZW.aload_n dX2_record_4 rfl ?_
  refine ZW.getI (fz := 1) dX2_record_5 fl_X2_18 ⟨_, rfl, rfl⟩ rfl rfl ?_
  rw [hj]
  refine ZW.aald dX2_record_8 rfl (by decide) (by decide) rfl ?_
  refine ZW.aload_n dX2_record_9 rfl ?_
  refine ZW.callVv (as := [_]) dX2_record_10 cv_X2_22 ⟨_, rfl⟩ rfl (by decide) (Nat.le_of_ble_eq_true rfl) rfl (fun _ _ hz _ => hz) (c_X4_copyFrom_51_3 _ h16 hS) (fun g1 ⟨f1, s1⟩ => ?_)
  have e1 : g1 87 = g 87 := f1 87 (by decide)
  refine ZW.aload_n dX2_record_13 rfl ?_
  refine ZW.aload_n dX2_record_14 rfl ?_
  refine ZW.getI (fz := 1) dX2_record_15 fl_X2_18 ⟨_, rfl, rfl⟩ rfl rfl ?_
  rw [e1, hj]
  refine ZW.iconst dX2_record_18 ?_
  refine ZW.iadd dX2_record_19 ?_
  refine ZW.iconst dX2_record_20 ?_
  refine ZW.irem dX2_record_21 (by omega) ?_
  refine ZW.puti (fz := 1) dX2_record_22 fp_X2_18 ⟨_, rfl, rfl⟩ rfl ?_
  refine ZW.aload_n dX2_record_25 rfl ?_
  refine ZW.aload_n dX2_record_26 rfl ?_
  refine ZW.getI (fz := 2) dX2_record_27 fl_X2_26 ⟨_, rfl, rfl⟩ rfl rfl ?_
  rw [zSet_same, zUp_ne _ _ (by decide), e1, hn]
  refine ZW.iconst dX2_record_30 ?_
  refine ZW.iadd dX2_record_31 ?_
  refine ZW.iconst dX2_record_32 ?_
  refine ZW.mmin dX2_record_33 (mmW_2 51 rfl rfl) (mmW_2 52 rfl rfl) (mmW_1 12 rfl rfl) (mmW_2 53 rfl rfl) (by decide) (Nat.le_of_ble_eq_true rfl) (by omega) (by omega) ?_
  refine ZW.puti (fz := 2) dX2_record_36 fp_X2_26 ⟨_, rfl, rfl⟩ rfl ?_
  refine ZW.vret dX2_record_39 rfl ?_
  refine ⟨fun k hk hk2 => ?_, ?_, ?_, ?_⟩
  · rw [zSet_ne _ _ _ hk, zSet_ne _ _ _ hk]
    exact f1 k (by simp; omega)
  · rw [zSet_same, zUp_ne _ _ (by decide), zSet_same, zUp_same]; rfl
  · rw [zSet_same, zUp_same]
  · exact s1
theorem c_X2_record_3_2 (g : ZH) {n : Int} {r : Int → Int} (h16 : r 192 ≤ 16) (hS : StAt g 3 r) (hj : g 87 1 = 2) (hn : g 87 2 = n) (hn2 : 0 ≤ n ∧ n ≤ 4) : ZC 3 mX2_record [.inr 87, .inr 3] g (fun _ g' => recN g g' 2 n r) := by
  refine ZC.of (by decide +kernel) (Nat.le_of_ble_eq_true rfl) ?_
  refine ZW.aload_n dX2_record_0 rfl ?_
  refine ZW.getR dX2_record_1 fl_X2_11 ⟨_, rfl, rfl⟩ ?_
  refine ZW.aload_n dX2_record_4 rfl ?_
  refine ZW.getI (fz := 1) dX2_record_5 fl_X2_18 ⟨_, rfl, rfl⟩ rfl rfl ?_
  rw [hj]
  refine ZW.aald dX2_record_8 rfl (by decide) (by decide) rfl ?_
  refine ZW.aload_n dX2_record_9 rfl ?_
  refine ZW.callVv (as := [_]) dX2_record_10 cv_X2_22 ⟨_, rfl⟩ rfl (by decide) (Nat.le_of_ble_eq_true rfl) rfl (fun _ _ hz _ => hz) (c_X4_copyFrom_63_3 _ h16 hS) (fun g1 ⟨f1, s1⟩ => ?_)
  have e1 : g1 87 = g 87 := f1 87 (by decide)
  refine ZW.aload_n dX2_record_13 rfl ?_
  refine ZW.aload_n dX2_record_14 rfl ?_
  refine ZW.getI (fz := 1) dX2_record_15 fl_X2_18 ⟨_, rfl, rfl⟩ rfl rfl ?_
  rw [e1, hj]
  refine ZW.iconst dX2_record_18 ?_
  refine ZW.iadd dX2_record_19 ?_
  refine ZW.iconst dX2_record_20 ?_
  refine ZW.irem dX2_record_21 (by omega) ?_
  refine ZW.puti (fz := 1) dX2_record_22 fp_X2_18 ⟨_, rfl, rfl⟩ rfl ?_
  refine ZW.aload_n dX2_record_25 rfl ?_
  refine ZW.aload_n dX2_record_26 rfl ?_
  refine ZW.getI (fz := 2) dX2_record_27 fl_X2_26 ⟨_, rfl, rfl⟩ rfl rfl ?_
  rw [zSet_same, zUp_ne _ _ (by decide), e1, hn]
  refine ZW.iconst dX2_record_30 ?_
  refine ZW.iadd dX2_record_31 ?_
  refine ZW.iconst dX2_record_32 ?_
  refine ZW.mmin dX2_record_33 (mmW_2 51 rfl rfl) (mmW_2 52 rfl rfl) (mmW_1 12 rfl rfl) (mmW_2 53 rfl rfl) (by decide) (Nat.le_of_ble_eq_true rfl) (by omega) (by omega) ?_
  refine ZW.puti (fz := 2) dX2_record_36 fp_X2_26 ⟨_, rfl, rfl⟩ rfl ?_
  refine ZW.vret dX2_record_39 rfl ?_
  refine ⟨fun k hk hk2 => ?_, ?_, ?_, ?_⟩
  · rw [zSet_ne _ _ _ hk, zSet_ne _ _ _ hk]
    exact f1 k (by simp; omega)
  · rw [zSet_same, zUp_ne _ _ (by decide), zSet_same, zUp_same]; rfl
  · rw [zSet_same, zUp_same]
  · exact s1
theorem c_X2_record_3_3 (g : ZH) {n : Int} {r : Int → Int} (h16 : r 192 ≤ 16) (hS : StAt g 3 r) (hj : g 87 1 = 3) (hn : g 87 2 = n) (hn2 : 0 ≤ n ∧ n ≤ 4) : ZC 3 mX2_record [.inr 87, .inr 3] g (fun _ g' => recN g g' 3 n r) := by
  refine ZC.of (by decide +kernel) (Nat.le_of_ble_eq_true rfl) ?_
  refine ZW.aload_n dX2_record_0 rfl ?_
  refine ZW.getR dX2_record_1 fl_X2_11 ⟨_, rfl, rfl⟩ ?_
  refine ZW.aload_n dX2_record_4 rfl ?_
  refine ZW.getI (fz := 1) dX2_record_5 fl_X2_18 ⟨_, rfl, rfl⟩ rfl rfl ?_
  rw [hj]
  refine ZW.aald dX2_record_8 rfl (by decide) (by decide) rfl ?_
  refine ZW.aload_n dX2_record_9 rfl ?_
  refine ZW.callVv (as := [_]) dX2_record_10 cv_X2_22 ⟨_, rfl⟩ rfl (by decide) (Nat.le_of_ble_eq_true rfl) rfl (fun _ _ hz _ => hz) (c_X4_copyFrom_75_3 _ h16 hS) (fun g1 ⟨f1, s1⟩ => ?_)
  have e1 : g1 87 = g 87 := f1 87 (by decide)
  refine ZW.aload_n dX2_record_13 rfl ?_
  refine ZW.aload_n dX2_record_14 rfl ?_
  refine ZW.getI (fz := 1) dX2_record_15 fl_X2_18 ⟨_, rfl, rfl⟩ rfl rfl ?_
  rw [e1, hj]
  refine ZW.iconst dX2_record_18 ?_
  refine ZW.iadd dX2_record_19 ?_
  refine ZW.iconst dX2_record_20 ?_
  refine ZW.irem dX2_record_21 (by omega) ?_
  refine ZW.puti (fz := 1) dX2_record_22 fp_X2_18 ⟨_, rfl, rfl⟩ rfl ?_
  refine ZW.aload_n dX2_record_25 rfl ?_
  refine ZW.aload_n dX2_record_26 rfl ?_
  refine ZW.getI (fz := 2) dX2_record_27 fl_X2_26 ⟨_, rfl, rfl⟩ rfl rfl ?_
  rw [zSet_same, zUp_ne _ _ (by decide), e1, hn]
  refine ZW.iconst dX2_record_30 ?_
  refine ZW.iadd dX2_record_31 ?_
  refine ZW.iconst dX2_record_32 ?_
  refine ZW.mmin dX2_record_33 (mmW_2 51 rfl rfl) (mmW_2 52 rfl rfl) (mmW_1 12 rfl rfl) (mmW_2 53 rfl rfl) (by decide) (Nat.le_of_ble_eq_true rfl) (by omega) (by omega) ?_
  refine ZW.puti (fz := 2) dX2_record_36 fp_X2_26 ⟨_, rfl, rfl⟩ rfl ?_
  refine ZW.vret dX2_record_39 rfl ?_
  refine ⟨fun k hk hk2 => ?_, ?_, ?_, ?_⟩
  · rw [zSet_ne _ _ _ hk, zSet_ne _ _ _ hk]
    exact f1 k (by simp; omega)
  · rw [zSet_same, zUp_ne _ _ (by decide), zSet_same, zUp_same]; rfl
  · rw [zSet_same, zUp_same]
  · exact s1
theorem c_X2_record_3 (g : ZH) {n : Int} {r : Int → Int} {H : Int → Int → Int} (hX : okX r) (hS : StAt g 3 r) (hH : HisN g n H) : ZC 3 mX2_record [.inr 87, .inr 3] g (fun _ g' => (∀ k, k < 39 ∨ 88 ≤ k → g' k = g k) ∧ HisN g' (minF (n + 1) 4) (psH r H)) := by
  have h1 := hH.1
  have h16 := hX.1.1.1.2
  rcases (show g 87 1 = 0 ∨ g 87 1 = 1 ∨ g 87 1 = 2 ∨ g 87 1 = 3 by omega) with q | q | q | q
  · exact ZC.mono (c_X2_record_3_0 g h16 hS q hH.2.1 hH.2.2.1) (fun _ g' h => ⟨fun k hk => h.1 k (by omega) (by omega), h.his hH q hX⟩)
  · exact ZC.mono (c_X2_record_3_1 g h16 hS q hH.2.1 hH.2.2.1) (fun _ g' h => ⟨fun k hk => h.1 k (by omega) (by omega), h.his hH q hX⟩)
  · exact ZC.mono (c_X2_record_3_2 g h16 hS q hH.2.1 hH.2.2.1) (fun _ g' h => ⟨fun k hk => h.1 k (by omega) (by omega), h.his hH q hX⟩)
  · exact ZC.mono (c_X2_record_3_3 g h16 hS q hH.2.1 hH.2.2.1) (fun _ g' h => ⟨fun k hk => h.1 k (by omega) (by omega), h.his hH q hX⟩)
theorem c_X2_record_15_0 (g : ZH) {n : Int} {r : Int → Int} (h16 : r 192 ≤ 16) (hS : StAt g 15 r) (hj : g 87 1 = 0) (hn : g 87 2 = n) (hn2 : 0 ≤ n ∧ n ≤ 4) : ZC 3 mX2_record [.inr 87, .inr 15] g (fun _ g' => recN g g' 0 n r) := by
  refine ZC.of (by decide +kernel) (Nat.le_of_ble_eq_true rfl) ?_
  refine ZW.aload_n dX2_record_0 rfl ?_
  refine ZW.getR dX2_record_1 fl_X2_11 ⟨_, rfl, rfl⟩ ?_
  refine ZW.aload_n dX2_record_4 rfl ?_
  refine ZW.getI (fz := 1) dX2_record_5 fl_X2_18 ⟨_, rfl, rfl⟩ rfl rfl ?_
  rw [hj]
  refine ZW.aald dX2_record_8 rfl (by decide) (by decide) rfl ?_
  refine ZW.aload_n dX2_record_9 rfl ?_
  refine ZW.callVv (as := [_]) dX2_record_10 cv_X2_22 ⟨_, rfl⟩ rfl (by decide) (Nat.le_of_ble_eq_true rfl) rfl (fun _ _ hz _ => hz) (c_X4_copyFrom_39_15 _ h16 hS) (fun g1 ⟨f1, s1⟩ => ?_)
  have e1 : g1 87 = g 87 := f1 87 (by decide)
  refine ZW.aload_n dX2_record_13 rfl ?_
  refine ZW.aload_n dX2_record_14 rfl ?_
  refine ZW.getI (fz := 1) dX2_record_15 fl_X2_18 ⟨_, rfl, rfl⟩ rfl rfl ?_
  rw [e1, hj]
  refine ZW.iconst dX2_record_18 ?_
  refine ZW.iadd dX2_record_19 ?_
  refine ZW.iconst dX2_record_20 ?_
  refine ZW.irem dX2_record_21 (by omega) ?_
  refine ZW.puti (fz := 1) dX2_record_22 fp_X2_18 ⟨_, rfl, rfl⟩ rfl ?_
  refine ZW.aload_n dX2_record_25 rfl ?_
  refine ZW.aload_n dX2_record_26 rfl ?_
  refine ZW.getI (fz := 2) dX2_record_27 fl_X2_26 ⟨_, rfl, rfl⟩ rfl rfl ?_
  rw [zSet_same, zUp_ne _ _ (by decide), e1, hn]
  refine ZW.iconst dX2_record_30 ?_
  refine ZW.iadd dX2_record_31 ?_
  refine ZW.iconst dX2_record_32 ?_
  refine ZW.mmin dX2_record_33 (mmW_2 51 rfl rfl) (mmW_2 52 rfl rfl) (mmW_1 12 rfl rfl) (mmW_2 53 rfl rfl) (by decide) (Nat.le_of_ble_eq_true rfl) (by omega) (by omega) ?_
  refine ZW.puti (fz := 2) dX2_record_36 fp_X2_26 ⟨_, rfl, rfl⟩ rfl ?_
  refine ZW.vret dX2_record_39 rfl ?_
  refine ⟨fun k hk hk2 => ?_, ?_, ?_, ?_⟩
  · rw [zSet_ne _ _ _ hk, zSet_ne _ _ _ hk]
    exact f1 k (by simp; omega)
  · rw [zSet_same, zUp_ne _ _ (by decide), zSet_same, zUp_same]; rfl
  · rw [zSet_same, zUp_same]
  · exact s1
theorem c_X2_record_15_1 (g : ZH) {n : Int} {r : Int → Int} (h16 : r 192 ≤ 16) (hS : StAt g 15 r) (hj : g 87 1 = 1) (hn : g 87 2 = n) (hn2 : 0 ≤ n ∧ n ≤ 4) : ZC 3 mX2_record [.inr 87, .inr 15] g (fun _ g' => recN g g' 1 n r) := by
  refine ZC.of (by decide +kernel) (Nat.le_of_ble_eq_true rfl) ?_
  refine ZW.aload_n dX2_record_0 rfl ?_
  refine ZW.getR dX2_record_1 fl_X2_11 ⟨_, rfl, rfl⟩ ?_
  refine ZW.aload_n dX2_record_4 rfl ?_
  refine ZW.getI (fz := 1) dX2_record_5 fl_X2_18 ⟨_, rfl, rfl⟩ rfl rfl ?_
  rw [hj]
  refine ZW.aald dX2_record_8 rfl (by decide) (by decide) rfl ?_
  refine ZW.aload_n dX2_record_9 rfl ?_
  refine ZW.callVv (as := [_]) dX2_record_10 cv_X2_22 ⟨_, rfl⟩ rfl (by decide) (Nat.le_of_ble_eq_true rfl) rfl (fun _ _ hz _ => hz) (c_X4_copyFrom_51_15 _ h16 hS) (fun g1 ⟨f1, s1⟩ => ?_)
  have e1 : g1 87 = g 87 := f1 87 (by decide)
  refine ZW.aload_n dX2_record_13 rfl ?_
  refine ZW.aload_n dX2_record_14 rfl ?_
  refine ZW.getI (fz := 1) dX2_record_15 fl_X2_18 ⟨_, rfl, rfl⟩ rfl rfl ?_
  rw [e1, hj]
  refine ZW.iconst dX2_record_18 ?_
  refine ZW.iadd dX2_record_19 ?_
  refine ZW.iconst dX2_record_20 ?_
  refine ZW.irem dX2_record_21 (by omega) ?_
  refine ZW.puti (fz := 1) dX2_record_22 fp_X2_18 ⟨_, rfl, rfl⟩ rfl ?_
  refine ZW.aload_n dX2_record_25 rfl ?_
  refine ZW.aload_n dX2_record_26 rfl ?_
  refine ZW.getI (fz := 2) dX2_record_27 fl_X2_26 ⟨_, rfl, rfl⟩ rfl rfl ?_
  rw [zSet_same, zUp_ne _ _ (by decide), e1, hn]
  refine ZW.iconst dX2_record_30 ?_
  refine ZW.iadd dX2_record_31 ?_
  refine ZW.iconst dX2_record_32 ?_
  refine ZW.mmin dX2_record_33 (mmW_2 51 rfl rfl) (mmW_2 52 rfl rfl) (mmW_1 12 rfl rfl) (mmW_2 53 rfl rfl) (by decide) (Nat.le_of_ble_eq_true rfl) (by omega) (by omega) ?_
  refine ZW.puti (fz := 2) dX2_record_36 fp_X2_26 ⟨_, rfl, rfl⟩ rfl ?_
  refine ZW.vret dX2_record_39 rfl ?_
  refine ⟨fun k hk hk2 => ?_, ?_, ?_, ?_⟩
  · rw [zSet_ne _ _ _ hk, zSet_ne _ _ _ hk]
    exact f1 k (by simp; omega)
  · rw [zSet_same, zUp_ne _ _ (by decide), zSet_same, zUp_same]; rfl
  · rw [zSet_same, zUp_same]
  · exact s1
theorem c_X2_record_15_2 (g : ZH) {n : Int} {r : Int → Int} (h16 : r 192 ≤ 16) (hS : StAt g 15 r) (hj : g 87 1 = 2) (hn : g 87 2 = n) (hn2 : 0 ≤ n ∧ n ≤ 4) : ZC 3 mX2_record [.inr 87, .inr 15] g (fun _ g' => recN g g' 2 n r) := by
  refine ZC.of (by decide +kernel) (Nat.le_of_ble_eq_true rfl) ?_
  refine ZW.aload_n dX2_record_0 rfl ?_
  refine ZW.getR dX2_record_1 fl_X2_11 ⟨_, rfl, rfl⟩ ?_
  refine ZW.aload_n dX2_record_4 rfl ?_
  refine ZW.getI (fz := 1) dX2_record_5 fl_X2_18 ⟨_, rfl, rfl⟩ rfl rfl ?_
  rw [hj]
  refine ZW.aald dX2_record_8 rfl (by decide) (by decide) rfl ?_
  refine ZW.aload_n dX2_record_9 rfl ?_
  refine ZW.callVv (as := [_]) dX2_record_10 cv_X2_22 ⟨_, rfl⟩ rfl (by decide) (Nat.le_of_ble_eq_true rfl) rfl (fun _ _ hz _ => hz) (c_X4_copyFrom_63_15 _ h16 hS) (fun g1 ⟨f1, s1⟩ => ?_)
  have e1 : g1 87 = g 87 := f1 87 (by decide)
  refine ZW.aload_n dX2_record_13 rfl ?_
  refine ZW.aload_n dX2_record_14 rfl ?_
  refine ZW.getI (fz := 1) dX2_record_15 fl_X2_18 ⟨_, rfl, rfl⟩ rfl rfl ?_
  rw [e1, hj]
  refine ZW.iconst dX2_record_18 ?_
  refine ZW.iadd dX2_record_19 ?_
  refine ZW.iconst dX2_record_20 ?_
  refine ZW.irem dX2_record_21 (by omega) ?_
  refine ZW.puti (fz := 1) dX2_record_22 fp_X2_18 ⟨_, rfl, rfl⟩ rfl ?_
  refine ZW.aload_n dX2_record_25 rfl ?_
  refine ZW.aload_n dX2_record_26 rfl ?_
  refine ZW.getI (fz := 2) dX2_record_27 fl_X2_26 ⟨_, rfl, rfl⟩ rfl rfl ?_
  rw [zSet_same, zUp_ne _ _ (by decide), e1, hn]
  refine ZW.iconst dX2_record_30 ?_
  refine ZW.iadd dX2_record_31 ?_
  refine ZW.iconst dX2_record_32 ?_
  refine ZW.mmin dX2_record_33 (mmW_2 51 rfl rfl) (mmW_2 52 rfl rfl) (mmW_1 12 rfl rfl) (mmW_2 53 rfl rfl) (by decide) (Nat.le_of_ble_eq_true rfl) (by omega) (by omega) ?_
  refine ZW.puti (fz := 2) dX2_record_36 fp_X2_26 ⟨_, rfl, rfl⟩ rfl ?_
  refine ZW.vret dX2_record_39 rfl ?_
  refine ⟨fun k hk hk2 => ?_, ?_, ?_, ?_⟩
  · rw [zSet_ne _ _ _ hk, zSet_ne _ _ _ hk]
    exact f1 k (by simp; omega)
  · rw [zSet_same, zUp_ne _ _ (by decide), zSet_same, zUp_same]; rfl
  · rw [zSet_same, zUp_same]
  · exact s1
theorem c_X2_record_15_3 (g : ZH) {n : Int} {r : Int → Int} (h16 : r 192 ≤ 16) (hS : StAt g 15 r) (hj : g 87 1 = 3) (hn : g 87 2 = n) (hn2 : 0 ≤ n ∧ n ≤ 4) : ZC 3 mX2_record [.inr 87, .inr 15] g (fun _ g' => recN g g' 3 n r) := by
  refine ZC.of (by decide +kernel) (Nat.le_of_ble_eq_true rfl) ?_
  refine ZW.aload_n dX2_record_0 rfl ?_
  refine ZW.getR dX2_record_1 fl_X2_11 ⟨_, rfl, rfl⟩ ?_
  refine ZW.aload_n dX2_record_4 rfl ?_
  refine ZW.getI (fz := 1) dX2_record_5 fl_X2_18 ⟨_, rfl, rfl⟩ rfl rfl ?_
  rw [hj]
  refine ZW.aald dX2_record_8 rfl (by decide) (by decide) rfl ?_
  refine ZW.aload_n dX2_record_9 rfl ?_
  refine ZW.callVv (as := [_]) dX2_record_10 cv_X2_22 ⟨_, rfl⟩ rfl (by decide) (Nat.le_of_ble_eq_true rfl) rfl (fun _ _ hz _ => hz) (c_X4_copyFrom_75_15 _ h16 hS) (fun g1 ⟨f1, s1⟩ => ?_)
  have e1 : g1 87 = g 87 := f1 87 (by decide)
  refine ZW.aload_n dX2_record_13 rfl ?_
  refine ZW.aload_n dX2_record_14 rfl ?_
  refine ZW.getI (fz := 1) dX2_record_15 fl_X2_18 ⟨_, rfl, rfl⟩ rfl rfl ?_
  rw [e1, hj]
  refine ZW.iconst dX2_record_18 ?_
  refine ZW.iadd dX2_record_19 ?_
  refine ZW.iconst dX2_record_20 ?_
  refine ZW.irem dX2_record_21 (by omega) ?_
  refine ZW.puti (fz := 1) dX2_record_22 fp_X2_18 ⟨_, rfl, rfl⟩ rfl ?_
  refine ZW.aload_n dX2_record_25 rfl ?_
  refine ZW.aload_n dX2_record_26 rfl ?_
  refine ZW.getI (fz := 2) dX2_record_27 fl_X2_26 ⟨_, rfl, rfl⟩ rfl rfl ?_
  rw [zSet_same, zUp_ne _ _ (by decide), e1, hn]
  refine ZW.iconst dX2_record_30 ?_
  refine ZW.iadd dX2_record_31 ?_
  refine ZW.iconst dX2_record_32 ?_
  refine ZW.mmin dX2_record_33 (mmW_2 51 rfl rfl) (mmW_2 52 rfl rfl) (mmW_1 12 rfl rfl) (mmW_2 53 rfl rfl) (by decide) (Nat.le_of_ble_eq_true rfl) (by omega) (by omega) ?_
  refine ZW.puti (fz := 2) dX2_record_36 fp_X2_26 ⟨_, rfl, rfl⟩ rfl ?_
  refine ZW.vret dX2_record_39 rfl ?_
  refine ⟨fun k hk hk2 => ?_, ?_, ?_, ?_⟩
  · rw [zSet_ne _ _ _ hk, zSet_ne _ _ _ hk]
    exact f1 k (by simp; omega)
  · rw [zSet_same, zUp_ne _ _ (by decide), zSet_same, zUp_same]; rfl
  · rw [zSet_same, zUp_same]
  · exact s1
theorem c_X2_record_15 (g : ZH) {n : Int} {r : Int → Int} {H : Int → Int → Int} (hX : okX r) (hS : StAt g 15 r) (hH : HisN g n H) : ZC 3 mX2_record [.inr 87, .inr 15] g (fun _ g' => (∀ k, k < 39 ∨ 88 ≤ k → g' k = g k) ∧ HisN g' (minF (n + 1) 4) (psH r H)) := by
  have h1 := hH.1
  have h16 := hX.1.1.1.2
  rcases (show g 87 1 = 0 ∨ g 87 1 = 1 ∨ g 87 1 = 2 ∨ g 87 1 = 3 by omega) with q | q | q | q
  · exact ZC.mono (c_X2_record_15_0 g h16 hS q hH.2.1 hH.2.2.1) (fun _ g' h => ⟨fun k hk => h.1 k (by omega) (by omega), h.his hH q hX⟩)
  · exact ZC.mono (c_X2_record_15_1 g h16 hS q hH.2.1 hH.2.2.1) (fun _ g' h => ⟨fun k hk => h.1 k (by omega) (by omega), h.his hH q hX⟩)
  · exact ZC.mono (c_X2_record_15_2 g h16 hS q hH.2.1 hH.2.2.1) (fun _ g' h => ⟨fun k hk => h.1 k (by omega) (by omega), h.his hH q hX⟩)
  · exact ZC.mono (c_X2_record_15_3 g h16 hS q hH.2.1 hH.2.2.1) (fun _ g' h => ⟨fun k hk => h.1 k (by omega) (by omega), h.his hH q hX⟩)
def bakN (g g' : ZH) (j : Nat) (n : Int) (r : Int → Int) : Prop := (∀ k, k ≠ 87 → (k < 3 ∨ 15 ≤ k) → g' k = g k) ∧ g' 87 1 = ((j : Int) + 3) % 4 ∧ g' 87 2 = n - 1 ∧ StN g' r
theorem bakN.his {g g' : ZH} {j : Nat} {n : Int} {r : Int → Int} {H : Int → Int → Int} (hH : HisN g n H) (hn : n ≠ 0) (hj : g 87 1 = (j : Int)) (h : bakN g g' j n r) : HisN g' (n - 1) (fun k => H (k + 1)) := by
  obtain ⟨h1, h2, h3, h4⟩ := h
  obtain ⟨a1, a2, a3, a4⟩ := hH
  refine ⟨by omega, h3, by omega, fun k k0 k1 => ?_⟩
  have e : hB (g' 87 1) k = hB (g 87 1) (k + 1) := by unfold hB; omega
  have h5 := a4 (k + 1) (by omega) (by omega)
  rw [e]
  refine ⟨h5.1, h5.2.fr (fun i i0 i1 => h1 i ?_ ?_)⟩ <;> unfold hB at i0 i1 <;> omega
theorem c_X2_takeBack_0 (g : ZH) {n : Int} {r : Int → Int} (h16 : r 192 ≤ 16) (hS : StAt g 75 r) (hj : g 87 1 = 0) (hn : g 87 2 = n) (hn2 : 0 < n ∧ n ≤ 4) : ZC 3 mX2_takeBack [.inr 87, .inr 3] g (fun v g' => v = 1 ∧ bakN g g' 0 n r) := by
  refine ZC.of (by decide +kernel) (Nat.le_of_ble_eq_true rfl) ?_
  refine ZW.aload_n dX2_takeBack_0 rfl ?_
  refine ZW.getI (fz := 2) dX2_takeBack_1 fl_X2_26 ⟨_, rfl, rfl⟩ rfl rfl ?_
  rw [hn]
  refine ZW.if_ne (tgt := 9) dX2_takeBack_4 (by decide) (by first | omega | exact zB_R _) (fun c4 => ?_) (fun c4 => ?_)
  · refine ZW.aload_n dX2_takeBack_9 rfl ?_
    refine ZW.aload_n dX2_takeBack_10 rfl ?_
    refine ZW.getI (fz := 1) dX2_takeBack_11 fl_X2_18 ⟨_, rfl, rfl⟩ rfl rfl ?_
    rw [hj]
    refine ZW.iconst dX2_takeBack_14 ?_
    refine ZW.iadd dX2_takeBack_15 ?_
    refine ZW.iconst dX2_takeBack_16 ?_
    refine ZW.isub dX2_takeBack_17 ?_
    refine ZW.iconst dX2_takeBack_18 ?_
    refine ZW.irem dX2_takeBack_19 (by omega) ?_
    refine ZW.puti (fz := 1) dX2_takeBack_20 fp_X2_18 ⟨_, rfl, rfl⟩ rfl ?_
    refine ZW.aload_n dX2_takeBack_23 rfl ?_
    refine ZW.dup dX2_takeBack_24 ?_
    refine ZW.getI (fz := 2) dX2_takeBack_25 fl_X2_26 ⟨_, rfl, rfl⟩ rfl rfl ?_
    rw [zSet_same, zUp_ne _ _ (by decide), hn]
    refine ZW.iconst dX2_takeBack_28 ?_
    refine ZW.isub dX2_takeBack_29 ?_
    refine ZW.puti (fz := 2) dX2_takeBack_30 fp_X2_26 ⟨_, rfl, rfl⟩ rfl ?_
    refine ZW.aload_n dX2_takeBack_33 rfl ?_
    refine ZW.aload_n dX2_takeBack_34 rfl ?_
    refine ZW.getR dX2_takeBack_35 fl_X2_11 ⟨_, rfl, rfl⟩ ?_
    refine ZW.aload_n dX2_takeBack_38 rfl ?_
    refine ZW.getI (fz := 1) dX2_takeBack_39 fl_X2_18 ⟨_, rfl, rfl⟩ rfl rfl ?_
    rw [zSet_same, zUp_ne _ _ (by decide), zSet_same, zUp_same]
    refine ZW.aald dX2_takeBack_42 rfl (by decide) (by decide) rfl ?_
    have hS2 : StAt (zSet (zSet g 87 1 ((0 + 4 - 1) % 4)) 87 2 (n - 1)) 75 r := hS
    refine ZW.callVv (as := [_]) dX2_takeBack_43 cv_X2_22 ⟨_, rfl⟩ rfl (by decide) (Nat.le_of_ble_eq_true rfl) rfl (fun _ _ hz _ => hz) (c_X4_copyFrom_3_75 _ h16 hS2) (fun g1 ⟨f1, s1⟩ => ?_)
    have e1 := f1 87 (by decide)
    refine ZW.iconst dX2_takeBack_46 ?_
    refine ZW.iretz dX2_takeBack_47 rfl (by first | exact Or.inl rfl | exact Or.inr rfl | assumption | omega) ?_
    refine ⟨rfl, fun k hk hk2 => ?_, ?_, ?_, s1⟩
    · rw [f1 k (by simp; omega), zSet_ne _ _ _ hk, zSet_ne _ _ _ hk]
    · rw [e1, zSet_same, zUp_ne _ _ (by decide), zSet_same, zUp_same]; rfl
    · rw [e1, zSet_same, zUp_same]
  · exact absurd c4 (by omega)
theorem c_X2_takeBack_1 (g : ZH) {n : Int} {r : Int → Int} (h16 : r 192 ≤ 16) (hS : StAt g 39 r) (hj : g 87 1 = 1) (hn : g 87 2 = n) (hn2 : 0 < n ∧ n ≤ 4) : ZC 3 mX2_takeBack [.inr 87, .inr 3] g (fun v g' => v = 1 ∧ bakN g g' 1 n r) := by
  refine ZC.of (by decide +kernel) (Nat.le_of_ble_eq_true rfl) ?_
  refine ZW.aload_n dX2_takeBack_0 rfl ?_
  refine ZW.getI (fz := 2) dX2_takeBack_1 fl_X2_26 ⟨_, rfl, rfl⟩ rfl rfl ?_
  rw [hn]
  refine ZW.if_ne (tgt := 9) dX2_takeBack_4 (by decide) (by first | omega | exact zB_R _) (fun c4 => ?_) (fun c4 => ?_)
  · refine ZW.aload_n dX2_takeBack_9 rfl ?_
    refine ZW.aload_n dX2_takeBack_10 rfl ?_
    refine ZW.getI (fz := 1) dX2_takeBack_11 fl_X2_18 ⟨_, rfl, rfl⟩ rfl rfl ?_
    rw [hj]
    refine ZW.iconst dX2_takeBack_14 ?_
    refine ZW.iadd dX2_takeBack_15 ?_
    refine ZW.iconst dX2_takeBack_16 ?_
    refine ZW.isub dX2_takeBack_17 ?_
    refine ZW.iconst dX2_takeBack_18 ?_
    refine ZW.irem dX2_takeBack_19 (by omega) ?_
    refine ZW.puti (fz := 1) dX2_takeBack_20 fp_X2_18 ⟨_, rfl, rfl⟩ rfl ?_
    refine ZW.aload_n dX2_takeBack_23 rfl ?_
    refine ZW.dup dX2_takeBack_24 ?_
    refine ZW.getI (fz := 2) dX2_takeBack_25 fl_X2_26 ⟨_, rfl, rfl⟩ rfl rfl ?_
    rw [zSet_same, zUp_ne _ _ (by decide), hn]
    refine ZW.iconst dX2_takeBack_28 ?_
    refine ZW.isub dX2_takeBack_29 ?_
    refine ZW.puti (fz := 2) dX2_takeBack_30 fp_X2_26 ⟨_, rfl, rfl⟩ rfl ?_
    refine ZW.aload_n dX2_takeBack_33 rfl ?_
    refine ZW.aload_n dX2_takeBack_34 rfl ?_
    refine ZW.getR dX2_takeBack_35 fl_X2_11 ⟨_, rfl, rfl⟩ ?_
    refine ZW.aload_n dX2_takeBack_38 rfl ?_
    refine ZW.getI (fz := 1) dX2_takeBack_39 fl_X2_18 ⟨_, rfl, rfl⟩ rfl rfl ?_
    rw [zSet_same, zUp_ne _ _ (by decide), zSet_same, zUp_same]
    refine ZW.aald dX2_takeBack_42 rfl (by decide) (by decide) rfl ?_
    have hS2 : StAt (zSet (zSet g 87 1 ((1 + 4 - 1) % 4)) 87 2 (n - 1)) 39 r := hS
    refine ZW.callVv (as := [_]) dX2_takeBack_43 cv_X2_22 ⟨_, rfl⟩ rfl (by decide) (Nat.le_of_ble_eq_true rfl) rfl (fun _ _ hz _ => hz) (c_X4_copyFrom_3_39 _ h16 hS2) (fun g1 ⟨f1, s1⟩ => ?_)
    have e1 := f1 87 (by decide)
    refine ZW.iconst dX2_takeBack_46 ?_
    refine ZW.iretz dX2_takeBack_47 rfl (by first | exact Or.inl rfl | exact Or.inr rfl | assumption | omega) ?_
    refine ⟨rfl, fun k hk hk2 => ?_, ?_, ?_, s1⟩
    · rw [f1 k (by simp; omega), zSet_ne _ _ _ hk, zSet_ne _ _ _ hk]
    · rw [e1, zSet_same, zUp_ne _ _ (by decide), zSet_same, zUp_same]; rfl
    · rw [e1, zSet_same, zUp_same]
  · exact absurd c4 (by omega)
theorem c_X2_takeBack_2 (g : ZH) {n : Int} {r : Int → Int} (h16 : r 192 ≤ 16) (hS : StAt g 51 r) (hj : g 87 1 = 2) (hn : g 87 2 = n) (hn2 : 0 < n ∧ n ≤ 4) : ZC 3 mX2_takeBack [.inr 87, .inr 3] g (fun v g' => v = 1 ∧ bakN g g' 2 n r) := by
  refine ZC.of (by decide +kernel) (Nat.le_of_ble_eq_true rfl) ?_
  refine ZW.aload_n dX2_takeBack_0 rfl ?_
  refine ZW.getI (fz := 2) dX2_takeBack_1 fl_X2_26 ⟨_, rfl, rfl⟩ rfl rfl ?_
  rw [hn]
  refine ZW.if_ne (tgt := 9) dX2_takeBack_4 (by decide) (by first | omega | exact zB_R _) (fun c4 => ?_) (fun c4 => ?_)
  · refine ZW.aload_n dX2_takeBack_9 rfl ?_
    refine ZW.aload_n dX2_takeBack_10 rfl ?_
    refine ZW.getI (fz := 1) dX2_takeBack_11 fl_X2_18 ⟨_, rfl, rfl⟩ rfl rfl ?_
    rw [hj]
    refine ZW.iconst dX2_takeBack_14 ?_
    refine ZW.iadd dX2_takeBack_15 ?_
    refine ZW.iconst dX2_takeBack_16 ?_
    refine ZW.isub dX2_takeBack_17 ?_
    refine ZW.iconst dX2_takeBack_18 ?_
    refine ZW.irem dX2_takeBack_19 (by omega) ?_
    refine ZW.puti (fz := 1) dX2_takeBack_20 fp_X2_18 ⟨_, rfl, rfl⟩ rfl ?_
    refine ZW.aload_n dX2_takeBack_23 rfl ?_
    refine ZW.dup dX2_takeBack_24 ?_
    refine ZW.getI (fz := 2) dX2_takeBack_25 fl_X2_26 ⟨_, rfl, rfl⟩ rfl rfl ?_
    rw [zSet_same, zUp_ne _ _ (by decide), hn]
    refine ZW.iconst dX2_takeBack_28 ?_
    refine ZW.isub dX2_takeBack_29 ?_
    refine ZW.puti (fz := 2) dX2_takeBack_30 fp_X2_26 ⟨_, rfl, rfl⟩ rfl ?_
    refine ZW.aload_n dX2_takeBack_33 rfl ?_
    refine ZW.aload_n dX2_takeBack_34 rfl ?_
    refine ZW.getR dX2_takeBack_35 fl_X2_11 ⟨_, rfl, rfl⟩ ?_
    refine ZW.aload_n dX2_takeBack_38 rfl ?_
    refine ZW.getI (fz := 1) dX2_takeBack_39 fl_X2_18 ⟨_, rfl, rfl⟩ rfl rfl ?_
    rw [zSet_same, zUp_ne _ _ (by decide), zSet_same, zUp_same]
    refine ZW.aald dX2_takeBack_42 rfl (by decide) (by decide) rfl ?_
    have hS2 : StAt (zSet (zSet g 87 1 ((2 + 4 - 1) % 4)) 87 2 (n - 1)) 51 r := hS
    refine ZW.callVv (as := [_]) dX2_takeBack_43 cv_X2_22 ⟨_, rfl⟩ rfl (by decide) (Nat.le_of_ble_eq_true rfl) rfl (fun _ _ hz _ => hz) (c_X4_copyFrom_3_51 _ h16 hS2) (fun g1 ⟨f1, s1⟩ => ?_)
    have e1 := f1 87 (by decide)
    refine ZW.iconst dX2_takeBack_46 ?_
    refine ZW.iretz dX2_takeBack_47 rfl (by first | exact Or.inl rfl | exact Or.inr rfl | assumption | omega) ?_
    refine ⟨rfl, fun k hk hk2 => ?_, ?_, ?_, s1⟩
    · rw [f1 k (by simp; omega), zSet_ne _ _ _ hk, zSet_ne _ _ _ hk]
    · rw [e1, zSet_same, zUp_ne _ _ (by decide), zSet_same, zUp_same]; rfl
    · rw [e1, zSet_same, zUp_same]
  · exact absurd c4 (by omega)
theorem c_X2_takeBack_3 (g : ZH) {n : Int} {r : Int → Int} (h16 : r 192 ≤ 16) (hS : StAt g 63 r) (hj : g 87 1 = 3) (hn : g 87 2 = n) (hn2 : 0 < n ∧ n ≤ 4) : ZC 3 mX2_takeBack [.inr 87, .inr 3] g (fun v g' => v = 1 ∧ bakN g g' 3 n r) := by
  refine ZC.of (by decide +kernel) (Nat.le_of_ble_eq_true rfl) ?_
  refine ZW.aload_n dX2_takeBack_0 rfl ?_
  refine ZW.getI (fz := 2) dX2_takeBack_1 fl_X2_26 ⟨_, rfl, rfl⟩ rfl rfl ?_
  rw [hn]
  refine ZW.if_ne (tgt := 9) dX2_takeBack_4 (by decide) (by first | omega | exact zB_R _) (fun c4 => ?_) (fun c4 => ?_)
  · refine ZW.aload_n dX2_takeBack_9 rfl ?_
    refine ZW.aload_n dX2_takeBack_10 rfl ?_
    refine ZW.getI (fz := 1) dX2_takeBack_11 fl_X2_18 ⟨_, rfl, rfl⟩ rfl rfl ?_
    rw [hj]
    refine ZW.iconst dX2_takeBack_14 ?_
    refine ZW.iadd dX2_takeBack_15 ?_
    refine ZW.iconst dX2_takeBack_16 ?_
    refine ZW.isub dX2_takeBack_17 ?_
    refine ZW.iconst dX2_takeBack_18 ?_
    refine ZW.irem dX2_takeBack_19 (by omega) ?_
    refine ZW.puti (fz := 1) dX2_takeBack_20 fp_X2_18 ⟨_, rfl, rfl⟩ rfl ?_
    refine ZW.aload_n dX2_takeBack_23 rfl ?_
    refine ZW.dup dX2_takeBack_24 ?_
    refine ZW.getI (fz := 2) dX2_takeBack_25 fl_X2_26 ⟨_, rfl, rfl⟩ rfl rfl ?_
    rw [zSet_same, zUp_ne _ _ (by decide), hn]
    refine ZW.iconst dX2_takeBack_28 ?_
    refine ZW.isub dX2_takeBack_29 ?_
    refine ZW.puti (fz := 2) dX2_takeBack_30 fp_X2_26 ⟨_, rfl, rfl⟩ rfl ?_
    refine ZW.aload_n dX2_takeBack_33 rfl ?_
    refine ZW.aload_n dX2_takeBack_34 rfl ?_
    refine ZW.getR dX2_takeBack_35 fl_X2_11 ⟨_, rfl, rfl⟩ ?_
    refine ZW.aload_n dX2_takeBack_38 rfl ?_
    refine ZW.getI (fz := 1) dX2_takeBack_39 fl_X2_18 ⟨_, rfl, rfl⟩ rfl rfl ?_
    rw [zSet_same, zUp_ne _ _ (by decide), zSet_same, zUp_same]
    refine ZW.aald dX2_takeBack_42 rfl (by decide) (by decide) rfl ?_
    have hS2 : StAt (zSet (zSet g 87 1 ((3 + 4 - 1) % 4)) 87 2 (n - 1)) 63 r := hS
    refine ZW.callVv (as := [_]) dX2_takeBack_43 cv_X2_22 ⟨_, rfl⟩ rfl (by decide) (Nat.le_of_ble_eq_true rfl) rfl (fun _ _ hz _ => hz) (c_X4_copyFrom_3_63 _ h16 hS2) (fun g1 ⟨f1, s1⟩ => ?_)
    have e1 := f1 87 (by decide)
    refine ZW.iconst dX2_takeBack_46 ?_
    refine ZW.iretz dX2_takeBack_47 rfl (by first | exact Or.inl rfl | exact Or.inr rfl | assumption | omega) ?_
    refine ⟨rfl, fun k hk hk2 => ?_, ?_, ?_, s1⟩
    · rw [f1 k (by simp; omega), zSet_ne _ _ _ hk, zSet_ne _ _ _ hk]
    · rw [e1, zSet_same, zUp_ne _ _ (by decide), zSet_same, zUp_same]; rfl
    · rw [e1, zSet_same, zUp_same]
  · exact absurd c4 (by omega)
theorem c_X2_takeBack (g : ZH) {n : Int} {r : Int → Int} {H : Int → Int → Int} (hS : StN g r) (hH : HisN g n H) : ZC 3 mX2_takeBack [.inr 87, .inr 3] g (fun v g' => v = zB (decide (n ≠ 0)) ∧ (∀ k, k < 3 ∨ (15 ≤ k ∧ k ≠ 87) → g' k = g k) ∧ (n = 0 → g' = g) ∧ (n ≠ 0 → StN g' (H 0) ∧ HisN g' (n - 1) (fun k => H (k + 1)))) := by
  have h1 := hH.1
  have h3 := hH.2.2.1
  by_cases hn : n = 0
  · have h2 := hH.2.1
    refine ZC.of (by decide +kernel) (Nat.le_of_ble_eq_true rfl) ?_
    refine ZW.aload_n dX2_takeBack_0 rfl ?_
    refine ZW.getI (fz := 2) dX2_takeBack_1 fl_X2_26 ⟨_, rfl, rfl⟩ rfl rfl ?_
    rw [h2]
    refine ZW.if_ne (tgt := 9) dX2_takeBack_4 (by decide) (by first | omega | exact zB_R _) (fun c4 => ?_) (fun c4 => ?_)
    · exact absurd hn c4
    · refine ZW.iconst dX2_takeBack_7 ?_
      refine ZW.iretz dX2_takeBack_8 rfl (by first | exact Or.inl rfl | exact Or.inr rfl | assumption | omega) ?_
      exact ⟨by rw [decide_eq_false (fun q => q hn)]; rfl, fun _ _ => rfl, fun _ => rfl, fun q => absurd hn q⟩
  · have h0 := hH.2.2.2 0 (by decide) (by omega)
    have h16 := h0.1.1.1.1.2
    have hv : (1 : Int) = zB (decide (n ≠ 0)) := by rw [decide_eq_true hn]; rfl
    have e := h0.2
    rcases (show g 87 1 = 0 ∨ g 87 1 = 1 ∨ g 87 1 = 2 ∨ g 87 1 = 3 by omega) with q | q | q | q <;> rw [q] at e
    · exact ZC.mono (c_X2_takeBack_0 g h16 e q hH.2.1 (by omega)) (fun v g' h => ⟨h.1.trans hv, fun k hk => h.2.1 k (by omega) (by omega), fun q => absurd q hn, fun _ => ⟨h.2.2.2.2, h.2.his hH hn q⟩⟩)
    · exact ZC.mono (c_X2_takeBack_1 g h16 e q hH.2.1 (by omega)) (fun v g' h => ⟨h.1.trans hv, fun k hk => h.2.1 k (by omega) (by omega), fun q => absurd q hn, fun _ => ⟨h.2.2.2.2, h.2.his hH hn q⟩⟩)
    · exact ZC.mono (c_X2_takeBack_2 g h16 e q hH.2.1 (by omega)) (fun v g' h => ⟨h.1.trans hv, fun k hk => h.2.1 k (by omega) (by omega), fun q => absurd q hn, fun _ => ⟨h.2.2.2.2, h.2.his hH hn q⟩⟩)
    · exact ZC.mono (c_X2_takeBack_3 g h16 e q hH.2.1 (by omega)) (fun v g' h => ⟨h.1.trans hv, fun k hk => h.2.1 k (by omega) (by omega), fun q => absurd q hn, fun _ => ⟨h.2.2.2.2, h.2.his hH hn q⟩⟩)
