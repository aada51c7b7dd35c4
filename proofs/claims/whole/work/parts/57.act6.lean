-- the class: ground, river, fort, base
theorem StF.gnd {o gr ri fo un ba si st he po at_ sv r : Int → Int} (h : StF o gr ri fo un ba si st he po at_ sv r) {x v : Int} (hx : 0 ≤ x ∧ x < 63) : StF o (zUp gr x v) ri fo un ba si st he po at_ sv (zUp r x v) := by
  have o2 : ∀ z w, 0 ≤ z → 0 ≤ w → ofF (zUp r x v) z w = ofF r z w := fun z w hz hw => zUp_ne _ _ (by omega)
  refine ⟨fun y y0 y1 => ?_, ?_, ?_, fun z z0 z1 => ?_⟩
  · have h1 := h.1 y y0 y1
    rw [zUp_ne (i := x) _ _ (show 63 + y ≠ x by omega), zUp_ne (i := x) _ _ (show 126 + y ≠ x by omega), uoN_eq (r := r) (uo_cong (zUp_ne _ _ (by omega)) (fun z z0 _ => by rw [o2 z 1 z0 (by decide), o2 z 2 z0 (by decide)]))]
    refine ⟨?_, h1.2.1, h1.2.2.1, h1.2.2.2⟩
    by_cases q : y = x
    · rw [q, zUp_same, zUp_same]
    · rw [zUp_ne _ _ q, zUp_ne _ _ q]; exact h1.1
  · rw [zUp_ne _ _ (by omega), zUp_ne _ _ (by omega)]; exact h.2.1
  · rw [zUp_ne _ _ (by omega), zUp_ne _ _ (by omega)]; exact h.2.2.1
  · rw [zUp_ne _ _ (by omega)] at z1
    rw [o2 z 0 z0 (by decide), o2 z 1 z0 (by decide), o2 z 2 z0 (by decide), o2 z 3 z0 (by decide), o2 z 4 z0 (by decide), o2 z 5 z0 (by decide)]
    exact h.2.2.2 z z0 z1
theorem StF.riv {o gr ri fo un ba si st he po at_ sv r : Int → Int} (h : StF o gr ri fo un ba si st he po at_ sv r) {x v : Int} (hx : 0 ≤ x ∧ x < 63) : StF o gr (zUp ri x v) fo un ba si st he po at_ sv (zUp r (63 + x) v) := by
  have o2 : ∀ z w, 0 ≤ z → 0 ≤ w → ofF (zUp r (63 + x) v) z w = ofF r z w := fun z w hz hw => zUp_ne _ _ (by omega)
  refine ⟨fun y y0 y1 => ?_, ?_, ?_, fun z z0 z1 => ?_⟩
  · have h1 := h.1 y y0 y1
    rw [zUp_ne (i := 63 + x) _ _ (show y ≠ 63 + x by omega), zUp_ne (i := 63 + x) _ _ (show 126 + y ≠ 63 + x by omega), uoN_eq (r := r) (uo_cong (zUp_ne _ _ (by omega)) (fun z z0 _ => by rw [o2 z 1 z0 (by decide), o2 z 2 z0 (by decide)]))]
    refine ⟨h1.1, ?_, h1.2.2.1, h1.2.2.2⟩
    by_cases q : y = x
    · rw [q, zUp_same, zUp_same]
    · rw [zUp_ne _ _ q, zUp_ne _ _ (by omega)]; exact h1.2.1
  · rw [zUp_ne _ _ (by omega), zUp_ne _ _ (by omega)]; exact h.2.1
  · rw [zUp_ne _ _ (by omega), zUp_ne _ _ (by omega)]; exact h.2.2.1
  · rw [zUp_ne _ _ (by omega)] at z1
    rw [o2 z 0 z0 (by decide), o2 z 1 z0 (by decide), o2 z 2 z0 (by decide), o2 z 3 z0 (by decide), o2 z 4 z0 (by decide), o2 z 5 z0 (by decide)]
    exact h.2.2.2 z z0 z1
theorem StF.bas {o gr ri fo un ba si st he po at_ sv r : Int → Int} (h : StF o gr ri fo un ba si st he po at_ sv r) {s v : Int} (hs : 0 ≤ s ∧ s < 2) : StF o gr ri fo un (zUp ba s v) si st he po at_ sv (zUp r (189 + s) v) := by
  have o2 : ∀ z w, 0 ≤ z → 0 ≤ w → ofF (zUp r (189 + s) v) z w = ofF r z w := fun z w hz hw => zUp_ne _ _ (by omega)
  refine ⟨fun y y0 y1 => ?_, ?_, ?_, fun z z0 z1 => ?_⟩
  · have h1 := h.1 y y0 y1
    rw [zUp_ne (i := 189 + s) _ _ (show y ≠ 189 + s by omega), zUp_ne (i := 189 + s) _ _ (show 63 + y ≠ 189 + s by omega), zUp_ne (i := 189 + s) _ _ (show 126 + y ≠ 189 + s by omega), uoN_eq (r := r) (uo_cong (zUp_ne _ _ (by omega)) (fun z z0 _ => by rw [o2 z 1 z0 (by decide), o2 z 2 z0 (by decide)]))]
    exact h1
  · rcases (show s = 0 ∨ s = 1 by omega) with q | q
    · subst q
      show zUp ba 0 v 0 = zUp r 189 v 189 ∧ zUp ba 0 v 1 = zUp r 189 v 190
      rw [zUp_same, zUp_same, zUp_ne _ _ (by decide), zUp_ne _ _ (by decide)]
      exact ⟨rfl, h.2.1.2⟩
    · subst q
      show zUp ba 1 v 0 = zUp r 190 v 189 ∧ zUp ba 1 v 1 = zUp r 190 v 190
      rw [zUp_same, zUp_same, zUp_ne _ _ (by decide), zUp_ne _ _ (by decide)]
      exact ⟨h.2.1.1, rfl⟩
  · rw [zUp_ne _ _ (by omega), zUp_ne _ _ (by omega)]; exact h.2.2.1
  · rw [zUp_ne _ _ (by omega)] at z1
    rw [o2 z 0 z0 (by decide), o2 z 1 z0 (by decide), o2 z 2 z0 (by decide), o2 z 3 z0 (by decide), o2 z 4 z0 (by decide), o2 z 5 z0 (by decide)]
    exact h.2.2.2 z z0 z1
theorem okX_lo {r : Int → Int} (h : okX r) {i v : Int} (hi : 0 ≤ i ∧ i < 191) (hv : 0 ≤ v ∧ v < 1000) (h1 : i < 63 ∨ 126 ≤ i) (h2 : 126 ≤ i → i < 189 → v ≤ 2) : okX (zUp r i v) :=
  ⟨okA_lo h.1 hi hv h1 h2, fun z z0 z1 => by rw [show ofF (zUp r i v) z 4 = ofF r z 4 from zUp_ne _ _ (by omega)]; exact h.2 z z0 z1⟩
theorem okX_riv {r : Int → Int} (h : okX r) {x d : Int} (hx : 0 ≤ x ∧ x < 63) (hd : 0 ≤ d ∧ d < 6) (hn : nextF x d ≠ -5) : okX (rivS r x d) := by
  have hy := (nextF_R (x := x) (d := d)).resolve_left hn
  refine ⟨okA_riv h.1 hx hd hn, fun z z0 z1 => ?_⟩
  unfold rivS
  rw [show ∀ (f : Int → Int) a, ofF (zUp f (63 + nextF x d) a) z 4 = ofF f z 4 from fun f a => zUp_ne _ _ (by omega), show ∀ (f : Int → Int) a, ofF (zUp f (63 + x) a) z 4 = ofF f z 4 from fun f a => zUp_ne _ _ (by omega)]
  exact h.2 z z0 z1
theorem okX_fort {r : Int → Int} (h : okX r) {x s : Int} (hx : 0 ≤ x ∧ x < 63) (hs : 0 ≤ s ∧ s ≤ 2) : okX (fortS r x s) :=
  ⟨okA_fort h.1 hx hs, fun z z0 z1 => by rw [show ofF (fortS r x s) z 4 = ofF r z 4 from zUp_ne _ _ (by omega)]; exact h.2 z z0 z1⟩
theorem cDo.neg {g : ZH} {r F : Int → Int} {n V v : Int} {H : Int → Int → Int} (hS : StN g r) (hH : HisN g n H) (hV : V = v) (hv : v < 0) : v = V ∧ cA g g ∧ cDo g r n H V F := ⟨hV.symm, cA.rf g, fun _ => ⟨hS, hH⟩, fun q => by omega⟩
theorem cDo.yes {g g1 g2 : ZH} {r F : Int → Int} {n V v : Int} {H : Int → Int → Int} (hrec : (∀ k, k < 39 ∨ 88 ≤ k → g1 k = g k) ∧ HisN g1 (minF (n + 1) 4) (psH r H)) (hf : frA g1 g2) (hS : StN g2 F) (hV : V = v) (hv : 0 ≤ v) : v = V ∧ cA g g2 ∧ cDo g2 r n H V F :=
  ⟨hV.symm, (cA.of (fun k hk => hrec.1 k (by omega))).tr (cA.A hf), fun q => by omega, fun _ => ⟨hS, hf.his hrec.2⟩⟩
/-- behind a record: now stands -/
theorem rec_now {g g1 : ZH} {r : Int → Int} (hS : StN g r) (h : ∀ k, k < 39 ∨ 88 ≤ k → g1 k = g k) : StN g1 r := StAt.fr (b := 3) hS (fun k k0 k1 => h k (by omega))
theorem c_X7_ground (g : ZH) {r : Int → Int} {n : Int} {H : Int → Int → Int} (hX : okX r) (hS : StN g r) (hH : HisN g n H) {x k : Int} (hx : zR x) (hk : zR k) : ZC 4 mX7_ground [.inr 0, .inl x, .inl k] g (fun v g' => v = gndV r x k ∧ cA g g' ∧ cDo g' r n H (gndV r x k) (zUp r x k)) := by
  refine ZC.of (by decide +kernel) (Nat.le_of_ble_eq_true rfl) ?_
  refine ZW.iload_n dX7_ground_0 rfl ?_
  refine ZW.callS (as := [_]) dX7_ground_1 cs_X7_68 rfl (by decide) (Nat.le_of_ble_eq_true rfl) rfl (c_X0_isHex _ hx) (fun v1 g1 ⟨q1, q2⟩ => ?_)
  subst q1; subst q2
  refine ZW.if_ne (tgt := 9) dX7_ground_4 (by decide) (by first | omega | exact zB_R _) (fun c4 => ?_) (fun c4 => ?_)
  · have e := zB_ne c4
    have hxr := isHexB_t e
    have hgx := hX.1.1.1.1 x (by omega) (by omega)
    have bad : ¬ (0 ≤ k ∧ k ≤ 2) → ZW 4 mX7_ground 18 [some (.inr 0), some (.inl x), some (.inl k), none] [] g1 (fun v g' => v = gndV r x k ∧ cA g1 g' ∧ cDo g' r n H (gndV r x k) (zUp r x k)) := by
      intro hno
      refine ZW.bipush dX7_ground_18 rfl ?_
      refine ZW.ireti dX7_ground_20 rfl ?_
      exact cDo.neg hS hH (by unfold gndV inB; rw [e, decide_eq_false hno]; rfl) (by decide)
    refine ZW.iload_n dX7_ground_9 rfl ?_
    refine ZW.if_lt (tgt := 18) dX7_ground_10 (by decide) (by first | omega | exact zB_R _) (fun c10 => ?_) (fun c10 => ?_)
    · exact bad (by omega)
    · refine ZW.iload_n dX7_ground_13 rfl ?_
      refine ZW.iconst dX7_ground_14 ?_
      refine ZW.icmp_le (tgt := 21) dX7_ground_15 (by decide) (by first | omega | exact zB_R _) (by first | omega | exact zB_R _) (fun c15 => ?_) (fun c15 => ?_)
      · have e2 : inB k 0 2 = true := decide_eq_true ⟨by omega, by omega⟩
        refine ZW.aload_n dX7_ground_21 rfl ?_
        refine ZW.getR dX7_ground_22 fl_X7_21 ⟨_, rfl, rfl⟩ ?_
        refine ZW.getR dX7_ground_25 fl_X7_72 ⟨_, rfl, rfl⟩ ?_
        refine ZW.iload_n dX7_ground_28 rfl ?_
        refine ZW.iald dX7_ground_29 rfl (by decide) (by omega) rfl ?_
        rw [(st_x hS hxr).1]
        refine ZW.istore_n dX7_ground_30 (by decide) rfl ?_
        refine ZW.iload_n dX7_ground_31 rfl ?_
        refine ZW.iload_n dX7_ground_32 rfl ?_
        refine ZW.icmp_ne (tgt := 39) dX7_ground_33 (by decide) (by first | omega | exact zB_R _) (by first | omega | exact zB_R _) (fun c33 => ?_) (fun c33 => ?_)
        · refine ZW.aload_n dX7_ground_39 rfl ?_
          refine ZW.getR dX7_ground_40 fl_X7_34 ⟨_, rfl, rfl⟩ ?_
          refine ZW.aload_n dX7_ground_43 rfl ?_
          refine ZW.getR dX7_ground_44 fl_X7_21 ⟨_, rfl, rfl⟩ ?_
          refine ZW.callVv (as := [_]) dX7_ground_47 cv_X7_76 ⟨_, rfl⟩ rfl (by decide) (Nat.le_of_ble_eq_true rfl) rfl (fun _ _ hz _ => hz) (c_X2_record_3 _ hX hS hH) (fun g2 hr => ?_)
          refine ZW.aload_n dX7_ground_50 rfl ?_
          refine ZW.getR dX7_ground_51 fl_X7_21 ⟨_, rfl, rfl⟩ ?_
          refine ZW.getR dX7_ground_54 fl_X7_72 ⟨_, rfl, rfl⟩ ?_
          refine ZW.iload_n dX7_ground_57 rfl ?_
          refine ZW.iload_n dX7_ground_58 rfl ?_
          refine ZW.iast dX7_ground_59 rfl (by decide) (by omega) ?_
          refine ZW.iload_n dX7_ground_60 rfl ?_
          refine ZW.ireti dX7_ground_61 rfl ?_
          exact cDo.yes hr (frA.of ((zFr.rf [4] _).set (by decide) _ _) (by decide)) (StF.gnd (rec_now hS hr.1) hxr) (by unfold gndV; rw [e, e2, if_pos rfl, if_pos rfl, if_neg c33]) hgx.1
        · refine ZW.bipush dX7_ground_36 rfl ?_
          refine ZW.ireti dX7_ground_38 rfl ?_
          exact cDo.neg hS hH (by unfold gndV; rw [e, e2, if_pos rfl, if_pos rfl, if_pos c33]) (by decide)
      · exact bad (by omega)
  · have e := zB_eq c4
    refine ZW.iconst dX7_ground_7 ?_
    refine ZW.ireti dX7_ground_8 rfl ?_
    exact cDo.neg hS hH (by unfold gndV; rw [e]; rfl) (by decide)
theorem c_X7_base (g : ZH) {r : Int → Int} {n : Int} {H : Int → Int → Int} (hX : okX r) (hS : StN g r) (hH : HisN g n H) {s x : Int} (hs : zR s) (hx : zR x) : ZC 4 mX7_base [.inr 0, .inl s, .inl x] g (fun v g' => v = baseV r s x ∧ cA g g' ∧ cDo g' r n H (baseV r s x) (zUp r (189 + s) x)) := by
  refine ZC.of (by decide +kernel) (Nat.le_of_ble_eq_true rfl) ?_
  refine ZW.iload_n dX7_base_0 rfl ?_
  refine ZW.callS (as := [_]) dX7_base_1 cs_X7_101 rfl (by decide) (Nat.le_of_ble_eq_true rfl) rfl (c_X7_isSide _ hs) (fun v1 g1 ⟨q1, q2⟩ => ?_)
  subst q1; subst q2
  refine ZW.if_eq (tgt := 14) dX7_base_4 (by decide) (by first | omega | exact zB_R _) (fun c4 => ?_) (fun c4 => ?_)
  · have e := zB_eq c4
    refine ZW.iconst dX7_base_14 ?_
    refine ZW.ireti dX7_base_15 rfl ?_
    exact cDo.neg hS hH (by unfold baseV; rw [e]; rfl) (by decide)
  · have e := zB_ne c4
    have hsr := of_decide_eq_true e
    refine ZW.iload_n dX7_base_7 rfl ?_
    refine ZW.callS (as := [_]) dX7_base_8 cs_X7_68 rfl (by decide) (Nat.le_of_ble_eq_true rfl) rfl (c_X0_isHex _ hx) (fun v1 g1 ⟨q1, q2⟩ => ?_)
    subst q1; subst q2
    refine ZW.if_ne (tgt := 16) dX7_base_11 (by decide) (by first | omega | exact zB_R _) (fun c11 => ?_) (fun c11 => ?_)
    · have e2 := zB_ne c11
      have hxr := isHexB_t e2
      have hb := hX.1.1.1.1 (189 + s) (by omega) (by omega)
      have hbs : g1 8 s = r (189 + s) := by
        rcases (show s = 0 ∨ s = 1 by omega) with q | q
        · rw [q]; exact hS.2.1.1
        · rw [q]; exact hS.2.1.2
      refine ZW.aload_n dX7_base_16 rfl ?_
      refine ZW.getR dX7_base_17 fl_X7_21 ⟨_, rfl, rfl⟩ ?_
      refine ZW.getR dX7_base_20 fl_X7_117 ⟨_, rfl, rfl⟩ ?_
      refine ZW.iload_n dX7_base_23 rfl ?_
      refine ZW.iald dX7_base_24 rfl (by decide) (by omega) rfl ?_
      rw [hbs]
      refine ZW.istore_n dX7_base_25 (by decide) rfl ?_
      refine ZW.iload_n dX7_base_26 rfl ?_
      refine ZW.iload_n dX7_base_27 rfl ?_
      refine ZW.icmp_ne (tgt := 34) dX7_base_28 (by decide) (by first | omega | exact zB_R _) (by first | omega | exact zB_R _) (fun c28 => ?_) (fun c28 => ?_)
      · refine ZW.aload_n dX7_base_34 rfl ?_
        refine ZW.getR dX7_base_35 fl_X7_34 ⟨_, rfl, rfl⟩ ?_
        refine ZW.aload_n dX7_base_38 rfl ?_
        refine ZW.getR dX7_base_39 fl_X7_21 ⟨_, rfl, rfl⟩ ?_
        refine ZW.callVv (as := [_]) dX7_base_42 cv_X7_76 ⟨_, rfl⟩ rfl (by decide) (Nat.le_of_ble_eq_true rfl) rfl (fun _ _ hz _ => hz) (c_X2_record_3 _ hX hS hH) (fun g2 hr => ?_)
        refine ZW.aload_n dX7_base_45 rfl ?_
        refine ZW.getR dX7_base_46 fl_X7_21 ⟨_, rfl, rfl⟩ ?_
        refine ZW.getR dX7_base_49 fl_X7_117 ⟨_, rfl, rfl⟩ ?_
        refine ZW.iload_n dX7_base_52 rfl ?_
        refine ZW.iload_n dX7_base_53 rfl ?_
        refine ZW.iast dX7_base_54 rfl (by decide) (by omega) ?_
        refine ZW.iload_n dX7_base_55 rfl ?_
        refine ZW.ireti dX7_base_56 rfl ?_
        exact cDo.yes hr (frA.of ((zFr.rf [8] _).set (by decide) _ _) (by decide)) (StF.bas (rec_now hS hr.1) (by omega)) (by unfold baseV; rw [e, e2]; simp only [Bool.and_self, if_true]; rw [if_neg c28]) hb.1
      · refine ZW.bipush dX7_base_31 rfl ?_
        refine ZW.ireti dX7_base_33 rfl ?_
        exact cDo.neg hS hH (by unfold baseV; rw [e, e2]; simp only [Bool.and_self, if_true]; rw [if_pos c28]) (by decide)
    · have e2 := zB_eq c11
      refine ZW.iconst dX7_base_14 ?_
      refine ZW.ireti dX7_base_15 rfl ?_
      exact cDo.neg hS hH (by unfold baseV; rw [e, e2]; rfl) (by decide)
set_option maxHeartbeats 1000000 in
theorem c_X7_river (g : ZH) {r : Int → Int} {n : Int} {H : Int → Int → Int} (hX : okX r) (hS : StN g r) (hb : BdN g) (hH : HisN g n H) {x d b : Int} (hx : zR x) (hd : zR d) (hbz : b = 0 ∨ b = 1) : ZC 4 mX7_river [.inr 0, .inl x, .inl d, .inl b] g (fun v g' => v = rivV r x d b ∧ cA g g' ∧ cDo g' r n H (rivV r x d b) (rivS r x d)) := by
  have hB := hX.1.1.1
  refine ZC.of (by decide +kernel) (Nat.le_of_ble_eq_true rfl) ?_
  refine ZW.iload_n dX7_river_0 rfl ?_
  refine ZW.callS (as := [_]) dX7_river_1 cs_X7_68 rfl (by decide) (Nat.le_of_ble_eq_true rfl) rfl (c_X0_isHex _ hx) (fun v1 g1 ⟨q1, q2⟩ => ?_)
  subst q1; subst q2
  refine ZW.if_ne (tgt := 9) dX7_river_4 (by decide) (by first | omega | exact zB_R _) (fun c4 => ?_) (fun c4 => ?_)
  · have e := zB_ne c4
    have hxr := isHexB_t e
    refine ZW.iload_n dX7_river_9 rfl ?_
    refine ZW.callS (as := [_]) dX7_river_10 cs_X7_80 rfl (by decide) (Nat.le_of_ble_eq_true rfl) rfl (c_X0_isDirection _ hd) (fun v1 g1 ⟨q1, q2⟩ => ?_)
    subst q1; subst q2
    refine ZW.if_ne (tgt := 19) dX7_river_13 (by decide) (by first | omega | exact zB_R _) (fun c13 => ?_) (fun c13 => ?_)
    · have e2 := zB_ne c13
      have hdr := of_decide_eq_true e2
      have hnb := nbF_R x d
      refine ZW.aload_n dX7_river_19 rfl ?_
      refine ZW.getR dX7_river_20 fl_X7_10 ⟨_, rfl, rfl⟩ ?_
      refine ZW.getR dX7_river_23 fl_X7_83 ⟨_, rfl, rfl⟩ ?_
      refine ZW.iload_n dX7_river_26 rfl ?_
      refine ZW.bipush dX7_river_27 rfl ?_
      refine ZW.imul dX7_river_29 ?_
      refine ZW.iload_n dX7_river_30 rfl ?_
      refine ZW.iadd dX7_river_31 ?_
      refine ZW.iald dX7_river_32 rfl (by decide) (by omega) rfl ?_
      rw [hb x d hxr.1 hxr.2 hdr.1 (by omega)]
      refine ZW.istore dX7_river_33 (by decide) rfl ?_
      refine ZW.iload dX7_river_35 rfl ?_
      refine ZW.callS (as := [_]) dX7_river_37 cs_X7_68 rfl (by decide) (Nat.le_of_ble_eq_true rfl) rfl (c_X0_isHex _ (by omega)) (fun v1 g1 ⟨q1, q2⟩ => ?_)
      subst q1; subst q2
      rw [nbF_hex]
      refine ZW.if_ne (tgt := 46) dX7_river_40 (by decide) (by first | omega | exact zB_R _) (fun c40 => ?_) (fun c40 => ?_)
      · have e3 := of_decide_eq_true (zB_ne c40)
        have hy := (nextF_R (x := x) (d := d)).resolve_left e3
        have hne := nextF_ne e3
        have en : nbF x d = nextF x d := by unfold nbF; rw [if_neg e3]
        rw [en]
        refine ZW.aload_n dX7_river_46 rfl ?_
        refine ZW.getR dX7_river_47 fl_X7_21 ⟨_, rfl, rfl⟩ ?_
        refine ZW.iload_n dX7_river_50 rfl ?_
        refine ZW.iload_n dX7_river_51 rfl ?_
        refine ZW.callV (as := [_, _]) dX7_river_52 cv_X7_86 ⟨_, rfl⟩ rfl (by decide) (Nat.le_of_ble_eq_true rfl) rfl (c_X4_hasRiver _ hX.1 hS hxr (by omega)) (fun v1 g1 ⟨q1, q2⟩ => ?_)
        subst q1; subst q2
        refine ZW.iload_n dX7_river_55 rfl ?_
        refine ZW.icmp_ne (tgt := 62) dX7_river_56 (by decide) (by first | omega | exact zB_R _) (by first | omega | exact zB_R _) (fun c56 => ?_) (fun c56 => ?_)
        · refine ZW.aload_n dX7_river_62 rfl ?_
          refine ZW.getR dX7_river_63 fl_X7_34 ⟨_, rfl, rfl⟩ ?_
          refine ZW.aload_n dX7_river_66 rfl ?_
          refine ZW.getR dX7_river_67 fl_X7_21 ⟨_, rfl, rfl⟩ ?_
          refine ZW.callVv (as := [_]) dX7_river_70 cv_X7_76 ⟨_, rfl⟩ rfl (by decide) (Nat.le_of_ble_eq_true rfl) rfl (fun _ _ hz _ => hz) (c_X2_record_3 _ hX hS hH) (fun g2 hr => ?_)
          have S2 := rec_now hS hr.1
          have hgx := hB.1 (63 + x) (by omega) (by omega)
          have hgy := hB.1 (63 + nextF x d) (by omega) (by omega)
          refine ZW.aload_n dX7_river_73 rfl ?_
          refine ZW.getR dX7_river_74 fl_X7_21 ⟨_, rfl, rfl⟩ ?_
          refine ZW.getR dX7_river_77 fl_X7_90 ⟨_, rfl, rfl⟩ ?_
          refine ZW.iload_n dX7_river_80 rfl ?_
          refine ZW.dup2 dX7_river_81 ?_
          refine ZW.iald dX7_river_82 rfl (by decide) (by omega) rfl ?_
          rw [(st_x S2 hxr).2.1]
          refine ZW.iconst dX7_river_83 ?_
          refine ZW.iload_n dX7_river_84 rfl ?_
          refine ZW.ishl dX7_river_85 (iI_shl1 (by omega)) ?_
          refine ZW.ixor dX7_river_86 (iI_xor hgx.1) ?_
          refine ZW.iast dX7_river_87 rfl (by decide) (by omega) ?_
          refine ZW.aload_n dX7_river_88 rfl ?_
          refine ZW.getR dX7_river_89 fl_X7_21 ⟨_, rfl, rfl⟩ ?_
          refine ZW.getR dX7_river_92 fl_X7_90 ⟨_, rfl, rfl⟩ ?_
          refine ZW.iload dX7_river_95 rfl ?_
          refine ZW.dup2 dX7_river_97 ?_
          refine ZW.iald dX7_river_98 rfl (by decide) (by omega) rfl ?_
          have hfy : (zSet g2 5 x (xorF (r (63 + x)) d)) 5 (nextF x d) = r (63 + nextF x d) := by
            rw [zSet_same, zUp_ne _ _ hne]; exact (st_x S2 hy).2.1
          rw [hfy]
          refine ZW.iconst dX7_river_99 ?_
          refine ZW.iload_n dX7_river_100 rfl ?_
          refine ZW.callS (as := [_]) dX7_river_101 cs_X7_93 rfl (by decide) (Nat.le_of_ble_eq_true rfl) rfl (c_X0_opposite _ (by omega)) (fun v1 g3 ⟨q1, q3⟩ => ?_)
          subst q1; subst q3
          refine ZW.ishl dX7_river_104 (iI_shl1 (by omega)) ?_
          refine ZW.ixor dX7_river_105 (iI_xor hgy.1) ?_
          refine ZW.iast dX7_river_106 rfl (by decide) (by omega) ?_
          have S4 : StN (zSet (zSet g2 5 x (xorF (r (63 + x)) d)) 5 (nextF x d) (xorF (r (63 + nextF x d)) ((d + 3) % 6))) (rivS r x d) := StF.riv (StF.riv S2 hxr) hy
          have X4 := okX_riv hX hxr (d := d) (by omega) e3
          have hR := riversF_R (rivS r x d)
          refine ZW.aload_n dX7_river_107 rfl ?_
          refine ZW.getR dX7_river_108 fl_X7_21 ⟨_, rfl, rfl⟩ ?_
          refine ZW.callV (as := []) dX7_river_111 cv_X7_97 ⟨_, rfl⟩ rfl (by decide) (Nat.le_of_ble_eq_true rfl) rfl (c_X4_riverCount _ X4.1 S4) (fun v1 g4 ⟨q1, q2⟩ => ?_)
          subst q1; subst q2
          refine ZW.ireti dX7_river_114 rfl ?_
          exact cDo.yes hr (frA.of (((zFr.rf [5] _).set (by decide) _ _).set (by decide) _ _) (by decide)) S4 (by unfold rivV; rw [e, e2, if_pos rfl, if_pos rfl, if_neg e3, if_neg c56]) hR.1
        · refine ZW.bipush dX7_river_59 rfl ?_
          refine ZW.ireti dX7_river_61 rfl ?_
          exact cDo.neg hS hH (by unfold rivV; rw [e, e2, if_pos rfl, if_pos rfl, if_neg e3, if_pos c56]) (by decide)
      · have e3 := of_decide_eq_false (zB_eq c40)
        refine ZW.bipush dX7_river_43 rfl ?_
        refine ZW.ireti dX7_river_45 rfl ?_
        exact cDo.neg hS hH (by unfold rivV; rw [e, e2, if_pos rfl, if_pos rfl, if_pos (Classical.byContradiction e3)]) (by decide)
    · have e2 := zB_eq c13
      refine ZW.bipush dX7_river_16 rfl ?_
      refine ZW.ireti dX7_river_18 rfl ?_
      exact cDo.neg hS hH (by unfold rivV; rw [e, e2]; rfl) (by decide)
  · have e := zB_eq c4
    refine ZW.iconst dX7_river_7 ?_
    refine ZW.ireti dX7_river_8 rfl ?_
    exact cDo.neg hS hH (by unfold rivV; rw [e]; rfl) (by decide)
theorem fort_gv {r : Int → Int} (hA : okA r) {x s : Int} (hx : 0 ≤ x ∧ x < 63) (hs : s = 0 ∨ s = 1 ∨ s = 2) : gvF (zUp r (126 + x) ((if s = 2 then -1 else s) + 1)) x = fortS r x s := by
  have h0 : ∀ v, sdF (zUp r (126 + x) v) x = sdF r x := fun v => by
    have o2 : ∀ z w, 0 ≤ z → 0 ≤ w → ofF (zUp r (126 + x) v) z w = ofF r z w := fun z w hz hw => zUp_ne _ _ (by omega)
    have e : unitOnF (zUp r (126 + x) v) x = unitOnF r x := uo_cong (zUp_ne _ _ (by omega)) (fun z z0 _ => by rw [o2 z 1 z0 (by decide), o2 z 2 z0 (by decide)])
    unfold sdF
    rw [e]
    split
    · rfl
    · next q =>
      have := (unitOnF_R hA.1.1 x).resolve_left q
      exact o2 _ _ this.1 (by decide)
  have hno := sdF_no hA x
  unfold gvF fortS fortN
  rw [h0, zUp_same]
  rcases hs with q | q | q
  · subst q
    rw [if_neg (show ¬ (0 : Int) = 2 by decide), if_neg (show ¬ (0 : Int) = 2 by decide)]
    by_cases q2 : unitOnF r x = -5
    · rw [if_neg (fun z => z.2 (hno.mpr q2)), if_pos q2]
    · rw [if_pos ⟨by decide, fun z => q2 (hno.mp z)⟩, if_neg q2]
      have : sdF r x = ofF r (unitOnF r x) 0 := by unfold sdF; rw [if_neg q2]
      rw [this]
      funext i
      unfold zUp
      split <;> rfl
  · subst q
    rw [if_neg (show ¬ (1 : Int) = 2 by decide), if_neg (show ¬ (1 : Int) = 2 by decide)]
    by_cases q2 : unitOnF r x = -5
    · rw [if_neg (fun z => z.2 (hno.mpr q2)), if_pos q2]
    · rw [if_pos ⟨by decide, fun z => q2 (hno.mp z)⟩, if_neg q2]
      have : sdF r x = ofF r (unitOnF r x) 0 := by unfold sdF; rw [if_neg q2]
      rw [this]
      funext i
      unfold zUp
      split <;> rfl
  · subst q
    rw [if_pos rfl, if_pos rfl, if_neg (fun z => z.1 (by decide))]
    rfl
set_option maxHeartbeats 1000000 in
theorem c_X7_fort (g : ZH) {r : Int → Int} {n : Int} {H : Int → Int → Int} (hX : okX r) (hS : StN g r) (hH : HisN g n H) {x s : Int} (hx : zR x) (hs : zR s) : ZC 4 mX7_fort [.inr 0, .inl x, .inl s] g (fun v g' => v = fortV r x s ∧ cA g g' ∧ cDo g' r n H (fortV r x s) (fortS r x s)) := by
  refine ZC.of (by decide +kernel) (Nat.le_of_ble_eq_true rfl) ?_
  refine ZW.iload_n dX7_fort_0 rfl ?_
  refine ZW.callS (as := [_]) dX7_fort_1 cs_X7_68 rfl (by decide) (Nat.le_of_ble_eq_true rfl) rfl (c_X0_isHex _ hx) (fun v1 g1 ⟨q1, q2⟩ => ?_)
  subst q1; subst q2
  refine ZW.if_ne (tgt := 9) dX7_fort_4 (by decide) (by first | omega | exact zB_R _) (fun c4 => ?_) (fun c4 => ?_)
  · have e := zB_ne c4
    have hxr := isHexB_t e
    have hgx := hX.1.1.1.1 (126 + x) (by omega) (by omega)
    have lay : (s = 0 ∨ s = 1 ∨ s = 2) → ∀ g2 : ZH, (∀ k, k < 39 ∨ 88 ≤ k → g2 k = g1 k) ∧ HisN g2 (minF (n + 1) 4) (psH r H) → fortV r x s = fortsF (fortS r x s) 0 + fortsF (fortS r x s) 1 → ∀ o3, ZW 4 mX7_fort 78 [some (.inr 0), some (.inl x), some (.inl s), o3] [.inl (if s = 2 then -1 else s), .inl x, .inr 6] g2 (fun v g' => v = fortV r x s ∧ cA g1 g' ∧ cDo g' r n H (fortV r x s) (fortS r x s)) := by
      intro hs3 g2 hr hV o3
      have S2 := rec_now hS hr.1
      have S3 : StN (zSet g2 6 x (if s = 2 then -1 else s)) (zUp r (126 + x) ((if s = 2 then -1 else s) + 1)) := StF.fort S2 hxr
      have hbd : 0 ≤ (if s = 2 then -1 else s) + 1 ∧ (if s = 2 then -1 else s) + 1 ≤ 2 := by split <;> omega
      have X3 := okX_lo hX (i := 126 + x) (v := (if s = 2 then -1 else s) + 1) (by omega) (by omega) (Or.inr (by omega)) (fun _ _ => hbd.2)
      refine ZW.iast dX7_fort_78 rfl (by decide) (by omega) ?_
      refine ZW.aload_n dX7_fort_79 rfl ?_
      refine ZW.getR dX7_fort_80 fl_X7_21 ⟨_, rfl, rfl⟩ ?_
      refine ZW.iload_n dX7_fort_83 rfl ?_
      refine ZW.callVv (as := [_]) dX7_fort_84 cv_X7_110 ⟨_, rfl⟩ rfl (by decide) (Nat.le_of_ble_eq_true rfl) rfl (fun _ _ hz _ => hz) (c_X4_giveFortToUnit _ X3.1 S3 hxr) (fun g3 ⟨f3, S4⟩ => ?_)
      rw [fort_gv hX.1 hxr hs3] at S4
      have X4 := okX_fort hX (x := x) (s := s) hxr (by omega)
      have hR0 := fortsF_R (fortS r x s) 0
      have hR1 := fortsF_R (fortS r x s) 1
      refine ZW.aload_n dX7_fort_87 rfl ?_
      refine ZW.getR dX7_fort_88 fl_X7_21 ⟨_, rfl, rfl⟩ ?_
      refine ZW.iconst dX7_fort_91 ?_
      refine ZW.callV (as := [_]) dX7_fort_92 cv_X7_114 ⟨_, rfl⟩ rfl (by decide) (Nat.le_of_ble_eq_true rfl) rfl (c_X4_fortCount _ X4.1 S4 (by decide)) (fun v1 g4 ⟨q1, q2⟩ => ?_)
      subst q1; subst q2
      refine ZW.aload_n dX7_fort_95 rfl ?_
      refine ZW.getR dX7_fort_96 fl_X7_21 ⟨_, rfl, rfl⟩ ?_
      refine ZW.iconst dX7_fort_99 ?_
      refine ZW.callV (as := [_]) dX7_fort_100 cv_X7_114 ⟨_, rfl⟩ rfl (by decide) (Nat.le_of_ble_eq_true rfl) rfl (c_X4_fortCount _ X4.1 S4 (by decide)) (fun v1 g4 ⟨q1, q2⟩ => ?_)
      subst q1; subst q2
      refine ZW.iadd dX7_fort_103 ?_
      refine ZW.ireti dX7_fort_104 rfl ?_
      exact cDo.yes hr (frA.of (((zFr.rf [6] _).set (by decide) _ _).tr f3) (by decide)) S4 hV (by omega)
    have mid : (s = 0 ∨ s = 1 ∨ s = 2) → ∀ w : Int, w = (if s = 2 then 0 else 1) → ZW 4 mX7_fort 34 [some (.inr 0), some (.inl x), some (.inl s), none] [.inl w] g1 (fun v g' => v = fortV r x s ∧ cA g1 g' ∧ cDo g' r n H (fortV r x s) (fortS r x s)) := by
      intro hs3 w hw
      have hwR : 0 ≤ w ∧ w ≤ 1 := by rw [hw]; split <;> omega
      have e2 : inB s 0 2 = true := decide_eq_true (by omega)
      refine ZW.istore_n dX7_fort_34 (by decide) rfl ?_
      refine ZW.iload_n dX7_fort_35 rfl ?_
      refine ZW.aload_n dX7_fort_36 rfl ?_
      refine ZW.getR dX7_fort_37 fl_X7_21 ⟨_, rfl, rfl⟩ ?_
      refine ZW.iload_n dX7_fort_40 rfl ?_
      refine ZW.callV (as := [_]) dX7_fort_41 cv_X7_104 ⟨_, rfl⟩ rfl (by decide) (Nat.le_of_ble_eq_true rfl) rfl (c_X4_hasFort _ hX.1 hS hxr) (fun v1 g2 ⟨q1, q2⟩ => ?_)
      subst q1; subst q2
      have hb1 := zB_1 (decide (r (126 + x) ≠ 0))
      refine ZW.icmp_ne (tgt := 50) dX7_fort_44 (by decide) (by first | omega | exact zB_R _) (by first | omega | exact zB_R _) (fun c44 => ?_) (fun c44 => ?_)
      · have hV : fortV r x s = fortsF (fortS r x s) 0 + fortsF (fortS r x s) 1 := by
          unfold fortV
          rw [e, e2, if_pos rfl, if_pos rfl, if_neg]
          intro q
          apply c44
          rw [hw]
          by_cases q0 : r (126 + x) = 0
          · rw [decide_eq_true q0] at q
            have q2 : s = 2 := of_decide_eq_true (by revert q; cases decide (s = 2) <;> decide)
            rw [if_pos q2, decide_eq_false (fun z => z q0)]; rfl
          · rw [decide_eq_false q0] at q
            have q2 : ¬ s = 2 := of_decide_eq_false (by revert q; cases decide (s = 2) <;> decide)
            rw [if_neg q2, decide_eq_true q0]; rfl
        refine ZW.aload_n dX7_fort_50 rfl ?_
        refine ZW.getR dX7_fort_51 fl_X7_34 ⟨_, rfl, rfl⟩ ?_
        refine ZW.aload_n dX7_fort_54 rfl ?_
        refine ZW.getR dX7_fort_55 fl_X7_21 ⟨_, rfl, rfl⟩ ?_
        refine ZW.callVv (as := [_]) dX7_fort_58 cv_X7_76 ⟨_, rfl⟩ rfl (by decide) (Nat.le_of_ble_eq_true rfl) rfl (fun _ _ hz _ => hz) (c_X2_record_3 _ hX hS hH) (fun g3 hr => ?_)
        refine ZW.aload_n dX7_fort_61 rfl ?_
        refine ZW.getR dX7_fort_62 fl_X7_21 ⟨_, rfl, rfl⟩ ?_
        refine ZW.getR dX7_fort_65 fl_X7_107 ⟨_, rfl, rfl⟩ ?_
        refine ZW.iload_n dX7_fort_68 rfl ?_
        refine ZW.iload_n dX7_fort_69 rfl ?_
        refine ZW.if_eq (tgt := 77) dX7_fort_70 (by decide) (by first | omega | exact zB_R _) (fun c70 => ?_) (fun c70 => ?_)
        · have hl := lay hs3 g3 hr hV (some (.inl w))
          rw [if_pos (show s = 2 from Classical.byContradiction (fun z => by rw [if_neg z] at hw; omega))] at hl
          refine ZW.iconst dX7_fort_77 ?_
          exact hl
        · have hl := lay hs3 g3 hr hV (some (.inl w))
          rw [if_neg (show ¬ s = 2 from fun z => by rw [if_pos z] at hw; omega)] at hl
          refine ZW.iload_n dX7_fort_73 rfl ?_
          refine ZW.goto (tgt := 78) dX7_fort_74 (by decide) ?_
          exact hl
      · refine ZW.bipush dX7_fort_47 rfl ?_
        refine ZW.ireti dX7_fort_49 rfl ?_
        refine cDo.neg hS hH ?_ (by decide)
        unfold fortV
        rw [e, e2, if_pos rfl, if_pos rfl, if_pos]
        rw [hw] at c44
        by_cases q2 : s = 2
        · rw [if_pos q2] at c44
          have := of_decide_eq_false (zB_eq c44.symm)
          rw [decide_eq_true q2, decide_eq_true (Classical.byContradiction this)]; rfl
        · rw [if_neg q2] at c44
          have := of_decide_eq_true (zB_ne (b := decide (r (126 + x) ≠ 0)) (by omega))
          rw [decide_eq_false q2, decide_eq_false this]; rfl
    have top : (s = 0 ∨ s = 1 ∨ s = 2) → ZW 4 mX7_fort 24 [some (.inr 0), some (.inl x), some (.inl s), none] [] g1 (fun v g' => v = fortV r x s ∧ cA g1 g' ∧ cDo g' r n H (fortV r x s) (fortS r x s)) := by
      intro hs3
      refine ZW.iload_n dX7_fort_24 rfl ?_
      refine ZW.iconst dX7_fort_25 ?_
      refine ZW.icmp_eq (tgt := 33) dX7_fort_26 (by decide) (by first | omega | exact zB_R _) (by first | omega | exact zB_R _) (fun c26 => ?_) (fun c26 => ?_)
      · refine ZW.iconst dX7_fort_33 ?_
        exact mid hs3 0 (by rw [if_pos c26])
      · refine ZW.iconst dX7_fort_29 ?_
        refine ZW.goto (tgt := 34) dX7_fort_30 (by decide) ?_
        exact mid hs3 1 (by rw [if_neg c26])
    refine ZW.iload_n dX7_fort_9 rfl ?_
    refine ZW.callS (as := [_]) dX7_fort_10 cs_X7_101 rfl (by decide) (Nat.le_of_ble_eq_true rfl) rfl (c_X7_isSide _ hs) (fun v1 g2 ⟨q1, q2⟩ => ?_)
    subst q1; subst q2
    refine ZW.if_ne (tgt := 24) dX7_fort_13 (by decide) (by first | omega | exact zB_R _) (fun c13 => ?_) (fun c13 => ?_)
    · have := of_decide_eq_true (zB_ne c13)
      exact top (by omega)
    · have hn2 := of_decide_eq_false (zB_eq c13)
      refine ZW.iload_n dX7_fort_16 rfl ?_
      refine ZW.iconst dX7_fort_17 ?_
      refine ZW.icmp_eq (tgt := 24) dX7_fort_18 (by decide) (by first | omega | exact zB_R _) (by first | omega | exact zB_R _) (fun c18 => ?_) (fun c18 => ?_)
      · exact top (Or.inr (Or.inr c18))
      · refine ZW.bipush dX7_fort_21 rfl ?_
        refine ZW.ireti dX7_fort_23 rfl ?_
        exact cDo.neg hS hH (by unfold fortV inB; rw [e, decide_eq_false (by omega)]; rfl) (by decide)
  · have e := zB_eq c4
    refine ZW.iconst dX7_fort_7 ?_
    refine ZW.ireti dX7_fort_8 rfl ?_
    exact cDo.neg hS hH (by unfold fortV; rw [e]; rfl) (by decide)
