-- the class: place, the text, undo, keep, restore
def plR (r : Int → Int) (s st : Int) : Int → Int := layF (layF (layF (layF (zUp r 192 (r 192 + 1)) (r 192) 0 s) (r 192) 1 st) (r 192) 3 4) (r 192) 4 1
def plQ (r : Int → Int) (s st x : Int) : Int → Int := layF (plR r s st) (r 192) 2 x
theorem plR_ne {r : Int → Int} {s st z w : Int} (hz : 0 ≤ z) (hw : 0 ≤ w ∧ w < 6) (h : z ≠ r 192) : ofF (plR r s st) z w = ofF r z w := by
  unfold plR
  rw [layF_ne (by decide) hw (Or.inl h), layF_ne (by decide) hw (Or.inl h), layF_ne (by decide) hw (Or.inl h), layF_ne (by decide) hw (Or.inl h)]
  exact zUp_ne _ _ (by omega)
theorem plR_lo {r : Int → Int} {s st i : Int} (hn : 0 ≤ r 192) (hi : i < 192) : plR r s st i = r i := by
  unfold plR
  rw [layF_192 hn (by decide) (by omega), layF_192 hn (by decide) (by omega), layF_192 hn (by decide) (by omega), layF_192 hn (by decide) (by omega)]
  exact zUp_ne _ _ (by omega)
theorem plR_192 {r : Int → Int} {s st : Int} (hn : 0 ≤ r 192) : plR r s st 192 = r 192 + 1 := by
  unfold plR
  rw [layF_192 hn (by decide) (by omega), layF_192 hn (by decide) (by omega), layF_192 hn (by decide) (by omega), layF_192 hn (by decide) (by omega)]
  exact zUp_same _ _ _
theorem plR_at {r : Int → Int} {s st : Int} (hn : 0 ≤ r 192) : ofF (plR r s st) (r 192) 0 = s ∧ ofF (plR r s st) (r 192) 1 = st ∧ ofF (plR r s st) (r 192) 3 = 4 ∧ ofF (plR r s st) (r 192) 4 = 1 ∧ ofF (plR r s st) (r 192) 5 = ofF r (r 192) 5 := by
  unfold plR
  refine ⟨?_, ?_, ?_, ?_, ?_⟩
  · rw [layF_ne (by decide) (by decide) (Or.inr (by decide)), layF_ne (by decide) (by decide) (Or.inr (by decide)), layF_ne (by decide) (by decide) (Or.inr (by decide)), layF_same]
  · rw [layF_ne (by decide) (by decide) (Or.inr (by decide)), layF_ne (by decide) (by decide) (Or.inr (by decide)), layF_same]
  · rw [layF_ne (by decide) (by decide) (Or.inr (by decide)), layF_same]
  · rw [layF_same]
  · rw [layF_ne (by decide) (by decide) (Or.inr (by decide)), layF_ne (by decide) (by decide) (Or.inr (by decide)), layF_ne (by decide) (by decide) (Or.inr (by decide)), layF_ne (by decide) (by decide) (Or.inr (by decide))]
    exact zUp_ne _ _ (by omega)
theorem plQ_ne {r : Int → Int} {s st x z w : Int} (hz : 0 ≤ z) (hw : 0 ≤ w ∧ w < 6) (h : z ≠ r 192) : ofF (plQ r s st x) z w = ofF r z w := (layF_ne (by decide) hw (Or.inl h)).trans (plR_ne hz hw h)
theorem plQ_lo {r : Int → Int} {s st x i : Int} (hn : 0 ≤ r 192) (hi : i < 192) : plQ r s st x i = r i := (layF_192 hn (by decide) (by omega)).trans (plR_lo hn hi)
theorem plQ_192 {r : Int → Int} {s st x : Int} (hn : 0 ≤ r 192) : plQ r s st x 192 = r 192 + 1 := (layF_192 hn (by decide) (by omega)).trans (plR_192 hn)
theorem plQ_at {r : Int → Int} {s st x : Int} (hn : 0 ≤ r 192) : ofF (plQ r s st x) (r 192) 0 = s ∧ ofF (plQ r s st x) (r 192) 1 = st ∧ ofF (plQ r s st x) (r 192) 2 = x ∧ ofF (plQ r s st x) (r 192) 3 = 4 ∧ ofF (plQ r s st x) (r 192) 4 = 1 ∧ ofF (plQ r s st x) (r 192) 5 = ofF r (r 192) 5 := by
  obtain ⟨h0, h1, h3, h4, h5⟩ := plR_at (s := s) (st := st) hn
  unfold plQ
  rw [layF_ne (w2 := 0) (by decide) (by decide) (Or.inr (by decide)), layF_ne (w2 := 1) (by decide) (by decide) (Or.inr (by decide)), layF_ne (w2 := 3) (by decide) (by decide) (Or.inr (by decide)), layF_ne (w2 := 4) (by decide) (by decide) (Or.inr (by decide)), layF_ne (w2 := 5) (by decide) (by decide) (Or.inr (by decide)), layF_same]
  exact ⟨h0, h1, rfl, h3, h4, h5⟩
theorem okA_plQ {r : Int → Int} (hA : okA r) {s st x : Int} (h16 : r 192 ≠ 16) (hs : s = 0 ∨ s = 1) (hst : 1 ≤ st ∧ st ≤ 9) (hx : 0 ≤ x ∧ x < 63) (hn : unitOnF r x = -5) : okA (plQ r s st x) := by
  obtain ⟨⟨hB, hU, hT⟩, hN, hV, hF, hZ⟩ := hA
  have h0 := (hB.1 192 (by decide) (by decide)).1
  have h16' := hB.2
  obtain ⟨p0, p1, p2, p3, p4, p5⟩ := plQ_at (s := s) (st := st) (x := x) h0
  have e192 := plQ_192 (s := s) (st := st) (x := x) h0
  have lo : ∀ i, i < 192 → plQ r s st x i = r i := fun i hi => plQ_lo h0 hi
  have ne : ∀ z w, 0 ≤ z → 0 ≤ w → w < 6 → z ≠ r 192 → ofF (plQ r s st x) z w = ofF r z w := fun z w hz hw hw2 q => plQ_ne hz ⟨hw, hw2⟩ q
  have e5 : ∀ z, 0 ≤ z → ofF (plQ r s st x) z 5 = ofF r z 5 := fun z z0 => by
    by_cases q : z = r 192
    · rw [q]; exact p5
    · exact ne z 5 z0 (by decide) (by decide) q
  refine ⟨⟨?_, fun z z0 z1 => ?_, fun z z0 z1 => ?_, by rw [lo 191 (by decide)]; exact hT.2⟩, fun a b a0 a1 b0 b1 ha hb hab => ?_, okV_off hV (fun y y0 y1 => lo _ (by omega)), fun y y0 y1 => by rw [lo _ (by omega)]; exact hF y y0 y1, fun z z0 z1 => ?_⟩
  · unfold plQ plR
    exact okB_lay (okB_lay (okB_lay (okB_lay (okB_lay (okB_192 hB h16) h0 (by decide) (by omega)) h0 (by decide) (by omega)) h0 (by decide) (by decide)) h0 (by decide) (by decide)) h0 (by decide) (by omega)
  · by_cases q : z = r 192
    · rw [q, p0, p2]; exact ⟨hs, hx⟩
    · rw [ne z 0 z0 (by decide) (by decide) q, ne z 2 z0 (by decide) (by decide) q]; exact hU z z0 z1
  · rw [e5 z z0, lo 191 (by decide)]; exact hT.1 z z0 z1
  · rw [e192] at a1 b1
    by_cases qa : a = r 192
    · by_cases qb : b = r 192
      · rw [qa, qb]
      · rw [qa, p2, ne b 2 b0 (by decide) (by decide) qb] at hab
        rw [ne b 1 b0 (by decide) (by decide) qb] at hb
        exact absurd ⟨hb, hab.symm⟩ (unitOnF_no hn b0 (by omega))
    · rw [ne a 1 a0 (by decide) (by decide) qa] at ha
      rw [ne a 2 a0 (by decide) (by decide) qa] at hab
      by_cases qb : b = r 192
      · rw [qb, p2] at hab
        exact absurd ⟨ha, hab⟩ (unitOnF_no hn a0 (by omega))
      · rw [ne b 1 b0 (by decide) (by decide) qb] at hb
        rw [ne b 2 b0 (by decide) (by decide) qb] at hab
        exact hN a b a0 (by omega) b0 (by omega) ha hb hab
  · rw [e192] at z0
    rw [e5 z (by omega)]
    exact hZ z (by omega) z1
theorem c_X4_addUnit (g : ZH) {r : Int → Int} (hX : okX r) (hS : StN g r) {s st x : Int} (h16 : r 192 ≠ 16) (hs : s = 0 ∨ s = 1) (hst : 1 ≤ st ∧ st ≤ 9) (hx : 0 ≤ x ∧ x < 63) (hn : unitOnF r x = -5) : ZC 3 mX4_addUnit [.inr 3, .inl s, .inl st, .inl x] g (fun v g' => v = r 192 ∧ zFr [3, 6, 7, 9, 10, 11, 12, 13, 14] g g' ∧ StN g' (plcS r s st x) ∧ okX (plcS r s st x)) := by
  have hA := hX.1
  have h0 := (hA.1.1.1 192 (by decide) (by decide)).1
  have h16' := hA.1.1.2
  have h6 : g 3 6 = r 192 := hS.2.2.1.1
  have hQ := okA_plQ hA h16 hs hst hx hn
  obtain ⟨p0, p1, p2, p3, p4, p5⟩ := plQ_at (s := s) (st := st) (x := x) h0
  have p5' := p5.trans (hA.2.2.2.2 (r 192) (by omega) (by omega))
  have e192 := plQ_192 (s := s) (st := st) (x := x) h0
  have lo : ∀ i, i < 192 → plQ r s st x i = r i := fun i hi => plQ_lo h0 hi
  have ne : ∀ z w, 0 ≤ z → 0 ≤ w → w < 6 → z ≠ r 192 → ofF (plQ r s st x) z w = ofF r z w := fun z w hz hw hw2 q => plQ_ne hz ⟨hw, hw2⟩ q
  have hgv : gvF (plQ r s st x) x = plcS r s st x := gv_stands hQ h0 (by rw [plR_192 h0]; omega) (by rw [(plR_at h0).2.1]; omega) hx
  have hXp : okX (plcS r s st x) := by
    refine ⟨?_, fun z z0 z1 => ?_⟩
    · rw [← hgv]
      unfold gvF
      split
      · have hsd := sdF_R hQ x
        exact okA_lo hQ (by omega) (by omega) (Or.inr (by omega)) (fun _ _ => by omega)
      · exact hQ
    · show ofF (standsF (plR r s st) (r 192) x) z 4 ≤ 1
      rw [standsF_of h0 hx.2 z0 (by decide) (Or.inr (by decide))]
      by_cases q : z = r 192
      · rw [q, (plR_at h0).2.2.2.1]; decide
      · rw [plR_ne z0 (by decide) q]; exact hX.2 z z0 z1
  refine ZC.of (by decide +kernel) (Nat.le_of_ble_eq_true rfl) ?_
  refine ZW.aload_n dX4_addUnit_0 rfl ?_
  refine ZW.getI (fz := 6) dX4_addUnit_1 fl_X4_61 ⟨_, rfl, rfl⟩ rfl rfl ?_
  rw [h6]
  refine ZW.istore dX4_addUnit_4 (by decide) rfl ?_
  refine ZW.aload_n dX4_addUnit_6 rfl ?_
  refine ZW.dup dX4_addUnit_7 ?_
  refine ZW.getI (fz := 6) dX4_addUnit_8 fl_X4_61 ⟨_, rfl, rfl⟩ rfl rfl ?_
  rw [h6]
  refine ZW.iconst dX4_addUnit_11 ?_
  refine ZW.iadd dX4_addUnit_12 ?_
  refine ZW.puti (fz := 6) dX4_addUnit_13 fp_X4_61 ⟨_, rfl, rfl⟩ rfl ?_
  refine ZW.aload_n dX4_addUnit_16 rfl ?_
  refine ZW.getR dX4_addUnit_17 fl_X4_27 ⟨_, rfl, rfl⟩ ?_
  refine ZW.iload dX4_addUnit_20 rfl ?_
  refine ZW.iload_n dX4_addUnit_22 rfl ?_
  refine ZW.iast dX4_addUnit_23 rfl (by decide) (by omega) ?_
  refine ZW.aload_n dX4_addUnit_24 rfl ?_
  refine ZW.getR dX4_addUnit_25 fl_X4_30 ⟨_, rfl, rfl⟩ ?_
  refine ZW.iload dX4_addUnit_28 rfl ?_
  refine ZW.iload_n dX4_addUnit_30 rfl ?_
  refine ZW.iast dX4_addUnit_31 rfl (by decide) (by omega) ?_
  refine ZW.aload_n dX4_addUnit_32 rfl ?_
  refine ZW.getR dX4_addUnit_33 fl_X4_36 ⟨_, rfl, rfl⟩ ?_
  refine ZW.iload dX4_addUnit_36 rfl ?_
  refine ZW.iconst dX4_addUnit_38 ?_
  refine ZW.iast dX4_addUnit_39 rfl (by decide) (by omega) ?_
  refine ZW.aload_n dX4_addUnit_40 rfl ?_
  refine ZW.getR dX4_addUnit_41 fl_X4_39 ⟨_, rfl, rfl⟩ ?_
  refine ZW.iload dX4_addUnit_44 rfl ?_
  refine ZW.iconst dX4_addUnit_46 ?_
  refine ZW.iast dX4_addUnit_47 rfl (by decide) (by omega) ?_
  refine ZW.aload_n dX4_addUnit_48 rfl ?_
  refine ZW.getR dX4_addUnit_49 fl_X4_42 ⟨_, rfl, rfl⟩ ?_
  refine ZW.iload dX4_addUnit_52 rfl ?_
  refine ZW.iconst dX4_addUnit_54 ?_
  refine ZW.iast dX4_addUnit_55 rfl (by decide) (by omega) ?_
  obtain ⟨G, hG⟩ : ∃ G, G = zSet (zSet (zSet (zSet (zSet (zSet g 3 6 (r 192 + 1)) 9 (r 192) s) 10 (r 192) st) 12 (r 192) 4) 13 (r 192) 1) 14 (r 192) 0 := ⟨_, rfl⟩
  have fG : zFr [3, 6, 7, 9, 10, 11, 12, 13, 14] g G := by
    rw [hG]
    exact ((((((zFr.rf _ _).set (by decide) _ _).set (by decide) _ _).set (by decide) _ _).set (by decide) _ _).set (by decide) _ _).set (by decide) _ _
  have SG : StN (zSet (zSet G 11 (r 192) x) 7 x (r 192)) (plQ r s st x) := by
    rw [hG]
    refine ⟨fun y y0 y1 => ?_, ?_, ?_, fun z z0 z1 => ?_⟩
    · rw [lo y (by omega), lo (63 + y) (by omega), lo (126 + y) (by omega)]
      have h1 := hS.1 y y0 y1
      refine ⟨h1.1, h1.2.1, h1.2.2.1, ?_⟩
      show zUp (g 7) x (r 192) y = _
      by_cases q : y = x
      · have := uoN_on hQ h0 (by rw [e192]; omega) (by rw [p1]; omega)
        rw [p2] at this
        rw [q, zUp_same, this]
      · rw [zUp_ne _ _ q, h1.2.2.2]
        by_cases q2 : unitOnF r y = -5
        · rw [uoN_no q2, uoN_no]
          refine uo_none hQ.1.1 (fun z z0 z1 hz => ?_)
          rw [e192] at z1
          by_cases q3 : z = r 192
          · rw [q3, p2] at hz; exact q hz.2.symm
          · rw [ne z 1 z0 (by decide) (by decide) q3, ne z 2 z0 (by decide) (by decide) q3] at hz
            exact unitOnF_no q2 z0 (by omega) hz
        · obtain ⟨a1, a2, a3, a4, a5⟩ := (unitOnF_R hA.1.1 y).resolve_left q2
          have := uoN_on hQ (u := unitOnF r y) a1 (by rw [e192]; omega) (by rw [ne _ 1 a1 (by decide) (by decide) (by omega)]; exact a4)
          rw [ne _ 2 a1 (by decide) (by decide) (by omega), a5] at this
          rw [this]
          unfold uoN
          rw [if_neg q2]
    · rw [lo 189 (by decide), lo 190 (by decide)]; exact hS.2.1
    · rw [e192, lo 191 (by decide)]
      show zUp (g 3) 6 (r 192 + 1) 6 = _ ∧ zUp (g 3) 6 (r 192 + 1) 13 = _
      rw [zUp_same, zUp_ne _ _ (by decide)]
      exact ⟨rfl, hS.2.2.1.2⟩
    · rw [e192] at z1
      show zUp (g 9) (r 192) s z = _ ∧ zUp (g 10) (r 192) st z = _ ∧ zUp (g 11) (r 192) x z = _ ∧ zUp (g 14) (r 192) 0 z = _ ∧ (_ → zUp (g 12) (r 192) 4 z = _ ∧ zUp (g 13) (r 192) 1 z = _)
      by_cases q : z = r 192
      · rw [q, p0, p1, p2, p3, p4, p5', zUp_same, zUp_same, zUp_same, zUp_same, zUp_same, zUp_same]
        exact ⟨rfl, rfl, rfl, rfl, fun _ => ⟨rfl, rfl⟩⟩
      · rw [ne z 0 z0 (by decide) (by decide) q, ne z 1 z0 (by decide) (by decide) q, ne z 2 z0 (by decide) (by decide) q, ne z 3 z0 (by decide) (by decide) q, ne z 4 z0 (by decide) (by decide) q, ne z 5 z0 (by decide) (by decide) q, zUp_ne _ _ q, zUp_ne _ _ q, zUp_ne _ _ q, zUp_ne _ _ q, zUp_ne _ _ q, zUp_ne _ _ q]
        exact hS.2.2.2 z z0 (by omega)
  rw [← hG]
  refine ZW.aload_n dX4_addUnit_56 rfl ?_
  refine ZW.iload dX4_addUnit_57 rfl ?_
  refine ZW.iload_n dX4_addUnit_59 rfl ?_
  refine ZW.callVv (as := [_, _]) dX4_addUnit_60 cv_X4_72 ⟨_, rfl⟩ rfl (by decide) (Nat.le_of_ble_eq_true rfl) rfl (fun _ _ hz _ => hz) (c_X4_stand _ hQ ⟨h0, by omega⟩ hx SG) (fun g1 ⟨f1, s1⟩ => ?_)
  refine ZW.iload dX4_addUnit_63 rfl ?_
  refine ZW.ireti dX4_addUnit_65 rfl ?_
  rw [hgv] at s1
  exact ⟨rfl, fG.tr (f1.up (by decide)), s1, hXp⟩
theorem c_X7_place (g : ZH) {r : Int → Int} {n : Int} {H : Int → Int → Int} (hX : okX r) (hS : StN g r) (hH : HisN g n H) {s st x : Int} (hs : zR s) (hst : zR st) (hx : zR x) : ZC 4 mX7_place [.inr 0, .inl s, .inl st, .inl x] g (fun v g' => v = plcV r s st x ∧ cA g g' ∧ cDo g' r n H (plcV r s st x) (plcS r s st x) ∧ (0 ≤ plcV r s st x → okX (plcS r s st x))) := by
  have h192 := hX.1.1.1.1 192 (by decide) (by decide)
  have h16 := hX.1.1.1.2
  have neg : ∀ {g : ZH} {v : Int}, StN g r → HisN g n H → plcV r s st x = v → v < 0 → v = plcV r s st x ∧ cA g g ∧ cDo g r n H (plcV r s st x) (plcS r s st x) ∧ (0 ≤ plcV r s st x → okX (plcS r s st x)) := fun hS hH hV hv => by
    have h := cDo.neg (F := plcS r s st x) hS hH hV hv
    exact ⟨h.1, h.2.1, h.2.2, fun q => by omega⟩
  refine ZC.of (by decide +kernel) (Nat.le_of_ble_eq_true rfl) ?_
  refine ZW.iload_n dX7_place_0 rfl ?_
  refine ZW.callS (as := [_]) dX7_place_1 cs_X7_101 rfl (by decide) (Nat.le_of_ble_eq_true rfl) rfl (c_X7_isSide _ hs) (fun v1 g1 ⟨q1, q2⟩ => ?_)
  subst q1; subst q2
  refine ZW.if_eq (tgt := 14) dX7_place_4 (by decide) (by first | omega | exact zB_R _) (fun c4 => ?_) (fun c4 => ?_)
  · have e := zB_eq c4
    refine ZW.iconst dX7_place_14 ?_
    refine ZW.ireti dX7_place_15 rfl ?_
    exact neg hS hH (by unfold plcV; rw [e]; rfl) (by decide)
  · have e := zB_ne c4
    have hsr := of_decide_eq_true e
    refine ZW.iload_n dX7_place_7 rfl ?_
    refine ZW.callS (as := [_]) dX7_place_8 cs_X7_68 rfl (by decide) (Nat.le_of_ble_eq_true rfl) rfl (c_X0_isHex _ hx) (fun v1 g1 ⟨q1, q2⟩ => ?_)
    subst q1; subst q2
    refine ZW.if_ne (tgt := 16) dX7_place_11 (by decide) (by first | omega | exact zB_R _) (fun c11 => ?_) (fun c11 => ?_)
    · have e2 := zB_ne c11
      have hxr := isHexB_t e2
      have bad : ¬ (1 ≤ st ∧ st ≤ 9) → ZW 4 mX7_place 27 [some (.inr 0), some (.inl s), some (.inl st), some (.inl x)] [] g1 (fun v g' => v = plcV r s st x ∧ cA g1 g' ∧ cDo g' r n H (plcV r s st x) (plcS r s st x) ∧ (0 ≤ plcV r s st x → okX (plcS r s st x))) := by
        intro hno
        refine ZW.bipush dX7_place_27 rfl ?_
        refine ZW.ireti dX7_place_29 rfl ?_
        exact neg hS hH (by unfold plcV; rw [e, e2, show inB st 1 9 = false from decide_eq_false hno]; rfl) (by decide)
      refine ZW.iload_n dX7_place_16 rfl ?_
      refine ZW.iconst dX7_place_17 ?_
      refine ZW.icmp_lt (tgt := 27) dX7_place_18 (by decide) (by first | omega | exact zB_R _) (by first | omega | exact zB_R _) (fun c18 => ?_) (fun c18 => ?_)
      · exact bad (by omega)
      · refine ZW.iload_n dX7_place_21 rfl ?_
        refine ZW.bipush dX7_place_22 rfl ?_
        refine ZW.icmp_le (tgt := 30) dX7_place_24 (by decide) (by first | omega | exact zB_R _) (by first | omega | exact zB_R _) (fun c24 => ?_) (fun c24 => ?_)
        · have e3 : inB st 1 9 = true := decide_eq_true ⟨by omega, by omega⟩
          refine ZW.aload_n dX7_place_30 rfl ?_
          refine ZW.getR dX7_place_31 fl_X7_21 ⟨_, rfl, rfl⟩ ?_
          refine ZW.getI (fz := 6) dX7_place_34 fl_X7_120 ⟨_, rfl, rfl⟩ rfl rfl ?_
          rw [show g1 3 6 = r 192 from hS.2.2.1.1]
          refine ZW.bipush dX7_place_37 rfl ?_
          refine ZW.icmp_lt (tgt := 45) dX7_place_39 (by decide) (by first | omega | exact zB_R _) (by first | omega | exact zB_R _) (fun c39 => ?_) (fun c39 => ?_)
          · have hsd := sdF_R hX.1 x
            have hno := sdF_no hX.1 x
            refine ZW.aload_n dX7_place_45 rfl ?_
            refine ZW.getR dX7_place_46 fl_X7_21 ⟨_, rfl, rfl⟩ ?_
            refine ZW.iload_n dX7_place_49 rfl ?_
            refine ZW.callV (as := [_]) dX7_place_50 cv_X7_124 ⟨_, rfl⟩ rfl (by decide) (Nat.le_of_ble_eq_true rfl) rfl (c_X4_sideOn _ hX.1 hS hxr) (fun v1 g2 ⟨q1, q2⟩ => ?_)
            subst q1; subst q2
            refine ZW.iconst dX7_place_53 ?_
            refine ZW.icmp_eq (tgt := 60) dX7_place_54 (by decide) (by first | omega | exact zB_R _) (by first | omega | exact zB_R _) (fun c54 => ?_) (fun c54 => ?_)
            · have h5 := hno.mp c54
              refine ZW.aload_n dX7_place_60 rfl ?_
              refine ZW.getR dX7_place_61 fl_X7_34 ⟨_, rfl, rfl⟩ ?_
              refine ZW.aload_n dX7_place_64 rfl ?_
              refine ZW.getR dX7_place_65 fl_X7_21 ⟨_, rfl, rfl⟩ ?_
              refine ZW.callVv (as := [_]) dX7_place_68 cv_X7_76 ⟨_, rfl⟩ rfl (by decide) (Nat.le_of_ble_eq_true rfl) rfl (fun _ _ hz _ => hz) (c_X2_record_3 _ hX hS hH) (fun g3 hr => ?_)
              refine ZW.aload_n dX7_place_71 rfl ?_
              refine ZW.getR dX7_place_72 fl_X7_21 ⟨_, rfl, rfl⟩ ?_
              refine ZW.iload_n dX7_place_75 rfl ?_
              refine ZW.iload_n dX7_place_76 rfl ?_
              refine ZW.iload_n dX7_place_77 rfl ?_
              refine ZW.callV (as := [_, _, _]) dX7_place_78 cv_X7_127 ⟨_, rfl⟩ rfl (by decide) (Nat.le_of_ble_eq_true rfl) rfl (c_X4_addUnit _ hX (rec_now hS hr.1) (by omega) (by omega) ⟨by omega, by omega⟩ hxr h5) (fun v4 g4 ⟨q4, f4, S4, X4⟩ => ?_)
              subst q4
              refine ZW.ireti dX7_place_81 rfl ?_
              have h := cDo.yes hr (frA.of f4 (by decide)) S4 (v := r 192) (V := plcV r s st x) (by unfold plcV; rw [e, e2, e3]; simp only [Bool.and_self, if_true]; rw [if_neg (by omega), if_pos h5]) h192.1
              exact ⟨h.1, h.2.1, h.2.2, fun _ => X4⟩
            · refine ZW.bipush dX7_place_57 rfl ?_
              refine ZW.ireti dX7_place_59 rfl ?_
              exact neg hS hH (by unfold plcV; rw [e, e2, e3]; simp only [Bool.and_self, if_true]; rw [if_neg (by omega), if_neg (fun z => c54 (hno.mpr z))]) (by decide)
          · refine ZW.bipush dX7_place_42 rfl ?_
            refine ZW.ireti dX7_place_44 rfl ?_
            exact neg hS hH (by unfold plcV; rw [e, e2, e3]; simp only [Bool.and_self, if_true]; rw [if_pos (by omega)]) (by decide)
        · exact bad (by omega)
    · have e2 := zB_eq c11
      refine ZW.iconst dX7_place_14 ?_
      refine ZW.ireti dX7_place_15 rfl ?_
      exact neg hS hH (by unfold plcV; rw [e, e2]; rfl) (by decide)
-- the text
theorem c_X3_append (g : ZH) {L c : Int} (hL : g 89 1 = L) (hL2 : 0 ≤ L ∧ L ≤ 60) (hc : 0 ≤ c ∧ c < 65536) : ZC 0 mX3_append [.inr 89, .inl c] g (fun v g' => v = zB (decide (L < 60)) ∧ (L = 60 → g' = g) ∧ (L < 60 → g' = zSet (zSet g 90 L c) 89 1 (L + 1))) := by
  refine ZC.of (by decide +kernel) (Nat.le_of_ble_eq_true rfl) ?_
  refine ZW.aload_n dX3_append_0 rfl ?_
  refine ZW.getI (fz := 1) dX3_append_1 fl_X3_23 ⟨_, rfl, rfl⟩ rfl rfl ?_
  rw [hL]
  refine ZW.bipush dX3_append_4 rfl ?_
  refine ZW.icmp_lt (tgt := 11) dX3_append_6 (by decide) (by first | omega | exact zB_R _) (by first | omega | exact zB_R _) (fun c6 => ?_) (fun c6 => ?_)
  · refine ZW.aload_n dX3_append_11 rfl ?_
    refine ZW.getR dX3_append_12 fl_X3_9 ⟨_, rfl, rfl⟩ ?_
    refine ZW.aload_n dX3_append_15 rfl ?_
    refine ZW.getI (fz := 1) dX3_append_16 fl_X3_23 ⟨_, rfl, rfl⟩ rfl rfl ?_
    rw [hL]
    refine ZW.iload_n dX3_append_19 rfl ?_
    refine ZW.cast dX3_append_20 rfl (by decide) (by omega) (by omega) ?_
    refine ZW.aload_n dX3_append_21 rfl ?_
    refine ZW.dup dX3_append_22 ?_
    refine ZW.getI (fz := 1) dX3_append_23 fl_X3_23 ⟨_, rfl, rfl⟩ rfl rfl ?_
    rw [show (zSet g 90 L c) 89 = g 89 from rfl, hL]
    refine ZW.iconst dX3_append_26 ?_
    refine ZW.iadd dX3_append_27 ?_
    refine ZW.puti (fz := 1) dX3_append_28 fp_X3_23 ⟨_, rfl, rfl⟩ rfl ?_
    refine ZW.iconst dX3_append_31 ?_
    refine ZW.iretz dX3_append_32 rfl (by first | exact Or.inl rfl | exact Or.inr rfl | assumption | omega) ?_
    exact ⟨by rw [decide_eq_true c6]; rfl, fun q => by omega, fun _ => rfl⟩
  · refine ZW.iconst dX3_append_9 ?_
    refine ZW.iretz dX3_append_10 rfl (by first | exact Or.inl rfl | exact Or.inr rfl | assumption | omega) ?_
    exact ⟨by rw [decide_eq_false (by omega)]; rfl, fun _ => rfl, fun q => by omega⟩
theorem c_X7_type (g : ZH) {L c : Int} (hL : g 89 1 = L) (hL2 : 0 ≤ L ∧ L ≤ 60) (hc : 0 ≤ c ∧ c < 65536) : ZC 1 mX7_type [.inr 0, .inl c] g (fun v g' => v = typV L ∧ (L = 60 → g' = g) ∧ (L < 60 → g' = zSet (zSet g 90 L c) 89 1 (L + 1))) := by
  refine ZC.of (by decide +kernel) (Nat.le_of_ble_eq_true rfl) ?_
  refine ZW.aload_n dX7_type_0 rfl ?_
  refine ZW.getR dX7_type_1 fl_X7_41 ⟨_, rfl, rfl⟩ ?_
  refine ZW.iload_n dX7_type_4 rfl ?_
  refine ZW.callV (as := [_]) dX7_type_5 cv_X7_237 ⟨_, rfl⟩ rfl (by decide) (Nat.le_of_ble_eq_true rfl) rfl (c_X3_append _ hL hL2 hc) (fun v1 g1 ⟨q1, q2, q3⟩ => ?_)
  subst q1
  refine ZW.if_eq (tgt := 21) dX7_type_8 (by decide) (by first | omega | exact zB_R _) (fun c8 => ?_) (fun c8 => ?_)
  · have e := of_decide_eq_false (zB_eq c8)
    refine ZW.bipush dX7_type_21 rfl ?_
    refine ZW.ireti dX7_type_23 rfl ?_
    exact ⟨by unfold typV; rw [if_pos (by omega)], q2, q3⟩
  · have e := of_decide_eq_true (zB_ne c8)
    have e2 := q3 e
    refine ZW.aload_n dX7_type_11 rfl ?_
    refine ZW.getR dX7_type_12 fl_X7_41 ⟨_, rfl, rfl⟩ ?_
    refine ZW.getI (fz := 1) dX7_type_15 fl_X7_241 ⟨_, rfl, rfl⟩ rfl rfl ?_
    rw [e2, zSet_same, zUp_same]
    refine ZW.goto (tgt := 23) dX7_type_18 (by decide) ?_
    refine ZW.ireti dX7_type_23 rfl ?_
    exact ⟨by unfold typV; rw [if_neg (by omega)], fun q => by omega, fun _ => rfl⟩
theorem c_X7_clearText (g : ZH) : ZC 0 mX7_clearText [.inr 0] g (fun v g' => v = g 89 1 ∧ g' = zSet g 89 1 0) := by
  refine ZC.of (by decide +kernel) (Nat.le_of_ble_eq_true rfl) ?_
  refine ZW.aload_n dX7_clearText_0 rfl ?_
  refine ZW.getR dX7_clearText_1 fl_X7_41 ⟨_, rfl, rfl⟩ ?_
  refine ZW.getI (fz := 1) dX7_clearText_4 fl_X7_241 ⟨_, rfl, rfl⟩ rfl rfl ?_
  refine ZW.istore_n dX7_clearText_7 (by decide) rfl ?_
  refine ZW.aload_n dX7_clearText_8 rfl ?_
  refine ZW.getR dX7_clearText_9 fl_X7_41 ⟨_, rfl, rfl⟩ ?_
  refine ZW.iconst dX7_clearText_12 ?_
  refine ZW.puti (fz := 1) dX7_clearText_13 fp_X7_241 ⟨_, rfl, rfl⟩ rfl ?_
  refine ZW.iload_n dX7_clearText_16 rfl ?_
  refine ZW.ireti dX7_clearText_17 rfl ?_
  exact ⟨rfl, rfl⟩
theorem c_X7_undo (g : ZH) {r : Int → Int} {n : Int} {H : Int → Int → Int} (hS : StN g r) (hH : HisN g n H) : ZC 4 mX7_undo [.inr 0] g (fun v g' => v = (if n = 0 then -5 else n - 1) ∧ (∀ k, k < 3 ∨ (15 ≤ k ∧ k ≠ 87) → g' k = g k) ∧ (n = 0 → g' = g) ∧ (n ≠ 0 → StN g' (H 0) ∧ HisN g' (n - 1) (fun k => H (k + 1)))) := by
  have hn := hH.2.2.1
  refine ZC.of (by decide +kernel) (Nat.le_of_ble_eq_true rfl) ?_
  refine ZW.aload_n dX7_undo_0 rfl ?_
  refine ZW.getR dX7_undo_1 fl_X7_34 ⟨_, rfl, rfl⟩ ?_
  refine ZW.aload_n dX7_undo_4 rfl ?_
  refine ZW.getR dX7_undo_5 fl_X7_21 ⟨_, rfl, rfl⟩ ?_
  refine ZW.callV (as := [_]) dX7_undo_8 cv_X7_244 ⟨_, rfl⟩ rfl (by decide) (Nat.le_of_ble_eq_true rfl) rfl (c_X2_takeBack _ hS hH) (fun v1 g1 ⟨q1, f1, n1, y1⟩ => ?_)
  subst q1
  refine ZW.if_eq (tgt := 24) dX7_undo_11 (by decide) (by first | omega | exact zB_R _) (fun c11 => ?_) (fun c11 => ?_)
  · have e := of_decide_eq_false (zB_eq c11)
    have e0 : n = 0 := Classical.byContradiction e
    refine ZW.bipush dX7_undo_24 rfl ?_
    refine ZW.ireti dX7_undo_26 rfl ?_
    exact ⟨by rw [if_pos e0], f1, n1, y1⟩
  · have e := of_decide_eq_true (zB_ne c11)
    have e2 := (y1 e).2.2.1
    refine ZW.aload_n dX7_undo_14 rfl ?_
    refine ZW.getR dX7_undo_15 fl_X7_34 ⟨_, rfl, rfl⟩ ?_
    refine ZW.getI (fz := 2) dX7_undo_18 fl_X7_248 ⟨_, rfl, rfl⟩ rfl rfl ?_
    rw [e2]
    refine ZW.goto (tgt := 26) dX7_undo_21 (by decide) ?_
    refine ZW.ireti dX7_undo_26 rfl ?_
    exact ⟨by rw [if_neg e], f1, n1, y1⟩
theorem c_X7_keep (g : ZH) {r : Int → Int} (hX : okX r) (hS : StN g r) : ZC 3 mX7_keep [.inr 0] g (fun v g' => v = r 191 ∧ (∀ k, k ≠ 0 → (k < 27 ∨ 39 ≤ k) → g' k = g k) ∧ StAt g' 27 r ∧ g' 0 4 = 1) := by
  have h16 := hX.1.1.1.2
  refine ZC.of (by decide +kernel) (Nat.le_of_ble_eq_true rfl) ?_
  refine ZW.aload_n dX7_keep_0 rfl ?_
  refine ZW.getR dX7_keep_1 fl_X7_28 ⟨_, rfl, rfl⟩ ?_
  refine ZW.aload_n dX7_keep_4 rfl ?_
  refine ZW.getR dX7_keep_5 fl_X7_21 ⟨_, rfl, rfl⟩ ?_
  refine ZW.callVv (as := [_]) dX7_keep_8 cv_X7_131 ⟨_, rfl⟩ rfl (by decide) (Nat.le_of_ble_eq_true rfl) rfl (fun _ _ hz _ => hz) (c_X4_copyFrom_27_3 _ h16 hS) (fun g1 ⟨f1, s1⟩ => ?_)
  have e13 : (zSet g1 0 4 1) 3 13 = r 191 := by rw [zSet_ne _ _ _ (by decide), f1 3 (by decide)]; exact hS.2.2.1.2
  refine ZW.aload_n dX7_keep_11 rfl ?_
  refine ZW.iconst dX7_keep_12 ?_
  refine ZW.putz (fz := 4) dX7_keep_13 fp_X7_251 ⟨_, rfl, rfl⟩ rfl (by first | exact Or.inl rfl | exact Or.inr rfl | assumption | omega) ?_
  refine ZW.aload_n dX7_keep_16 rfl ?_
  refine ZW.getR dX7_keep_17 fl_X7_21 ⟨_, rfl, rfl⟩ ?_
  refine ZW.getI (fz := 13) dX7_keep_20 fl_X7_215 ⟨_, rfl, rfl⟩ rfl rfl ?_
  rw [e13]
  refine ZW.ireti dX7_keep_23 rfl ?_
  refine ⟨rfl, fun k h0 hk => ?_, s1, ?_⟩
  · rw [zSet_ne _ _ _ h0]; exact f1 k (by simp; omega)
  · rw [zSet_same, zUp_same]
theorem c_X7_restore (g : ZH) {r R : Int → Int} {n : Int} {H : Int → Int → Int} (hX : okX r) (hS : StN g r) (hH : HisN g n H) (h04 : g 0 4 = 0 ∨ g 0 4 = 1) (hR : g 0 4 = 1 → okX R ∧ StAt g 27 R) : ZC 4 mX7_restore [.inr 0] g (fun v g' => v = (if g 0 4 = 0 then -5 else R 191) ∧ cA g g' ∧ cDo g' r n H (if g 0 4 = 0 then -5 else R 191) R) := by
  refine ZC.of (by decide +kernel) (Nat.le_of_ble_eq_true rfl) ?_
  refine ZW.aload_n dX7_restore_0 rfl ?_
  refine ZW.getI (fz := 4) dX7_restore_1 fl_X7_251 ⟨_, rfl, rfl⟩ rfl rfl ?_
  refine ZW.if_ne (tgt := 10) dX7_restore_4 (by decide) (by first | omega | exact zB_R _) (fun c4 => ?_) (fun c4 => ?_)
  · obtain ⟨RX, RS⟩ := hR (by omega)
    have h16 := RX.1.1.1.2
    have h191 := RX.1.1.1.1 191 (by decide) (by decide)
    refine ZW.aload_n dX7_restore_10 rfl ?_
    refine ZW.getR dX7_restore_11 fl_X7_34 ⟨_, rfl, rfl⟩ ?_
    refine ZW.aload_n dX7_restore_14 rfl ?_
    refine ZW.getR dX7_restore_15 fl_X7_21 ⟨_, rfl, rfl⟩ ?_
    refine ZW.callVv (as := [_]) dX7_restore_18 cv_X7_76 ⟨_, rfl⟩ rfl (by decide) (Nat.le_of_ble_eq_true rfl) rfl (fun _ _ hz _ => hz) (c_X2_record_3 _ hX hS hH) (fun g1 hr => ?_)
    have RS1 : StAt g1 27 R := RS.fr (fun k k0 k1 => hr.1 k (by omega))
    refine ZW.aload_n dX7_restore_21 rfl ?_
    refine ZW.getR dX7_restore_22 fl_X7_21 ⟨_, rfl, rfl⟩ ?_
    refine ZW.aload_n dX7_restore_25 rfl ?_
    refine ZW.getR dX7_restore_26 fl_X7_28 ⟨_, rfl, rfl⟩ ?_
    refine ZW.callVv (as := [_]) dX7_restore_29 cv_X7_131 ⟨_, rfl⟩ rfl (by decide) (Nat.le_of_ble_eq_true rfl) rfl (fun _ _ hz _ => hz) (c_X4_copyFrom_3_27 _ h16 RS1) (fun g2 ⟨f2, s2⟩ => ?_)
    have e13 : g2 3 13 = R 191 := (show StN g2 R from s2).2.2.1.2
    refine ZW.aload_n dX7_restore_32 rfl ?_
    refine ZW.getR dX7_restore_33 fl_X7_21 ⟨_, rfl, rfl⟩ ?_
    refine ZW.getI (fz := 13) dX7_restore_36 fl_X7_215 ⟨_, rfl, rfl⟩ rfl rfl ?_
    rw [e13]
    refine ZW.ireti dX7_restore_39 rfl ?_
    exact cDo.yes hr (frA.of f2 (by decide)) s2 (if_neg c4) h191.1
  · refine ZW.bipush dX7_restore_7 rfl ?_
    refine ZW.ireti dX7_restore_9 rfl ?_
    exact cDo.neg hS hH (if_pos c4) (by decide)
