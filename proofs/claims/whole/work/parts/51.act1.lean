-- the class: what an act does to now
def frA (g g' : ZH) : Prop := ∀ k, (k < 3 ∨ (15 ≤ k ∧ k < 95) ∨ 100 ≤ k) → g' k = g k
theorem frA.rf (g : ZH) : frA g g := fun _ _ => rfl
theorem frA.tr {g g1 g2 : ZH} (h : frA g g1) (h2 : frA g1 g2) : frA g g2 := fun k hk => (h2 k hk).trans (h k hk)
theorem frA.of {ks : List Nat} {g g' : ZH} (h : zFr ks g g') (hk : ∀ k ∈ ks, (3 ≤ k ∧ k < 15) ∨ (95 ≤ k ∧ k < 100)) : frA g g' := fun k hk2 => h k (fun q => by have := hk k q; omega)
theorem frA.bd {g g' : ZH} (h : frA g g') (hb : BdN g) : BdN g' := by unfold BdN; rw [h 2 (by decide)]; exact hb
theorem c_X7_isSide (g : ZH) {s : Int} (hs : zR s) : ZC 0 mX7_isSide [.inl s] g (fun v g' => v = zB (inB s 0 1) ∧ g' = g) := by
  refine ZC.of (by decide +kernel) (Nat.le_of_ble_eq_true rfl) ?_
  refine ZW.iload_n dX7_isSide_0 rfl ?_
  refine ZW.if_eq (tgt := 9) dX7_isSide_1 (by decide) (by first | omega | exact zB_R _) (fun c1 => ?_) (fun c1 => ?_)
  · refine ZW.iconst dX7_isSide_9 ?_
    refine ZW.goto (tgt := 14) dX7_isSide_10 (by decide) ?_
    refine ZW.iretz dX7_isSide_14 rfl (by first | exact Or.inl rfl | exact Or.inr rfl | assumption | omega) ?_
    exact ⟨by unfold inB; rw [decide_eq_true (by omega)]; rfl, rfl⟩
  · refine ZW.iload_n dX7_isSide_4 rfl ?_
    refine ZW.iconst dX7_isSide_5 ?_
    refine ZW.icmp_ne (tgt := 13) dX7_isSide_6 (by decide) (by first | omega | exact zB_R _) (by first | omega | exact zB_R _) (fun c6 => ?_) (fun c6 => ?_)
    · refine ZW.iconst dX7_isSide_13 ?_
      refine ZW.iretz dX7_isSide_14 rfl (by first | exact Or.inl rfl | exact Or.inr rfl | assumption | omega) ?_
      exact ⟨by unfold inB; rw [decide_eq_false (by omega)]; rfl, rfl⟩
    · refine ZW.iconst dX7_isSide_9 ?_
      refine ZW.goto (tgt := 14) dX7_isSide_10 (by decide) ?_
      refine ZW.iretz dX7_isSide_14 rfl (by first | exact Or.inl rfl | exact Or.inr rfl | assumption | omega) ?_
      exact ⟨by unfold inB; rw [decide_eq_true (by omega)]; rfl, rfl⟩
theorem c_X7_oneIf (g : ZH) {b : Bool} : ZC 0 mX7_oneIf [.inl (zB b)] g (fun v g' => v = zB b ∧ g' = g) := by
  refine ZC.of (by decide +kernel) (Nat.le_of_ble_eq_true rfl) ?_
  refine ZW.iload_n dX7_oneIf_0 rfl ?_
  refine ZW.if_eq (tgt := 8) dX7_oneIf_1 (by decide) (by first | omega | exact zB_R _) (fun c1 => ?_) (fun c1 => ?_)
  · have e := zB_eq c1
    refine ZW.iconst dX7_oneIf_8 ?_
    refine ZW.ireti dX7_oneIf_9 rfl ?_
    exact ⟨by rw [e]; rfl, rfl⟩
  · have e := zB_ne c1
    refine ZW.iconst dX7_oneIf_4 ?_
    refine ZW.goto (tgt := 9) dX7_oneIf_5 (by decide) ?_
    refine ZW.ireti dX7_oneIf_9 rfl ?_
    exact ⟨by rw [e]; rfl, rfl⟩
theorem dirN_no {x o : Int} : dirN x o = -1 ↔ dirF x o = -5 := by
  unfold dirN
  split
  · next q => exact ⟨fun _ => q, fun _ => rfl⟩
  · next q =>
    have h := (dirF_R x o).resolve_left q
    exact ⟨fun z => by omega, fun z => absurd z q⟩
theorem dirN_R (x o : Int) : -1 ≤ dirN x o ∧ dirN x o < 6 := by
  unfold dirN
  split
  · omega
  · next q =>
    have h := (dirF_R x o).resolve_left q
    omega
theorem c_X7_canFight (g : ZH) {r : Int → Int} (hA : okA r) (hS : StN g r) (hb : BdN g) {u x : Int} (hu : 0 ≤ u ∧ u < r 192) (hx : 0 ≤ x ∧ x < 63) : ZC 1 mX7_canFight [.inr 0, .inl u, .inl x] g (fun v g' => v = zB (canF r u x) ∧ g' = g) := by
  have h16 := hA.1.1.2
  have hU := hA.1.2.1 u hu.1 (by omega)
  have hst := st_u hS hu.1 hu.2
  have hsd := sdF_R hA x
  have hdR := dirN_R (ofF r u 2) x
  have hcf : canF r u x = (decide (sdF r x = 1 - ofF r u 0) && decide (dirF (ofF r u 2) x ≠ -5)) := by unfold canF; rw [isOnB_sd (by omega)]
  refine ZC.of (by decide +kernel) (Nat.le_of_ble_eq_true rfl) ?_
  refine ZW.aload_n dX7_canFight_0 rfl ?_
  refine ZW.getR dX7_canFight_1 fl_X7_21 ⟨_, rfl, rfl⟩ ?_
  refine ZW.iload_n dX7_canFight_4 rfl ?_
  refine ZW.callV (as := [_]) dX7_canFight_5 cv_X7_124 ⟨_, rfl⟩ rfl (by decide) (Nat.le_of_ble_eq_true rfl) rfl (c_X4_sideOn _ hA hS hx) (fun v1 g1 ⟨q1, q2⟩ => ?_)
  subst q1; subst q2
  refine ZW.iconst dX7_canFight_8 ?_
  refine ZW.aload_n dX7_canFight_9 rfl ?_
  refine ZW.getR dX7_canFight_10 fl_X7_21 ⟨_, rfl, rfl⟩ ?_
  refine ZW.getR dX7_canFight_13 fl_X7_165 ⟨_, rfl, rfl⟩ ?_
  refine ZW.iload_n dX7_canFight_16 rfl ?_
  refine ZW.iald dX7_canFight_17 rfl (by decide) (by omega) rfl ?_
  rw [hst.1]
  refine ZW.isub dX7_canFight_18 ?_
  refine ZW.icmp_ne (tgt := 47) dX7_canFight_19 (by decide) (by first | omega | exact zB_R _) (by first | omega | exact zB_R _) (fun c19 => ?_) (fun c19 => ?_)
  · refine ZW.iconst dX7_canFight_47 ?_
    refine ZW.iretz dX7_canFight_48 rfl (by first | exact Or.inl rfl | exact Or.inr rfl | assumption | omega) ?_
    exact ⟨by rw [hcf, decide_eq_false c19]; rfl, rfl⟩
  · refine ZW.aload_n dX7_canFight_22 rfl ?_
    refine ZW.getR dX7_canFight_23 fl_X7_10 ⟨_, rfl, rfl⟩ ?_
    refine ZW.aload_n dX7_canFight_26 rfl ?_
    refine ZW.getR dX7_canFight_27 fl_X7_21 ⟨_, rfl, rfl⟩ ?_
    refine ZW.getR dX7_canFight_30 fl_X7_171 ⟨_, rfl, rfl⟩ ?_
    refine ZW.iload_n dX7_canFight_33 rfl ?_
    refine ZW.iald dX7_canFight_34 rfl (by decide) (by omega) rfl ?_
    rw [hst.2.2.1]
    refine ZW.iload_n dX7_canFight_35 rfl ?_
    refine ZW.callV (as := [_, _]) dX7_canFight_36 cv_X7_212 ⟨_, rfl⟩ rfl (by decide) (Nat.le_of_ble_eq_true rfl) rfl (c_X0_directionTo _ hb hU.2 hx) (fun v1 g1 ⟨q1, q2⟩ => ?_)
    subst q1; subst q2
    refine ZW.iconst dX7_canFight_39 ?_
    refine ZW.icmp_eq (tgt := 47) dX7_canFight_40 (by decide) (by first | omega | exact zB_R _) (by first | omega | exact zB_R _) (fun c40 => ?_) (fun c40 => ?_)
    · refine ZW.iconst dX7_canFight_47 ?_
      refine ZW.iretz dX7_canFight_48 rfl (by first | exact Or.inl rfl | exact Or.inr rfl | assumption | omega) ?_
      exact ⟨by rw [hcf, decide_eq_false (p := dirF (ofF r u 2) x ≠ -5) (fun q => q (dirN_no.mp c40)), Bool.and_false]; rfl, rfl⟩
    · refine ZW.iconst dX7_canFight_43 ?_
      refine ZW.goto (tgt := 48) dX7_canFight_44 (by decide) ?_
      refine ZW.iretz dX7_canFight_48 rfl (by first | exact Or.inl rfl | exact Or.inr rfl | assumption | omega) ?_
      exact ⟨by rw [hcf, decide_eq_true c19, decide_eq_true (p := dirF (ofF r u 2) x ≠ -5) (fun q => c40 (dirN_no.mpr q))]; rfl, rfl⟩
set_option maxHeartbeats 1000000 in
theorem c_X7_moveUnit (g : ZH) {r : Int → Int} (hA : okA r) (hS : StN g r) (hb : BdN g) {u x : Int} (hu : zR u) (hx : zR x) : ZC 4 mX7_moveUnit [.inr 0, .inl u, .inl x] g (fun v g' => v = movV r u x ∧ frA g g' ∧ (refMF r u x = 0 → StN g' (movesF r u x)) ∧ (refMF r u x ≠ 0 → StN g' r)) := by
  have no : ∀ (v : Int) (g1 : ZH), refMF r u x = v → v ≠ 0 → frA g g1 → StN g1 r → v = movV r u x ∧ frA g g1 ∧ (refMF r u x = 0 → StN g1 (movesF r u x)) ∧ (refMF r u x ≠ 0 → StN g1 r) := fun v g1 h1 h2 h3 h4 => ⟨by unfold movV; rw [h1, if_neg h2], h3, fun q => absurd (h1.symm.trans q) h2, fun _ => h4⟩
  have h16 := hA.1.1.2
  refine ZC.of (by decide +kernel) (Nat.le_of_ble_eq_true rfl) ?_
  refine ZW.aload_n dX7_moveUnit_0 rfl ?_
  refine ZW.getR dX7_moveUnit_1 fl_X7_21 ⟨_, rfl, rfl⟩ ?_
  refine ZW.iload_n dX7_moveUnit_4 rfl ?_
  refine ZW.callV (as := [_]) dX7_moveUnit_5 cv_X7_162 ⟨_, rfl⟩ rfl (by decide) (Nat.le_of_ble_eq_true rfl) rfl (c_X4_isUnit _ hA hS hu) (fun v1 g1 ⟨q1, q2⟩ => ?_)
  subst q1; subst q2
  refine ZW.if_eq (tgt := 18) dX7_moveUnit_8 (by decide) (by first | omega | exact zB_R _) (fun c8 => ?_) (fun c8 => ?_)
  · have e := zB_eq c8
    refine ZW.iconst dX7_moveUnit_18 ?_
    refine ZW.ireti dX7_moveUnit_19 rfl ?_
    exact no (-1) _ (by unfold refMF; rw [e]; rfl) (by decide) (frA.rf _) hS
  · have e := zB_ne c8
    obtain ⟨u0, u1, u2, u3⟩ := isUnitB_t hA.1.1 e
    have hU := hA.1.2.1 u u0 u2
    have hst := st_u hS u0 u1
    have hP := ofF_R hA.1.1 (u := u) (w := 3) ⟨u0, u2⟩ (by decide)
    have h191 := hA.1.1.1 191 (by decide) (by decide)
    refine ZW.iload_n dX7_moveUnit_11 rfl ?_
    refine ZW.callS (as := [_]) dX7_moveUnit_12 cs_X7_68 rfl (by decide) (Nat.le_of_ble_eq_true rfl) rfl (c_X0_isHex _ hx) (fun v1 g1 ⟨q1, q2⟩ => ?_)
    subst q1; subst q2
    refine ZW.if_ne (tgt := 20) dX7_moveUnit_15 (by decide) (by first | omega | exact zB_R _) (fun c15 => ?_) (fun c15 => ?_)
    · have e2 := zB_ne c15
      have hxr := isHexB_t e2
      refine ZW.aload_n dX7_moveUnit_20 rfl ?_
      refine ZW.getR dX7_moveUnit_21 fl_X7_21 ⟨_, rfl, rfl⟩ ?_
      refine ZW.getR dX7_moveUnit_24 fl_X7_165 ⟨_, rfl, rfl⟩ ?_
      refine ZW.iload_n dX7_moveUnit_27 rfl ?_
      refine ZW.iald dX7_moveUnit_28 rfl (by decide) (by omega) rfl ?_
      rw [hst.1]
      refine ZW.aload_n dX7_moveUnit_29 rfl ?_
      refine ZW.getR dX7_moveUnit_30 fl_X7_21 ⟨_, rfl, rfl⟩ ?_
      refine ZW.callV (as := []) dX7_moveUnit_33 cv_X7_168 ⟨_, rfl⟩ rfl (by decide) (Nat.le_of_ble_eq_true rfl) rfl (c_X4_sideInTurn _ hA hS) (fun v1 g1 ⟨q1, q2⟩ => ?_)
      subst q1; subst q2
      refine ZW.icmp_eq (tgt := 42) dX7_moveUnit_36 (by decide) (by first | omega | exact zB_R _) (by first | omega | exact zB_R _) (fun c36 => ?_) (fun c36 => ?_)
      · refine ZW.aload_n dX7_moveUnit_42 rfl ?_
        refine ZW.getR dX7_moveUnit_43 fl_X7_21 ⟨_, rfl, rfl⟩ ?_
        refine ZW.getR dX7_moveUnit_46 fl_X7_171 ⟨_, rfl, rfl⟩ ?_
        refine ZW.iload_n dX7_moveUnit_49 rfl ?_
        refine ZW.iald dX7_moveUnit_50 rfl (by decide) (by omega) rfl ?_
        rw [hst.2.2.1]
        refine ZW.iload_n dX7_moveUnit_51 rfl ?_
        refine ZW.icmp_ne (tgt := 58) dX7_moveUnit_52 (by decide) (by first | omega | exact zB_R _) (by first | omega | exact zB_R _) (fun c52 => ?_) (fun c52 => ?_)
        · refine ZW.aload_n dX7_moveUnit_58 rfl ?_
          refine ZW.getR dX7_moveUnit_59 fl_X7_48 ⟨_, rfl, rfl⟩ ?_
          refine ZW.aload_n dX7_moveUnit_62 rfl ?_
          refine ZW.getR dX7_moveUnit_63 fl_X7_21 ⟨_, rfl, rfl⟩ ?_
          refine ZW.iload_n dX7_moveUnit_66 rfl ?_
          refine ZW.callVv (as := [_, _]) dX7_moveUnit_67 cv_X7_172 ⟨_, rfl⟩ rfl (by decide) (Nat.le_of_ble_eq_true rfl) rfl (fun _ _ hz _ => hz) (c_X6_measure _ hA hS hb ⟨u0, u1⟩ u3) (fun g2 ⟨f2, w2⟩ => ?_)
          have S2 := hS.fr f2 (by decide)
          refine ZW.aload_n dX7_moveUnit_70 rfl ?_
          refine ZW.getR dX7_moveUnit_71 fl_X7_48 ⟨_, rfl, rfl⟩ ?_
          refine ZW.aload_n dX7_moveUnit_74 rfl ?_
          refine ZW.getR dX7_moveUnit_75 fl_X7_21 ⟨_, rfl, rfl⟩ ?_
          refine ZW.iload_n dX7_moveUnit_78 rfl ?_
          refine ZW.callV (as := [_, _]) dX7_moveUnit_79 cv_X7_176 ⟨_, rfl⟩ rfl (by decide) (Nat.le_of_ble_eq_true rfl) rfl (c_X6_canEndOn _ hA S2 ⟨u0, u2⟩ hxr (w2 x hxr.1 hxr.2)) (fun v1 g3 ⟨q1, q2⟩ => ?_)
          subst q1; subst q2
          refine ZW.if_ne (tgt := 88) dX7_moveUnit_82 (by decide) (by first | omega | exact zB_R _) (fun c82 => ?_) (fun c82 => ?_)
          · have e3 := of_decide_eq_true (zB_ne c82)
            have hw : wyC r u x = wayF r u x := by unfold wyC; rw [if_pos e3.1]
            have hwr := wayF_R r u x
            have hm : refMF r u x = 0 := by unfold refMF; rw [e, e2]; simp only [Bool.and_self, if_true]; rw [if_pos c36, if_neg c52, if_pos e3]
            have hst3 := st_u S2 u0 u1
            refine ZW.aload_n dX7_moveUnit_88 rfl ?_
            refine ZW.getR dX7_moveUnit_89 fl_X7_21 ⟨_, rfl, rfl⟩ ?_
            refine ZW.getR dX7_moveUnit_92 fl_X7_180 ⟨_, rfl, rfl⟩ ?_
            refine ZW.iload_n dX7_moveUnit_95 rfl ?_
            refine ZW.dup2 dX7_moveUnit_96 ?_
            refine ZW.iald dX7_moveUnit_97 rfl (by decide) (by omega) rfl ?_
            rw [(hst3.2.2.2.2 u3).1]
            refine ZW.aload_n dX7_moveUnit_98 rfl ?_
            refine ZW.getR dX7_moveUnit_99 fl_X7_48 ⟨_, rfl, rfl⟩ ?_
            refine ZW.getR dX7_moveUnit_102 fl_X7_183 ⟨_, rfl, rfl⟩ ?_
            refine ZW.iload_n dX7_moveUnit_105 rfl ?_
            refine ZW.iald dX7_moveUnit_106 rfl (by decide) (by omega) rfl ?_
            rw [w2 x hxr.1 hxr.2, hw]
            refine ZW.isub dX7_moveUnit_107 ?_
            refine ZW.iast dX7_moveUnit_108 rfl (by decide) (by omega) ?_
            have S4 : StN (zSet g3 12 u (ofF r u 3 - wayF r u x)) (layF r u 3 (ofF r u 3 - wayF r u x)) := StF.lay3 S2 u0
            have A4 := okA_lay hA (u := u) (w := 3) (v := ofF r u 3 - wayF r u x) ⟨u0, u2⟩ (by decide) (by omega) (fun q => absurd q (by decide)) (fun q => absurd q (by decide)) (fun q => absurd q (by decide)) (by decide)
            refine ZW.aload_n dX7_moveUnit_109 rfl ?_
            refine ZW.getR dX7_moveUnit_110 fl_X7_21 ⟨_, rfl, rfl⟩ ?_
            refine ZW.iload_n dX7_moveUnit_113 rfl ?_
            refine ZW.iload_n dX7_moveUnit_114 rfl ?_
            have N4 : ∀ z, 0 ≤ z → z < layF r u 3 (ofF r u 3 - wayF r u x) 192 → z ≠ u → ¬ (0 < ofF (layF r u 3 (ofF r u 3 - wayF r u x)) z 1 ∧ ofF (layF r u 3 (ofF r u 3 - wayF r u x)) z 2 = x) := fun z z0 z1 zn hz => by
              rw [layF_192 u0 (by decide) (by decide)] at z1
              rw [layF_ne (by decide) (by decide) (Or.inr (by decide)), layF_ne (by decide) (by decide) (Or.inr (by decide))] at hz
              exact unitOnF_no e3.2 z0 z1 hz
            have U4 : u < layF r u 3 (ofF r u 3 - wayF r u x) 192 := by rw [layF_192 u0 (by decide) (by decide)]; exact u1
            have L4 : 0 < ofF (layF r u 3 (ofF r u 3 - wayF r u x)) u 1 := by rw [layF_ne (by decide) (by decide) (Or.inr (by decide))]; exact u3
            refine ZW.callVv (as := [_, _]) dX7_moveUnit_115 cv_X7_186 ⟨_, rfl⟩ rfl (by decide) (Nat.le_of_ble_eq_true rfl) rfl (fun _ _ hz _ => hz) (c_X4_shift _ A4 S4 ⟨u0, U4⟩ L4 hxr N4) (fun g5 ⟨f5, S5⟩ => ?_)
            have e12 : g5 12 u = ofF r u 3 - wayF r u x := by rw [f5 12 (by decide), zSet_same, zUp_same]
            refine ZW.aload_n dX7_moveUnit_118 rfl ?_
            refine ZW.getR dX7_moveUnit_119 fl_X7_21 ⟨_, rfl, rfl⟩ ?_
            refine ZW.getR dX7_moveUnit_122 fl_X7_180 ⟨_, rfl, rfl⟩ ?_
            refine ZW.iload_n dX7_moveUnit_125 rfl ?_
            refine ZW.iald dX7_moveUnit_126 rfl (by decide) (by omega) rfl ?_
            rw [e12]
            refine ZW.ireti dX7_moveUnit_127 rfl ?_
            refine ⟨by unfold movV movesR; rw [if_pos hm], ?_, fun _ => S5, fun q => absurd hm q⟩
            exact (frA.of f2 (by decide)).tr ((frA.of ((zFr.rf [12] _).set (by decide) _ _) (by decide)).tr (frA.of f5 (by decide)))
          · have e3 := of_decide_eq_false (zB_eq c82)
            refine ZW.bipush dX7_moveUnit_85 rfl ?_
            refine ZW.ireti dX7_moveUnit_87 rfl ?_
            exact no (-4) _ (by unfold refMF; rw [e, e2]; simp only [Bool.and_self, if_true]; rw [if_pos c36, if_neg c52, if_neg e3]) (by decide) (frA.of f2 (by decide)) S2
        · refine ZW.bipush dX7_moveUnit_55 rfl ?_
          refine ZW.ireti dX7_moveUnit_57 rfl ?_
          exact no (-5) _ (by unfold refMF; rw [e, e2]; simp only [Bool.and_self, if_true]; rw [if_pos c36, if_pos c52]) (by decide) (frA.rf _) hS
      · refine ZW.bipush dX7_moveUnit_39 rfl ?_
        refine ZW.ireti dX7_moveUnit_41 rfl ?_
        exact no (-4) _ (by unfold refMF; rw [e, e2]; simp only [Bool.and_self, if_true]; rw [if_neg c36]) (by decide) (frA.rf _) hS
    · have e2 := zB_eq c15
      refine ZW.iconst dX7_moveUnit_18 ?_
      refine ZW.ireti dX7_moveUnit_19 rfl ?_
      exact no (-1) _ (by unfold refMF; rw [e, e2]; rfl) (by decide) (frA.rf _) hS
