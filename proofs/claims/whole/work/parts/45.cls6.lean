-- fights of the class
theorem stand_on {r : Int → Int} (hA : okA r) {u : Int} (h0 : 0 ≤ u) (h1 : u < r 192) (hl : 0 < ofF r u 1) : unitOnF r (ofF r u 2) = u := by
  rcases unitOnF_R hA.1.1 (ofF r u 2) with q | ⟨q1, q2, q3, q4, q5⟩
  · exact absurd ⟨hl, rfl⟩ (unitOnF_no q h0 h1)
  · exact hA.2.1 _ _ q1 q2 h0 h1 q4 hl q5
theorem sdF_on {r : Int → Int} (hA : okA r) {u : Int} (h0 : 0 ≤ u) (h1 : u < r 192) (hl : 0 < ofF r u 1) : sdF r (ofF r u 2) = ofF r u 0 := by
  unfold sdF
  rw [stand_on hA h0 h1 hl, if_neg (by omega)]
theorem spC_on {r : Int → Int} (hA : okA r) {u : Int} (h0 : 0 ≤ u) (h1 : u < r 192) (hl : 0 < ofF r u 1) : spC r (ofF r u 0) (ofF r u 2) = if supF r (ofF r u 0) (ofF r u 2) = -5 then 1000 else supF r (ofF r u 0) (ofF r u 2) := by
  have h16 := hA.1.1.2
  have hU := hA.1.2.1 u h0 (by omega)
  refine spC_sup ?_ hU.2
  rw [freeB_sd hA hU.1, sdF_on hA h0 h1 hl]
  simp
theorem spC_b {r : Int → Int} (hA : okA r) {u : Int} (h0 : 0 ≤ u) (h1 : u < r 192) (hl : 0 < ofF r u 1) : decide (spC r (ofF r u 0) (ofF r u 2) ≠ 1000) = supB r u := by
  have h := supF_R r (ofF r u 0) (ofF r u 2)
  rw [spC_on hA h0 h1 hl]
  unfold supB
  split
  · next q => rw [q]; decide
  · next q => rw [decide_eq_true (by omega), decide_eq_true q]
theorem spC_R (r : Int → Int) (side x : Int) : 0 ≤ spC r side x ∧ spC r side x ≤ 1000 := by
  have h := cD_R r side x
  unfold spC
  split <;> omega
theorem c_X1_powerOfAttack (g : ZH) {r : Int → Int} (hA : okA r) (hS : StN g r) (hb : BdN g) {u x : Int} (hu : 0 ≤ u ∧ u < r 192) (hul : 0 < ofF r u 1) (hx : 0 ≤ x ∧ x < 63) (hw : g 97 (ofF r u 2) = spC r (ofF r u 0) (ofF r u 2)) (hd : dirF (ofF r u 2) x ≠ -5) : ZC 1 mX1_powerOfAttack [.inr 99, .inr 3, .inl u, .inl x] g (fun v g' => v = powF r u x ∧ g' = g) := by
  have h16 := hA.1.1.2
  have hU := hA.1.2.1 u hu.1 (by omega)
  have h1 := ofF_R hA.1.1 (u := u) (w := 1) (by omega) (by decide)
  have h2 := (dirF_R (ofF r u 2) x).resolve_left hd
  have hst := st_u hS hu.1 hu.2
  have hsp := spC_R r (ofF r u 0) (ofF r u 2)
  have hdn : dirN (ofF r u 2) x = dirF (ofF r u 2) x := by unfold dirN; rw [if_neg hd]
  refine ZC.of (by decide +kernel) (Nat.le_of_ble_eq_true rfl) ?_
  have tail : ∀ p : Int, 0 ≤ p → p < 10000 → p = (if supB r u then 2 * ofF r u 1 else 2 * ofF r u 1 / 2) → ZW 1 mX1_powerOfAttack 36 [some (.inr 99), some (.inr 3), some (.inl u), some (.inl x), some (.inl (ofF r u 2)), some (.inl p), none] [] g (fun v g' => v = powF r u x ∧ g' = g) := by
    intro p p0 p1 hp
    refine ZW.aload_n dX1_powerOfAttack_36 rfl ?_
    refine ZW.getR dX1_powerOfAttack_37 fl_X1_7 ⟨_, rfl, rfl⟩ ?_
    refine ZW.iload dX1_powerOfAttack_40 rfl ?_
    refine ZW.iload_n dX1_powerOfAttack_42 rfl ?_
    refine ZW.callV (as := [_, _]) dX1_powerOfAttack_43 cv_X1_70 ⟨_, rfl⟩ rfl (by decide) (Nat.le_of_ble_eq_true rfl) rfl (c_X0_directionTo _ hb hU.2 hx) (fun v1 g1 ⟨q1, q2⟩ => ?_)
    subst q1; subst q2
    rw [hdn]
    refine ZW.istore dX1_powerOfAttack_46 (by decide) rfl ?_
    refine ZW.iload dX1_powerOfAttack_48 rfl ?_
    refine ZW.iconst dX1_powerOfAttack_50 ?_
    refine ZW.icmp_eq (tgt := 72) dX1_powerOfAttack_51 (by decide) (by first | omega | exact zB_R _) (by first | omega | exact zB_R _) (fun c51 => ?_) (fun c51 => ?_)
    · exact absurd c51 (by omega)
    · refine ZW.aload_n dX1_powerOfAttack_54 rfl ?_
      refine ZW.iload dX1_powerOfAttack_55 rfl ?_
      refine ZW.iload dX1_powerOfAttack_57 rfl ?_
      refine ZW.callV (as := [_, _]) dX1_powerOfAttack_59 cv_X1_75 ⟨_, rfl⟩ rfl (by decide) (Nat.le_of_ble_eq_true rfl) rfl (c_X4_hasRiver _ hA hS hU.2 ⟨h2.1, h2.2.1⟩) (fun v1 g1 ⟨q1, q2⟩ => ?_)
      subst q1; subst q2
      refine ZW.if_eq (tgt := 72) dX1_powerOfAttack_62 (by decide) (by first | omega | exact zB_R _) (fun c62 => ?_) (fun c62 => ?_)
      · have e := zB_eq c62
        refine ZW.iload dX1_powerOfAttack_72 rfl ?_
        refine ZW.ireti dX1_powerOfAttack_74 rfl ?_
        exact ⟨by unfold powF; rw [e, hp]; simp, rfl⟩
      · have e := zB_ne c62
        refine ZW.iload dX1_powerOfAttack_65 rfl ?_
        refine ZW.iconst dX1_powerOfAttack_67 ?_
        refine ZW.idiv dX1_powerOfAttack_68 (by omega) ?_
        refine ZW.goto (tgt := 74) dX1_powerOfAttack_69 (by decide) ?_
        refine ZW.ireti dX1_powerOfAttack_74 rfl ?_
        exact ⟨by unfold powF; rw [e, hp]; simp, rfl⟩
  refine ZW.aload_n dX1_powerOfAttack_0 rfl ?_
  refine ZW.getR dX1_powerOfAttack_1 fl_X1_29 ⟨_, rfl, rfl⟩ ?_
  refine ZW.iload_n dX1_powerOfAttack_4 rfl ?_
  refine ZW.iald dX1_powerOfAttack_5 rfl (by decide) (by omega) rfl ?_
  rw [hst.2.2.1]
  refine ZW.istore dX1_powerOfAttack_6 (by decide) rfl ?_
  refine ZW.iconst dX1_powerOfAttack_8 ?_
  refine ZW.aload_n dX1_powerOfAttack_9 rfl ?_
  refine ZW.getR dX1_powerOfAttack_10 fl_X1_47 ⟨_, rfl, rfl⟩ ?_
  refine ZW.iload_n dX1_powerOfAttack_13 rfl ?_
  refine ZW.iald dX1_powerOfAttack_14 rfl (by decide) (by omega) rfl ?_
  rw [hst.2.1]
  refine ZW.imul dX1_powerOfAttack_15 ?_
  refine ZW.istore dX1_powerOfAttack_16 (by decide) rfl ?_
  refine ZW.aload_n dX1_powerOfAttack_18 rfl ?_
  refine ZW.getR dX1_powerOfAttack_19 fl_X1_13 ⟨_, rfl, rfl⟩ ?_
  refine ZW.iload dX1_powerOfAttack_22 rfl ?_
  refine ZW.callV (as := [_]) dX1_powerOfAttack_24 cv_X1_66 ⟨_, rfl⟩ rfl (by decide) (Nat.le_of_ble_eq_true rfl) rfl (c_X5_reaches _ hU.2 (by rw [hw]; omega)) (fun v1 g1 ⟨q1, q2⟩ => ?_)
  subst q1; subst q2
  rw [hw, spC_b hA hu.1 hu.2 hul]
  refine ZW.if_ne (tgt := 36) dX1_powerOfAttack_27 (by decide) (by first | omega | exact zB_R _) (fun c27 => ?_) (fun c27 => ?_)
  · have e := zB_ne c27
    exact tail _ (by omega) (by omega) (by rw [e]; simp)
  · have e := zB_eq c27
    refine ZW.iload dX1_powerOfAttack_30 rfl ?_
    refine ZW.iconst dX1_powerOfAttack_32 ?_
    refine ZW.idiv dX1_powerOfAttack_33 (by omega) ?_
    refine ZW.istore dX1_powerOfAttack_34 (by decide) rfl ?_
    exact tail _ (by omega) (by omega) (by rw [e]; simp)
theorem c_X1_powerOfDefence (g : ZH) {r : Int → Int} (hA : okA r) (hS : StN g r) {u : Int} (hu : 0 ≤ u ∧ u < r 192) (hul : 0 < ofF r u 1) (hw : g 97 (ofF r u 2) = spC r (ofF r u 0) (ofF r u 2)) : ZC 1 mX1_powerOfDefence [.inr 99, .inr 3, .inl u] g (fun v g' => v = defF r u ∧ g' = g) := by
  have h16 := hA.1.1.2
  have hU := hA.1.2.1 u hu.1 (by omega)
  have h1 := ofF_R hA.1.1 (u := u) (w := 1) (by omega) (by decide)
  have h3 := hA.1.1.1 (126 + ofF r u 2) (by omega) (by omega)
  have h4 := hA.1.1.1 (ofF r u 2) (by omega) (by omega)
  have hst := st_u hS hu.1 hu.2
  have hsx := st_x hS hU.2
  have hsp := spC_R r (ofF r u 0) (ofF r u 2)
  refine ZC.of (by decide +kernel) (Nat.le_of_ble_eq_true rfl) ?_
  have tail2 : ∀ p : Int, 0 ≤ p → p < 10000 → p = defP r u → ZW 1 mX1_powerOfDefence 43 [some (.inr 99), some (.inr 3), some (.inl u), some (.inl (ofF r u 2)), some (.inl p)] [] g (fun v g' => v = defF r u ∧ g' = g) := by
    intro p p0 p1 hp
    refine ZW.aload_n dX1_powerOfDefence_43 rfl ?_
    refine ZW.getR dX1_powerOfDefence_44 fl_X1_13 ⟨_, rfl, rfl⟩ ?_
    refine ZW.iload_n dX1_powerOfDefence_47 rfl ?_
    refine ZW.callV (as := [_]) dX1_powerOfDefence_48 cv_X1_66 ⟨_, rfl⟩ rfl (by decide) (Nat.le_of_ble_eq_true rfl) rfl (c_X5_reaches _ hU.2 (by rw [hw]; omega)) (fun v1 g1 ⟨q1, q2⟩ => ?_)
    subst q1; subst q2
    rw [hw, spC_b hA hu.1 hu.2 hul]
    refine ZW.if_eq (tgt := 59) dX1_powerOfDefence_51 (by decide) (by first | omega | exact zB_R _) (fun c51 => ?_) (fun c51 => ?_)
    · have e := zB_eq c51
      refine ZW.iload dX1_powerOfDefence_59 rfl ?_
      refine ZW.iconst dX1_powerOfDefence_61 ?_
      refine ZW.idiv dX1_powerOfDefence_62 (by omega) ?_
      refine ZW.ireti dX1_powerOfDefence_63 rfl ?_
      exact ⟨by unfold defF; rw [e, hp]; simp, rfl⟩
    · have e := zB_ne c51
      refine ZW.iload dX1_powerOfDefence_54 rfl ?_
      refine ZW.goto (tgt := 63) dX1_powerOfDefence_56 (by decide) ?_
      refine ZW.ireti dX1_powerOfDefence_63 rfl ?_
      exact ⟨by unfold defF; rw [e, hp]; simp, rfl⟩
  have tail : ∀ p : Int, 0 ≤ p → p < 10000 → p = (if 0 < r (126 + ofF r u 2) then 2 * (2 * ofF r u 1) else 2 * ofF r u 1) → ZW 1 mX1_powerOfDefence 31 [some (.inr 99), some (.inr 3), some (.inl u), some (.inl (ofF r u 2)), some (.inl p)] [] g (fun v g' => v = defF r u ∧ g' = g) := by
    intro p p0 p1 hp
    refine ZW.aload_n dX1_powerOfDefence_31 rfl ?_
    refine ZW.getR dX1_powerOfDefence_32 fl_X1_82 ⟨_, rfl, rfl⟩ ?_
    refine ZW.iload_n dX1_powerOfDefence_35 rfl ?_
    refine ZW.iald dX1_powerOfDefence_36 rfl (by decide) (by omega) rfl ?_
    rw [hsx.1]
    refine ZW.if_eq (tgt := 43) dX1_powerOfDefence_37 (by decide) (by first | omega | exact zB_R _) (fun c37 => ?_) (fun c37 => ?_)
    · exact tail2 p p0 p1 (by unfold defP; rw [← hp, if_neg (by omega)]; omega)
    · refine ZW.iinc dX1_powerOfDefence_40 rfl (by decide) rfl ?_
      exact tail2 _ (by omega) (by omega) (by unfold defP; rw [← hp, if_pos (by omega)])
  refine ZW.aload_n dX1_powerOfDefence_0 rfl ?_
  refine ZW.getR dX1_powerOfDefence_1 fl_X1_29 ⟨_, rfl, rfl⟩ ?_
  refine ZW.iload_n dX1_powerOfDefence_4 rfl ?_
  refine ZW.iald dX1_powerOfDefence_5 rfl (by decide) (by omega) rfl ?_
  rw [hst.2.2.1]
  refine ZW.istore_n dX1_powerOfDefence_6 (by decide) rfl ?_
  refine ZW.iconst dX1_powerOfDefence_7 ?_
  refine ZW.aload_n dX1_powerOfDefence_8 rfl ?_
  refine ZW.getR dX1_powerOfDefence_9 fl_X1_47 ⟨_, rfl, rfl⟩ ?_
  refine ZW.iload_n dX1_powerOfDefence_12 rfl ?_
  refine ZW.iald dX1_powerOfDefence_13 rfl (by decide) (by omega) rfl ?_
  rw [hst.2.1]
  refine ZW.imul dX1_powerOfDefence_14 ?_
  refine ZW.istore dX1_powerOfDefence_15 (by decide) rfl ?_
  refine ZW.aload_n dX1_powerOfDefence_17 rfl ?_
  refine ZW.iload_n dX1_powerOfDefence_18 rfl ?_
  refine ZW.callV (as := [_]) dX1_powerOfDefence_19 cv_X1_79 ⟨_, rfl⟩ rfl (by decide) (Nat.le_of_ble_eq_true rfl) rfl (c_X4_hasFort _ hA hS hU.2) (fun v1 g1 ⟨q1, q2⟩ => ?_)
  subst q1; subst q2
  refine ZW.if_eq (tgt := 31) dX1_powerOfDefence_22 (by decide) (by first | omega | exact zB_R _) (fun c22 => ?_) (fun c22 => ?_)
  · have e := of_decide_eq_false (zB_eq c22)
    exact tail _ (by omega) (by omega) (by rw [if_neg (by omega)])
  · have e := of_decide_eq_true (zB_ne c22)
    refine ZW.iload dX1_powerOfDefence_25 rfl ?_
    refine ZW.iconst dX1_powerOfDefence_27 ?_
    refine ZW.imul dX1_powerOfDefence_28 ?_
    refine ZW.istore dX1_powerOfDefence_29 (by decide) rfl ?_
    exact tail _ (by omega) (by omega) (by rw [if_pos (by omega)]; omega)
noncomputable def attL (r : Int → Int) (u w x : Int) : Int := if defF r w < powF r u x then ofF r u 1 else weakF r u (defF r w - powF r u x)
noncomputable def defL (r : Int → Int) (u w x : Int) : Int := if defF r w < powF r u x then weakF r w (powF r u x - defF r w) else ofF r w 1
set_option maxRecDepth 100000 in
set_option maxHeartbeats 1000000 in
theorem c_X1_weigh (g : ZH) {r : Int → Int} (hA : okA r) (hS : StN g r) (hb : BdN g) {u w x : Int} (hu : 0 ≤ u ∧ u < r 192) (hul : 0 < ofF r u 1) (hw : 0 ≤ w ∧ w < r 192) (hwl : 0 < ofF r w 1) (hx : 0 ≤ x ∧ x < 63) (hwx : ofF r w 2 = x) (hd : dirF (ofF r u 2) x ≠ -5) : ZC 4 mX1_weigh [.inr 99, .inr 3, .inl u, .inl w] g (fun _ g' => zFr [97, 98, 99] g g' ∧ g' 99 2 = powF r u x ∧ g' 99 3 = defF r w ∧ g' 99 4 = attL r u w x ∧ g' 99 5 = defL r u w x) := by
  have h16 := hA.1.1.2
  have hU := hA.1.2.1 u hu.1 (by omega)
  have hW := hA.1.2.1 w hw.1 (by omega)
  have hP := powF_R hA.1.1 (x := x) (u := u) (by omega)
  have hD := defF_R hA.1.1 (u := w) (by omega)
  have hu1 := ofF_R hA.1.1 (u := u) (w := 1) (by omega) (by decide)
  have hw1 := ofF_R hA.1.1 (u := w) (w := 1) (by omega) (by decide)
  have hstu := st_u hS hu.1 hu.2
  refine ZC.of (by decide +kernel) (Nat.le_of_ble_eq_true rfl) ?_
  refine ZW.aload_n dX1_weigh_0 rfl ?_
  refine ZW.getR dX1_weigh_1 fl_X1_13 ⟨_, rfl, rfl⟩ ?_
  refine ZW.aload_n dX1_weigh_4 rfl ?_
  refine ZW.aload_n dX1_weigh_5 rfl ?_
  refine ZW.getR dX1_weigh_6 fl_X1_17 ⟨_, rfl, rfl⟩ ?_
  refine ZW.iload_n dX1_weigh_9 rfl ?_
  refine ZW.iald dX1_weigh_10 rfl (by decide) (by omega) rfl ?_
  rw [hstu.1]
  refine ZW.callVv (as := [_, _]) dX1_weigh_11 cv_X1_23 ⟨_, rfl⟩ rfl (by decide) (Nat.le_of_ble_eq_true rfl) rfl (fun _ _ hz _ => hz) (c_X5_measure _ hA hS hb hU.1) (fun g1 ⟨f1, a1⟩ => ?_)
  have S1 := hS.fr f1 (by decide)
  have b1 := hb.fr f1 (by decide)
  have w1 := (st_u S1 hw.1 hw.2).2.2.1
  refine ZW.aload_n dX1_weigh_14 rfl ?_
  refine ZW.aload_n dX1_weigh_15 rfl ?_
  refine ZW.aload_n dX1_weigh_16 rfl ?_
  refine ZW.iload_n dX1_weigh_17 rfl ?_
  refine ZW.aload_n dX1_weigh_18 rfl ?_
  refine ZW.getR dX1_weigh_19 fl_X1_29 ⟨_, rfl, rfl⟩ ?_
  refine ZW.iload_n dX1_weigh_22 rfl ?_
  refine ZW.iald dX1_weigh_23 rfl (by decide) (by omega) rfl ?_
  rw [w1, hwx]
  refine ZW.callV (as := [_, _, _]) dX1_weigh_24 cv_X1_32 ⟨_, rfl⟩ rfl (by decide) (Nat.le_of_ble_eq_true rfl) rfl (c_X1_powerOfAttack _ hA S1 b1 hu hul hx (a1 _ hU.2.1 hU.2.2) hd) (fun v1 g2 ⟨q1, q2⟩ => ?_)
  subst q1; subst q2
  refine ZW.puti (fz := 2) dX1_weigh_27 fp_X1_36 ⟨_, rfl, rfl⟩ rfl ?_
  have f2 : zFr [97, 98, 99] g (zSet g2 99 2 (powF r u x)) := (f1.up (by decide)).set (by decide) _ _
  have s2 : (zSet g2 99 2 (powF r u x)) 99 2 = powF r u x := by rw [zSet_same, zUp_same]
  generalize zSet g2 99 2 (powF r u x) = g3 at f2 s2 ⊢
  have S3 := hS.fr f2 (by decide)
  have b3 := hb.fr f2 (by decide)
  refine ZW.aload_n dX1_weigh_30 rfl ?_
  refine ZW.getR dX1_weigh_31 fl_X1_13 ⟨_, rfl, rfl⟩ ?_
  refine ZW.aload_n dX1_weigh_34 rfl ?_
  refine ZW.aload_n dX1_weigh_35 rfl ?_
  refine ZW.getR dX1_weigh_36 fl_X1_17 ⟨_, rfl, rfl⟩ ?_
  refine ZW.iload_n dX1_weigh_39 rfl ?_
  refine ZW.iald dX1_weigh_40 rfl (by decide) (by omega) rfl ?_
  rw [(st_u S3 hw.1 hw.2).1]
  refine ZW.callVv (as := [_, _]) dX1_weigh_41 cv_X1_23 ⟨_, rfl⟩ rfl (by decide) (Nat.le_of_ble_eq_true rfl) rfl (fun _ _ hz _ => hz) (c_X5_measure _ hA S3 b3 hW.1) (fun g4 ⟨f4, a4⟩ => ?_)
  have S4 := S3.fr f4 (by decide)
  refine ZW.aload_n dX1_weigh_44 rfl ?_
  refine ZW.aload_n dX1_weigh_45 rfl ?_
  refine ZW.aload_n dX1_weigh_46 rfl ?_
  refine ZW.iload_n dX1_weigh_47 rfl ?_
  refine ZW.callV (as := [_, _]) dX1_weigh_48 cv_X1_40 ⟨_, rfl⟩ rfl (by decide) (Nat.le_of_ble_eq_true rfl) rfl (c_X1_powerOfDefence _ hA S4 hw hwl (a4 _ hW.2.1 hW.2.2)) (fun v1 g5 ⟨q1, q2⟩ => ?_)
  subst q1; subst q2
  refine ZW.puti (fz := 3) dX1_weigh_51 fp_X1_44 ⟨_, rfl, rfl⟩ rfl ?_
  have f5 : zFr [97, 98, 99] g (zSet g5 99 3 (defF r w)) := (f2.tr (f4.up (by decide))).set (by decide) _ _
  have s5 : (zSet g5 99 3 (defF r w)) 99 2 = powF r u x ∧ (zSet g5 99 3 (defF r w)) 99 3 = defF r w := by
    rw [zSet_same, zUp_same, zUp_ne _ _ (by decide), f4 99 (by decide)]
    exact ⟨s2, rfl⟩
  generalize zSet g5 99 3 (defF r w) = g6 at f5 s5 ⊢
  have S6 := hS.fr f5 (by decide)
  refine ZW.aload_n dX1_weigh_54 rfl ?_
  refine ZW.aload_n dX1_weigh_55 rfl ?_
  refine ZW.getR dX1_weigh_56 fl_X1_47 ⟨_, rfl, rfl⟩ ?_
  refine ZW.iload_n dX1_weigh_59 rfl ?_
  refine ZW.iald dX1_weigh_60 rfl (by decide) (by omega) rfl ?_
  rw [(st_u S6 hu.1 hu.2).2.1]
  refine ZW.puti (fz := 4) dX1_weigh_61 fp_X1_50 ⟨_, rfl, rfl⟩ rfl ?_
  have f7 : zFr [97, 98, 99] g (zSet g6 99 4 (ofF r u 1)) := f5.set (by decide) _ _
  have s7 : (zSet g6 99 4 (ofF r u 1)) 99 2 = powF r u x ∧ (zSet g6 99 4 (ofF r u 1)) 99 3 = defF r w ∧ (zSet g6 99 4 (ofF r u 1)) 99 4 = ofF r u 1 := by
    rw [zSet_same, zUp_same, zUp_ne _ _ (by decide), zUp_ne _ _ (by decide)]
    exact ⟨s5.1, s5.2, rfl⟩
  generalize zSet g6 99 4 (ofF r u 1) = g7 at f7 s7 ⊢
  have S7 := hS.fr f7 (by decide)
  refine ZW.aload_n dX1_weigh_64 rfl ?_
  refine ZW.aload_n dX1_weigh_65 rfl ?_
  refine ZW.getR dX1_weigh_66 fl_X1_47 ⟨_, rfl, rfl⟩ ?_
  refine ZW.iload_n dX1_weigh_69 rfl ?_
  refine ZW.iald dX1_weigh_70 rfl (by decide) (by omega) rfl ?_
  rw [(st_u S7 hw.1 hw.2).2.1]
  refine ZW.puti (fz := 5) dX1_weigh_71 fp_X1_53 ⟨_, rfl, rfl⟩ rfl ?_
  have f8 : zFr [97, 98, 99] g (zSet g7 99 5 (ofF r w 1)) := f7.set (by decide) _ _
  have s8 : (zSet g7 99 5 (ofF r w 1)) 99 2 = powF r u x ∧ (zSet g7 99 5 (ofF r w 1)) 99 3 = defF r w ∧ (zSet g7 99 5 (ofF r w 1)) 99 4 = ofF r u 1 ∧ (zSet g7 99 5 (ofF r w 1)) 99 5 = ofF r w 1 := by
    rw [zSet_same, zUp_same, zUp_ne _ _ (by decide), zUp_ne _ _ (by decide), zUp_ne _ _ (by decide)]
    exact ⟨s7.1, s7.2.1, s7.2.2, rfl⟩
  generalize zSet g7 99 5 (ofF r w 1) = g8 at f8 s8 ⊢
  have hab : 0 ≤ absF (powF r u x - defF r w) ∧ absF (powF r u x - defF r w) < 6000 ∧ (defF r w < powF r u x → absF (powF r u x - defF r w) = powF r u x - defF r w) ∧ (¬ defF r w < powF r u x → absF (powF r u x - defF r w) = defF r w - powF r u x) := by unfold absF; split <;> omega
  refine ZW.iconst dX1_weigh_74 ?_
  refine ZW.aload_n dX1_weigh_75 rfl ?_
  refine ZW.getI (fz := 2) dX1_weigh_76 fl_X1_36 ⟨_, rfl, rfl⟩ rfl rfl ?_
  refine ZW.aload_n dX1_weigh_79 rfl ?_
  refine ZW.getI (fz := 3) dX1_weigh_80 fl_X1_44 ⟨_, rfl, rfl⟩ rfl rfl ?_
  rw [s8.1, s8.2.1]
  refine ZW.isub dX1_weigh_83 ?_
  refine ZW.mabs dX1_weigh_84 (mmW_2 218 rfl rfl) (mmW_2 219 rfl rfl) (mmW_1 12 rfl rfl) (mmW_2 220 rfl rfl) (by decide) (Nat.le_of_ble_eq_true rfl) (by omega) ?_
  refine ZW.iconst dX1_weigh_87 ?_
  refine ZW.idiv dX1_weigh_88 (by omega) ?_
  refine ZW.iadd dX1_weigh_89 ?_
  refine ZW.istore dX1_weigh_90 (by decide) rfl ?_
  refine ZW.aload_n dX1_weigh_92 rfl ?_
  refine ZW.getI (fz := 2) dX1_weigh_93 fl_X1_36 ⟨_, rfl, rfl⟩ rfl rfl ?_
  refine ZW.aload_n dX1_weigh_96 rfl ?_
  refine ZW.getI (fz := 3) dX1_weigh_97 fl_X1_44 ⟨_, rfl, rfl⟩ rfl rfl ?_
  rw [s8.1, s8.2.1]
  refine ZW.icmp_le (tgt := 121) dX1_weigh_100 (by decide) (by first | omega | exact zB_R _) (by first | omega | exact zB_R _) (fun c100 => ?_) (fun c100 => ?_)
  · refine ZW.aload_n dX1_weigh_121 rfl ?_
    refine ZW.aload_n dX1_weigh_122 rfl ?_
    refine ZW.getI (fz := 4) dX1_weigh_123 fl_X1_50 ⟨_, rfl, rfl⟩ rfl rfl ?_
    rw [s8.2.2.1]
    refine ZW.iload dX1_weigh_126 rfl ?_
    refine ZW.isub dX1_weigh_128 ?_
    refine ZW.iconst dX1_weigh_129 ?_
    refine ZW.mmax dX1_weigh_130 (mmW_2 221 rfl rfl) (mmW_2 222 rfl rfl) (mmW_1 12 rfl rfl) (mmW_2 223 rfl rfl) (by decide) (Nat.le_of_ble_eq_true rfl) (by omega) (by omega) ?_
    refine ZW.puti (fz := 4) dX1_weigh_133 fp_X1_50 ⟨_, rfl, rfl⟩ rfl ?_
    refine ZW.vret dX1_weigh_136 rfl ?_
    refine ⟨f8.set (by decide) _ _, ?_⟩
    rw [zSet_same, zUp_same, zUp_ne _ _ (by decide), zUp_ne _ _ (by decide), zUp_ne _ _ (by decide)]
    refine ⟨s8.1, s8.2.1, ?_, ?_⟩
    · have hm : maxF (ofF r u 1 - (1 + absF (powF r u x - defF r w) / 4)) 0 = weakF r u (defF r w - powF r u x) := by
        unfold maxF weakF
        rw [hab.2.2.2 (by omega)]
        split <;> split <;> omega
      unfold attL
      rw [if_neg (by omega)]
      exact hm
    · unfold defL
      rw [if_neg (by omega)]
      exact s8.2.2.2
  · refine ZW.aload_n dX1_weigh_103 rfl ?_
    refine ZW.aload_n dX1_weigh_104 rfl ?_
    refine ZW.getI (fz := 5) dX1_weigh_105 fl_X1_53 ⟨_, rfl, rfl⟩ rfl rfl ?_
    rw [s8.2.2.2]
    refine ZW.iload dX1_weigh_108 rfl ?_
    refine ZW.isub dX1_weigh_110 ?_
    refine ZW.iconst dX1_weigh_111 ?_
    refine ZW.mmax dX1_weigh_112 (mmW_2 221 rfl rfl) (mmW_2 222 rfl rfl) (mmW_1 12 rfl rfl) (mmW_2 223 rfl rfl) (by decide) (Nat.le_of_ble_eq_true rfl) (by omega) (by omega) ?_
    refine ZW.puti (fz := 5) dX1_weigh_115 fp_X1_53 ⟨_, rfl, rfl⟩ rfl ?_
    refine ZW.goto (tgt := 136) dX1_weigh_118 (by decide) ?_
    refine ZW.vret dX1_weigh_136 rfl ?_
    refine ⟨f8.set (by decide) _ _, ?_⟩
    rw [zSet_same, zUp_same, zUp_ne _ _ (by decide), zUp_ne _ _ (by decide), zUp_ne _ _ (by decide)]
    refine ⟨s8.1, s8.2.1, ?_, ?_⟩
    · unfold attL
      rw [if_pos (by omega)]
      exact s8.2.2.1
    · have hm : maxF (ofF r w 1 - (1 + absF (powF r u x - defF r w) / 4)) 0 = weakF r w (powF r u x - defF r w) := by
        unfold maxF weakF
        rw [hab.2.2.1 (by omega)]
        split <;> split <;> omega
      unfold defL
      rw [if_pos (by omega)]
      exact hm
