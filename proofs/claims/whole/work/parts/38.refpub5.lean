-- the reference: what is told of units, and counted
noncomputable def untV (r : Int → Int) (u w : Int) : Int :=
  if isUnitB r u then (if w = 5 then zB (supB r u) else if w = 6 then supF r (ofF r u 0) (ofF r u 2) else if w = 7 then ofF r u 5 else if w = 8 then reachF r u else if w = 9 then zB (seesF r (1 - ofF r u 0) (ofF r u 2)) else if inB w 0 4 then ofF r u w else -2) else -1
set_option maxHeartbeats 1000000 in
theorem c_X8_unit (g : ZH) (hI : rI g) {u w : Int} (hu : zR u) (hw : zR w) : ZC 7 mX8_unit [.inr 100, .inl u, .inl w] g (fun r g' => r = untV (g 101) u w ∧ rSame g g') := by
  obtain ⟨hB, hU⟩ := rows hI
  refine ZC.of (by decide +kernel) (Nat.le_of_ble_eq_true rfl) ?_
  have s0 := rSame.t0 g
  refine ZW.aload_n dX8_unit_0 rfl ?_
  refine ZW.iconst dX8_unit_1 ?_
  refine ZW.puti (fz := 0) dX8_unit_2 fp_X8_44 ⟨_, rfl, rfl⟩ rfl ?_
  refine ZW.aload_n dX8_unit_5 rfl ?_
  refine ZW.iload_n dX8_unit_6 rfl ?_
  obtain ⟨g0, hg0⟩ : ∃ z, z = zSet g 100 0 0 := ⟨_, rfl⟩
  rw [← hg0] at s0 ⊢
  have e0 : g0 101 = g 101 := s0.2.2
  refine ZW.callV (as := [_]) dX8_unit_7 cv_X8_136 ⟨_, rfl⟩ rfl (by decide) (Nat.le_of_ble_eq_true rfl) rfl (c_X8_isUnit _ (e0 ▸ hB) hu) (fun r1 g1 ⟨q1, q2⟩ => ?_)
  subst q1; subst q2
  rw [e0]
  refine ZW.if_ne (tgt := 15) dX8_unit_10 (by decide) (by first | omega | exact zB_R _) (fun c10 => ?_) (fun c10 => ?_)
  · have e := zB_ne c10
    have hu2 := isUnitB_t hB e
    have hur : 0 ≤ u ∧ u < 16 := ⟨hu2.1, hu2.2.2.1⟩
    have hU2 := hU u hur.1 hur.2
    refine ZW.iload_n dX8_unit_15 rfl ?_
    by_cases hw9 : w < 5 ∨ 9 < w
    · have n5 : w ≠ 5 := by omega
      have n6 : w ≠ 6 := by omega
      have n7 : w ≠ 7 := by omega
      have n8 : w ≠ 8 := by omega
      have n9 : w ≠ 9 := by omega
      refine ZW.tableOut (tgt := 112) dX8_unit_16 (by omega) (by omega) (by decide) ?_
      refine ZW.iload_n dX8_unit_112 rfl ?_
      refine ZW.iconst dX8_unit_113 ?_
      refine ZW.iconst dX8_unit_114 ?_
      refine ZW.callS (as := [_, _, _]) dX8_unit_115 cs_X8_48 rfl (by decide) (Nat.le_of_ble_eq_true rfl) rfl (c_X8_in _ hw (by decide) (by decide)) (fun r1 g2 ⟨q1, q2⟩ => ?_)
      subst q1; subst q2
      refine ZW.if_eq (tgt := 130) dX8_unit_118 (by decide) (by first | omega | exact zB_R _) (fun c118 => ?_) (fun c118 => ?_)
      · have e2 := zB_eq c118
        refine ZW.bipush dX8_unit_130 rfl ?_
        refine ZW.ireti dX8_unit_132 rfl ?_
        exact ⟨by unfold untV; rw [e, if_pos rfl, if_neg n5, if_neg n6, if_neg n7, if_neg n8, if_neg n9, e2]; rfl, s0⟩
      · have e2 := zB_ne c118
        have hwr := of_decide_eq_true e2
        refine ZW.aload_n dX8_unit_121 rfl ?_
        refine ZW.iload_n dX8_unit_122 rfl ?_
        refine ZW.iload_n dX8_unit_123 rfl ?_
        refine ZW.callV (as := [_, _]) dX8_unit_124 cv_X8_52 ⟨_, rfl⟩ rfl (by decide) (Nat.le_of_ble_eq_true rfl) rfl (c_X8_of _ hur (by omega)) (fun r1 g3 ⟨q1, q2⟩ => ?_)
        subst q1; subst q2
        rw [e0]
        refine ZW.goto (tgt := 132) dX8_unit_127 (by decide) ?_
        refine ZW.ireti dX8_unit_132 rfl ?_
        exact ⟨by unfold untV; rw [e, if_pos rfl, if_neg n5, if_neg n6, if_neg n7, if_neg n8, if_neg n9, e2]; rfl, s0⟩
    · rcases (show w = 5 ∨ w = 6 ∨ w = 7 ∨ w = 8 ∨ w = 9 by omega) with rfl | rfl | rfl | rfl | rfl
      · refine ZW.tableIn (off := 36) (tgt := 52) dX8_unit_16 (by omega) (by omega) rfl (by decide) ?_
        have hV : untV (g 101) u 5 = zB (supB (g 101) u) := by unfold untV; rw [e]; rfl
        rw [hV]
        refine ZW.aload_n dX8_unit_52 rfl ?_
        refine ZW.iload_n dX8_unit_53 rfl ?_
        refine ZW.callV (as := [_]) dX8_unit_54 cv_X8_104 ⟨_, rfl⟩ rfl (by decide) (Nat.le_of_ble_eq_true rfl) rfl (c_X8_isSupplied _ (e0 ▸ hB) (e0 ▸ hU) hur) (fun r1 g2 ⟨q1, f2⟩ => ?_)
        subst q1
        rw [e0]
        have s2 := s0.tr (rSame.fr f2 (by decide))
        refine ZW.if_eq (tgt := 64) dX8_unit_57 (by decide) (by first | omega | exact zB_R _) (fun c57 => ?_) (fun c57 => ?_)
        · have e2 := zB_eq c57
          refine ZW.iconst dX8_unit_64 ?_
          refine ZW.ireti dX8_unit_65 rfl ?_
          exact ⟨by rw [e2]; rfl, s2⟩
        · have e2 := zB_ne c57
          refine ZW.iconst dX8_unit_60 ?_
          refine ZW.goto (tgt := 65) dX8_unit_61 (by decide) ?_
          refine ZW.ireti dX8_unit_65 rfl ?_
          exact ⟨by rw [e2]; rfl, s2⟩
      · refine ZW.tableIn (off := 50) (tgt := 66) dX8_unit_16 (by omega) (by omega) rfl (by decide) ?_
        refine ZW.aload_n dX8_unit_66 rfl ?_
        refine ZW.iload_n dX8_unit_67 rfl ?_
        refine ZW.callV (as := [_]) dX8_unit_68 cv_X8_98 ⟨_, rfl⟩ rfl (by decide) (Nat.le_of_ble_eq_true rfl) rfl (c_X8_toSource _ (e0 ▸ hB) (e0 ▸ hU) hur) (fun r1 g2 ⟨q1, f2⟩ => ?_)
        subst q1
        rw [e0]
        refine ZW.ireti dX8_unit_71 rfl ?_
        exact ⟨by unfold untV; rw [e]; rfl, s0.tr (rSame.fr f2 (by decide))⟩
      · refine ZW.tableIn (off := 56) (tgt := 72) dX8_unit_16 (by omega) (by omega) rfl (by decide) ?_
        refine ZW.aload_n dX8_unit_72 rfl ?_
        refine ZW.iload_n dX8_unit_73 rfl ?_
        refine ZW.iconst dX8_unit_74 ?_
        refine ZW.callV (as := [_, _]) dX8_unit_75 cv_X8_52 ⟨_, rfl⟩ rfl (by decide) (Nat.le_of_ble_eq_true rfl) rfl (c_X8_of _ hur (by omega)) (fun r1 g2 ⟨q1, q2⟩ => ?_)
        subst q1; subst q2
        rw [e0]
        refine ZW.ireti dX8_unit_78 rfl ?_
        exact ⟨by unfold untV; rw [e]; rfl, s0⟩
      · refine ZW.tableIn (off := 63) (tgt := 79) dX8_unit_16 (by omega) (by omega) rfl (by decide) ?_
        refine ZW.aload_n dX8_unit_79 rfl ?_
        refine ZW.iload_n dX8_unit_80 rfl ?_
        refine ZW.callV (as := [_]) dX8_unit_81 cv_X8_209 ⟨_, rfl⟩ rfl (by decide) (Nat.le_of_ble_eq_true rfl) rfl (c_X8_reaches _ (e0 ▸ hB) (e0 ▸ hU) hur) (fun r1 g2 ⟨q1, f2⟩ => ?_)
        subst q1
        rw [e0]
        refine ZW.ireti dX8_unit_84 rfl ?_
        exact ⟨by unfold untV; rw [e]; rfl, s0.tr (rSame.fr f2 (by decide))⟩
      · refine ZW.tableIn (off := 69) (tgt := 85) dX8_unit_16 (by omega) (by omega) rfl (by decide) ?_
        have hV : untV (g 101) u 9 = zB (seesF (g 101) (1 - ofF (g 101) u 0) (ofF (g 101) u 2)) := by unfold untV; rw [e]; rfl
        rw [hV]
        refine ZW.aload_n dX8_unit_85 rfl ?_
        refine ZW.iconst dX8_unit_86 ?_
        refine ZW.aload_n dX8_unit_87 rfl ?_
        refine ZW.iload_n dX8_unit_88 rfl ?_
        refine ZW.iconst dX8_unit_89 ?_
        refine ZW.callV (as := [_, _]) dX8_unit_90 cv_X8_52 ⟨_, rfl⟩ rfl (by decide) (Nat.le_of_ble_eq_true rfl) rfl (c_X8_of _ hur (by omega)) (fun r1 g2 ⟨q1, q2⟩ => ?_)
        subst q1; subst q2
        rw [e0]
        refine ZW.isub dX8_unit_93 ?_
        refine ZW.aload_n dX8_unit_94 rfl ?_
        refine ZW.iload_n dX8_unit_95 rfl ?_
        refine ZW.iconst dX8_unit_96 ?_
        refine ZW.callV (as := [_, _]) dX8_unit_97 cv_X8_52 ⟨_, rfl⟩ rfl (by decide) (Nat.le_of_ble_eq_true rfl) rfl (c_X8_of _ hur (by omega)) (fun r1 g2 ⟨q1, q2⟩ => ?_)
        subst q1; subst q2
        rw [e0]
        refine ZW.callV (as := [_, _]) dX8_unit_100 cv_X8_203 ⟨_, rfl⟩ rfl (by decide) (Nat.le_of_ble_eq_true rfl) rfl (c_X8_sees _ (e0 ▸ hB) (e0 ▸ hU) (by omega) hU2.2) (fun r1 g2 ⟨q1, f2⟩ => ?_)
        subst q1
        rw [e0]
        have s2 := s0.tr (rSame.fr f2 (by decide))
        refine ZW.if_eq (tgt := 110) dX8_unit_103 (by decide) (by first | omega | exact zB_R _) (fun c103 => ?_) (fun c103 => ?_)
        · have e2 := zB_eq c103
          refine ZW.iconst dX8_unit_110 ?_
          refine ZW.ireti dX8_unit_111 rfl ?_
          exact ⟨by rw [e2]; rfl, s2⟩
        · have e2 := zB_ne c103
          refine ZW.iconst dX8_unit_106 ?_
          refine ZW.goto (tgt := 111) dX8_unit_107 (by decide) ?_
          refine ZW.ireti dX8_unit_111 rfl ?_
          exact ⟨by rw [e2]; rfl, s2⟩
  · have e := zB_eq c10
    refine ZW.iconst dX8_unit_13 ?_
    refine ZW.ireti dX8_unit_14 rfl ?_
    exact ⟨by unfold untV; rw [e]; rfl, s0⟩
noncomputable def cstV (r : Int → Int) (u x : Int) : Int := if isUnitB r u && isHexB x then (if ofF r u 2 = x then 0 else (if canR r u x then wayF r u x else -5)) else -1
theorem c_X8_cost (g : ZH) (hI : rI g) {u x : Int} (hu : zR u) (hx : zR x) : ZC 6 mX8_cost [.inr 100, .inl u, .inl x] g (fun r g' => r = cstV (g 101) u x ∧ rSame g g') := by
  obtain ⟨hB, hU⟩ := rows hI
  refine ZC.of (by decide +kernel) (Nat.le_of_ble_eq_true rfl) ?_
  have s0 := rSame.t0 g
  refine ZW.aload_n dX8_cost_0 rfl ?_
  refine ZW.iconst dX8_cost_1 ?_
  refine ZW.puti (fz := 0) dX8_cost_2 fp_X8_44 ⟨_, rfl, rfl⟩ rfl ?_
  refine ZW.aload_n dX8_cost_5 rfl ?_
  refine ZW.iload_n dX8_cost_6 rfl ?_
  obtain ⟨g0, hg0⟩ : ∃ z, z = zSet g 100 0 0 := ⟨_, rfl⟩
  rw [← hg0] at s0 ⊢
  have e0 : g0 101 = g 101 := s0.2.2
  refine ZW.callV (as := [_]) dX8_cost_7 cv_X8_136 ⟨_, rfl⟩ rfl (by decide) (Nat.le_of_ble_eq_true rfl) rfl (c_X8_isUnit _ (e0 ▸ hB) hu) (fun r1 g1 ⟨q1, q2⟩ => ?_)
  subst q1; subst q2
  rw [e0]
  refine ZW.if_eq (tgt := 20) dX8_cost_10 (by decide) (by first | omega | exact zB_R _) (fun c10 => ?_) (fun c10 => ?_)
  · have e := zB_eq c10
    refine ZW.iconst dX8_cost_20 ?_
    refine ZW.ireti dX8_cost_21 rfl ?_
    exact ⟨by unfold cstV; rw [e]; rfl, s0⟩
  · have e := zB_ne c10
    have hu2 := isUnitB_t hB e
    have hur : 0 ≤ u ∧ u < 16 := ⟨hu2.1, hu2.2.2.1⟩
    refine ZW.iload_n dX8_cost_13 rfl ?_
    refine ZW.callS (as := [_]) dX8_cost_14 cs_X8_124 rfl (by decide) (Nat.le_of_ble_eq_true rfl) rfl (c_X8_isHex _ hx) (fun r1 g2 ⟨q1, q2⟩ => ?_)
    subst q1; subst q2
    refine ZW.if_ne (tgt := 22) dX8_cost_17 (by decide) (by first | omega | exact zB_R _) (fun c17 => ?_) (fun c17 => ?_)
    · have e2 := zB_ne c17
      have hxr := isHexB_t e2
      refine ZW.aload_n dX8_cost_22 rfl ?_
      refine ZW.iload_n dX8_cost_23 rfl ?_
      refine ZW.callVv (as := [_]) dX8_cost_24 cv_X8_142 ⟨_, rfl⟩ rfl (by decide) (Nat.le_of_ble_eq_true rfl) rfl (fun _ _ hz _ => hz) (c_X8_laysWays _ (e0 ▸ hB) (e0 ▸ hU) hur) (fun g3 ⟨f3, w3⟩ => ?_)
      rw [e0] at w3
      have s3 := s0.tr (rSame.fr f3 (by decide))
      have e3 : g3 101 = g 101 := s3.2.2
      have hR2 := ofU_R hB hur (w := 2) (by decide)
      have hwr := wayF_R (g 101) u x
      have hwx := w3 x hxr.1 hxr.2
      refine ZW.aload_n dX8_cost_27 rfl ?_
      refine ZW.iload_n dX8_cost_28 rfl ?_
      refine ZW.iconst dX8_cost_29 ?_
      refine ZW.callV (as := [_, _]) dX8_cost_30 cv_X8_52 ⟨_, rfl⟩ rfl (by decide) (Nat.le_of_ble_eq_true rfl) rfl (c_X8_of _ hur (by omega)) (fun r1 g4 ⟨q1, q2⟩ => ?_)
      subst q1; subst q2
      rw [e3]
      refine ZW.iload_n dX8_cost_33 rfl ?_
      refine ZW.icmp_ne (tgt := 41) dX8_cost_34 (by decide) (by first | omega | exact zB_R _) (by first | omega | exact zB_R _) (fun c34 => ?_) (fun c34 => ?_)
      · refine ZW.aload_n dX8_cost_41 rfl ?_
        refine ZW.iload_n dX8_cost_42 rfl ?_
        refine ZW.iload_n dX8_cost_43 rfl ?_
        refine ZW.callV (as := [_, _]) dX8_cost_44 cv_X8_145 ⟨_, rfl⟩ rfl (by decide) (Nat.le_of_ble_eq_true rfl) rfl (c_X8_canReach _ (e3 ▸ hB) hur hxr (by rw [hwx]; omega)) (fun r1 g5 ⟨q1, q2⟩ => ?_)
        subst q1; subst q2
        rw [e3, hwx]
        refine ZW.if_eq (tgt := 59) dX8_cost_47 (by decide) (by first | omega | exact zB_R _) (fun c47 => ?_) (fun c47 => ?_)
        · have e4 : canR (g 101) u x = false := zB_eq c47
          refine ZW.bipush dX8_cost_59 rfl ?_
          refine ZW.ireti dX8_cost_61 rfl ?_
          exact ⟨by unfold cstV; rw [e, e2, Bool.and_self, if_pos rfl, if_neg c34, e4]; rfl, s3⟩
        · have e4 : canR (g 101) u x = true := zB_ne c47
          refine ZW.aload_n dX8_cost_50 rfl ?_
          refine ZW.getR dX8_cost_51 fl_X8_25 ⟨_, rfl, rfl⟩ ?_
          refine ZW.iload_n dX8_cost_54 rfl ?_
          refine ZW.iald dX8_cost_55 rfl (by decide) (by omega) rfl ?_
          refine ZW.goto (tgt := 61) dX8_cost_56 (by decide) ?_
          refine ZW.ireti dX8_cost_61 rfl ?_
          exact ⟨by unfold cstV; rw [e, e2, Bool.and_self, if_pos rfl, if_neg c34, e4, if_pos rfl]; exact hwx, s3⟩
      · refine ZW.iconst dX8_cost_37 ?_
        refine ZW.goto (tgt := 61) dX8_cost_38 (by decide) ?_
        refine ZW.ireti dX8_cost_61 rfl ?_
        exact ⟨by unfold cstV; rw [e, e2, Bool.and_self, if_pos rfl, if_pos c34], s3⟩
    · have e2 := zB_eq c17
      refine ZW.iconst dX8_cost_20 ?_
      refine ZW.ireti dX8_cost_21 rfl ?_
      exact ⟨by unfold cstV; rw [e, e2]; rfl, s0⟩
noncomputable def wldR (r : Int → Int) (u x w : Int) : Int :=
  if w = 0 then powF r u x else if w = 1 then defF r (unitOnF r x) else if w = 2 then (if defF r (unitOnF r x) < powF r u x then ofF r u 1 else weakF r u (defF r (unitOnF r x) - powF r u x)) else (if defF r (unitOnF r x) < powF r u x then weakF r (unitOnF r x) (powF r u x - defF r (unitOnF r x)) else ofF r (unitOnF r x) 1)
noncomputable def wldV (r : Int → Int) (u x w : Int) : Int := if isUnitB r u && isHexB x then (if inB w 0 3 then (if canF r u x then wldR r u x w else -4) else -2) else -1
set_option maxHeartbeats 1000000 in
theorem c_X8_would (g : ZH) (hI : rI g) {u x w : Int} (hu : zR u) (hx : zR x) (hw : zR w) : ZC 8 mX8_would [.inr 100, .inl u, .inl x, .inl w] g (fun r g' => r = wldV (g 101) u x w ∧ rSame g g') := by
  obtain ⟨hB, hU⟩ := rows hI
  refine ZC.of (by decide +kernel) (Nat.le_of_ble_eq_true rfl) ?_
  have s0 := rSame.t0 g
  refine ZW.aload_n dX8_would_0 rfl ?_
  refine ZW.iconst dX8_would_1 ?_
  refine ZW.puti (fz := 0) dX8_would_2 fp_X8_44 ⟨_, rfl, rfl⟩ rfl ?_
  refine ZW.aload_n dX8_would_5 rfl ?_
  refine ZW.iload_n dX8_would_6 rfl ?_
  obtain ⟨g0, hg0⟩ : ∃ z, z = zSet g 100 0 0 := ⟨_, rfl⟩
  rw [← hg0] at s0 ⊢
  have e0 : g0 101 = g 101 := s0.2.2
  refine ZW.callV (as := [_]) dX8_would_7 cv_X8_136 ⟨_, rfl⟩ rfl (by decide) (Nat.le_of_ble_eq_true rfl) rfl (c_X8_isUnit _ (e0 ▸ hB) hu) (fun r1 g1 ⟨q1, q2⟩ => ?_)
  subst q1; subst q2
  rw [e0]
  refine ZW.if_eq (tgt := 20) dX8_would_10 (by decide) (by first | omega | exact zB_R _) (fun c10 => ?_) (fun c10 => ?_)
  · have e := zB_eq c10
    refine ZW.iconst dX8_would_20 ?_
    refine ZW.ireti dX8_would_21 rfl ?_
    exact ⟨by unfold wldV; rw [e]; rfl, s0⟩
  · have e := zB_ne c10
    have hu2 := isUnitB_t hB e
    have hur : 0 ≤ u ∧ u < 16 := ⟨hu2.1, hu2.2.2.1⟩
    refine ZW.iload_n dX8_would_13 rfl ?_
    refine ZW.callS (as := [_]) dX8_would_14 cs_X8_124 rfl (by decide) (Nat.le_of_ble_eq_true rfl) rfl (c_X8_isHex _ hx) (fun r1 g2 ⟨q1, q2⟩ => ?_)
    subst q1; subst q2
    refine ZW.if_ne (tgt := 22) dX8_would_17 (by decide) (by first | omega | exact zB_R _) (fun c17 => ?_) (fun c17 => ?_)
    · have e2 := zB_ne c17
      have hxr := isHexB_t e2
      refine ZW.iload_n dX8_would_22 rfl ?_
      refine ZW.iconst dX8_would_23 ?_
      refine ZW.iconst dX8_would_24 ?_
      refine ZW.callS (as := [_, _, _]) dX8_would_25 cs_X8_48 rfl (by decide) (Nat.le_of_ble_eq_true rfl) rfl (c_X8_in _ hw (by decide) (by decide)) (fun r1 g3 ⟨q1, q2⟩ => ?_)
      subst q1; subst q2
      refine ZW.if_ne (tgt := 34) dX8_would_28 (by decide) (by first | omega | exact zB_R _) (fun c28 => ?_) (fun c28 => ?_)
      · have e3 := zB_ne c28
        have hwr := of_decide_eq_true e3
        refine ZW.aload_n dX8_would_34 rfl ?_
        refine ZW.iload_n dX8_would_35 rfl ?_
        refine ZW.iload_n dX8_would_36 rfl ?_
        refine ZW.callV (as := [_, _]) dX8_would_37 cv_X8_154 ⟨_, rfl⟩ rfl (by decide) (Nat.le_of_ble_eq_true rfl) rfl (c_X8_canFight _ (e0 ▸ hB) (e0 ▸ hU) hur hxr) (fun r1 g4 ⟨q1, q2⟩ => ?_)
        subst q1; subst q2
        rw [e0]
        refine ZW.if_ne (tgt := 46) dX8_would_40 (by decide) (by first | omega | exact zB_R _) (fun c40 => ?_) (fun c40 => ?_)
        · have e4 := zB_ne c40
          obtain ⟨t1, t2, t3, t4, t5, t6, t7, t8, t9⟩ := canF_t hB e4
          have hA := powF_R hB (x := x) hur
          have hD := defF_R hB (u := unitOnF (g 101) x) ⟨t2, t4⟩
          have hV : wldV (g 101) u x w = wldR (g 101) u x w := by unfold wldV; rw [e, e2, e3, e4]; rfl
          rw [hV]
          refine ZW.aload_n dX8_would_46 rfl ?_
          refine ZW.iload_n dX8_would_47 rfl ?_
          refine ZW.callV (as := [_]) dX8_would_48 cv_X8_62 ⟨_, rfl⟩ rfl (by decide) (Nat.le_of_ble_eq_true rfl) rfl (c_X8_unitOn _ (e0 ▸ hB) (by omega)) (fun r1 g5 ⟨q1, q2⟩ => ?_)
          subst q1; subst q2
          rw [e0]
          refine ZW.istore dX8_would_51 (by decide) rfl ?_
          refine ZW.aload_n dX8_would_53 rfl ?_
          refine ZW.iload_n dX8_would_54 rfl ?_
          refine ZW.iload_n dX8_would_55 rfl ?_
          refine ZW.callV (as := [_, _]) dX8_would_56 cv_X8_111 ⟨_, rfl⟩ rfl (by decide) (Nat.le_of_ble_eq_true rfl) rfl (c_X8_power _ (e0 ▸ hB) (e0 ▸ hU) hur hxr (by rw [e0]; exact t7)) (fun r1 g6 ⟨q1, f6⟩ => ?_)
          subst q1
          rw [e0]
          have s6 := s0.tr (rSame.fr f6 (by decide))
          have e6 : g6 101 = g 101 := s6.2.2
          refine ZW.istore dX8_would_59 (by decide) rfl ?_
          refine ZW.aload_n dX8_would_61 rfl ?_
          refine ZW.iload dX8_would_62 rfl ?_
          refine ZW.callV (as := [_]) dX8_would_64 cv_X8_114 ⟨_, rfl⟩ rfl (by decide) (Nat.le_of_ble_eq_true rfl) rfl (c_X8_defence _ (e6 ▸ hB) (e6 ▸ hU) ⟨t2, t4⟩) (fun r1 g7 ⟨q1, f7⟩ => ?_)
          subst q1
          rw [e6]
          have s7 := s6.tr (rSame.fr f7 (by decide))
          have e7 : g7 101 = g 101 := s7.2.2
          refine ZW.istore dX8_would_67 (by decide) rfl ?_
          refine ZW.iload_n dX8_would_69 rfl ?_
          rcases (show w = 0 ∨ w = 1 ∨ w = 2 ∨ w = 3 by omega) with rfl | rfl | rfl | rfl
          · refine ZW.tableIn (off := 26) (tgt := 96) dX8_would_70 (by omega) (by omega) rfl (by decide) ?_
            refine ZW.iload dX8_would_96 rfl ?_
            refine ZW.ireti dX8_would_98 rfl ?_
            exact ⟨by unfold wldR; rfl, s7⟩
          · refine ZW.tableIn (off := 29) (tgt := 99) dX8_would_70 (by omega) (by omega) rfl (by decide) ?_
            refine ZW.iload dX8_would_99 rfl ?_
            refine ZW.ireti dX8_would_101 rfl ?_
            exact ⟨by unfold wldR; rfl, s7⟩
          · refine ZW.tableIn (off := 32) (tgt := 102) dX8_would_70 (by omega) (by omega) rfl (by decide) ?_
            have hR : wldR (g 101) u x 2 = (if defF (g 101) (unitOnF (g 101) x) < powF (g 101) u x then ofF (g 101) u 1 else weakF (g 101) u (defF (g 101) (unitOnF (g 101) x) - powF (g 101) u x)) := by unfold wldR; rfl
            rw [hR]
            refine ZW.iload dX8_would_102 rfl ?_
            refine ZW.iload dX8_would_104 rfl ?_
            refine ZW.icmp_le (tgt := 118) dX8_would_106 (by decide) (by first | omega | exact zB_R _) (by first | omega | exact zB_R _) (fun c106 => ?_) (fun c106 => ?_)
            · refine ZW.aload_n dX8_would_118 rfl ?_
              refine ZW.iload_n dX8_would_119 rfl ?_
              refine ZW.iload dX8_would_120 rfl ?_
              refine ZW.iload dX8_would_122 rfl ?_
              refine ZW.isub dX8_would_124 ?_
              refine ZW.callV (as := [_, _]) dX8_would_125 cv_X8_117 ⟨_, rfl⟩ rfl (by decide) (Nat.le_of_ble_eq_true rfl) rfl (c_X8_weakened _ (e7 ▸ hB) hur (by omega)) (fun r1 g8 ⟨q1, q2⟩ => ?_)
              subst q1; subst q2
              refine ZW.ireti dX8_would_128 rfl ?_
              exact ⟨by rw [e7, if_neg (by omega)], s7⟩
            · refine ZW.aload_n dX8_would_109 rfl ?_
              refine ZW.iload_n dX8_would_110 rfl ?_
              refine ZW.iconst dX8_would_111 ?_
              refine ZW.callV (as := [_, _]) dX8_would_112 cv_X8_52 ⟨_, rfl⟩ rfl (by decide) (Nat.le_of_ble_eq_true rfl) rfl (c_X8_of _ hur (by omega)) (fun r1 g8 ⟨q1, q2⟩ => ?_)
              subst q1; subst q2
              refine ZW.goto (tgt := 128) dX8_would_115 (by decide) ?_
              refine ZW.ireti dX8_would_128 rfl ?_
              exact ⟨by rw [e7, if_pos (by omega)], s7⟩
          · refine ZW.tableOut (tgt := 129) dX8_would_70 (by omega) (by omega) (by decide) ?_
            have hR : wldR (g 101) u x 3 = (if defF (g 101) (unitOnF (g 101) x) < powF (g 101) u x then weakF (g 101) (unitOnF (g 101) x) (powF (g 101) u x - defF (g 101) (unitOnF (g 101) x)) else ofF (g 101) (unitOnF (g 101) x) 1) := by unfold wldR; rfl
            rw [hR]
            refine ZW.iload dX8_would_129 rfl ?_
            refine ZW.iload dX8_would_131 rfl ?_
            refine ZW.icmp_le (tgt := 150) dX8_would_133 (by decide) (by first | omega | exact zB_R _) (by first | omega | exact zB_R _) (fun c133 => ?_) (fun c133 => ?_)
            · refine ZW.aload_n dX8_would_150 rfl ?_
              refine ZW.iload dX8_would_151 rfl ?_
              refine ZW.iconst dX8_would_153 ?_
              refine ZW.callV (as := [_, _]) dX8_would_154 cv_X8_52 ⟨_, rfl⟩ rfl (by decide) (Nat.le_of_ble_eq_true rfl) rfl (c_X8_of _ ⟨t2, t4⟩ (by omega)) (fun r1 g8 ⟨q1, q2⟩ => ?_)
              subst q1; subst q2
              refine ZW.ireti dX8_would_157 rfl ?_
              exact ⟨by rw [e7, if_neg (by omega)], s7⟩
            · refine ZW.aload_n dX8_would_136 rfl ?_
              refine ZW.iload dX8_would_137 rfl ?_
              refine ZW.iload dX8_would_139 rfl ?_
              refine ZW.iload dX8_would_141 rfl ?_
              refine ZW.isub dX8_would_143 ?_
              refine ZW.callV (as := [_, _]) dX8_would_144 cv_X8_117 ⟨_, rfl⟩ rfl (by decide) (Nat.le_of_ble_eq_true rfl) rfl (c_X8_weakened _ (e7 ▸ hB) ⟨t2, t4⟩ (by omega)) (fun r1 g8 ⟨q1, q2⟩ => ?_)
              subst q1; subst q2
              refine ZW.goto (tgt := 157) dX8_would_147 (by decide) ?_
              refine ZW.ireti dX8_would_157 rfl ?_
              exact ⟨by rw [e7, if_pos (by omega)], s7⟩
        · have e4 := zB_eq c40
          refine ZW.bipush dX8_would_43 rfl ?_
          refine ZW.ireti dX8_would_45 rfl ?_
          exact ⟨by unfold wldV; rw [e, e2, e3, e4]; rfl, s0⟩
      · have e3 := zB_eq c28
        refine ZW.bipush dX8_would_31 rfl ?_
        refine ZW.ireti dX8_would_33 rfl ?_
        exact ⟨by unfold wldV; rw [e, e2, e3]; rfl, s0⟩
    · have e2 := zB_eq c17
      refine ZW.iconst dX8_would_20 ?_
      refine ZW.ireti dX8_would_21 rfl ?_
      exact ⟨by unfold wldV; rw [e, e2]; rfl, s0⟩
def bsgN (r : Int → Int) (s x d : Int) : Bool := decide (nextF x d ≠ -5) && (!(isOnB r (nextF x d) s) && !(zoneB r (nextF x d) s))
def bsgV (r : Int → Int) (x : Int) : Int := if isHexB x then (if r (126 + x) = 0 then -5 else zB (!(anyF (bsgN r (2 - r (126 + x)) x) 6 0))) else -1
theorem c_X8_besieged (g : ZH) (hI : rI g) {x : Int} (hx : zR x) : ZC 4 mX8_besieged [.inr 100, .inl x] g (fun r g' => r = bsgV (g 101) x ∧ rSame g g') := by
  obtain ⟨hB, hU⟩ := rows hI
  refine ZC.of (by decide +kernel) (Nat.le_of_ble_eq_true rfl) ?_
  have s0 := rSame.t0 g
  refine ZW.aload_n dX8_besieged_0 rfl ?_
  refine ZW.iconst dX8_besieged_1 ?_
  refine ZW.puti (fz := 0) dX8_besieged_2 fp_X8_44 ⟨_, rfl, rfl⟩ rfl ?_
  refine ZW.iload_n dX8_besieged_5 rfl ?_
  obtain ⟨g0, hg0⟩ : ∃ z, z = zSet g 100 0 0 := ⟨_, rfl⟩
  rw [← hg0] at s0 ⊢
  have e0 : g0 101 = g 101 := s0.2.2
  refine ZW.callS (as := [_]) dX8_besieged_6 cs_X8_124 rfl (by decide) (Nat.le_of_ble_eq_true rfl) rfl (c_X8_isHex _ hx) (fun r1 g1 ⟨q1, q2⟩ => ?_)
  subst q1; subst q2
  refine ZW.if_ne (tgt := 14) dX8_besieged_9 (by decide) (by first | omega | exact zB_R _) (fun c9 => ?_) (fun c9 => ?_)
  · have e := zB_ne c9
    have hxr := isHexB_t e
    have hgf := hB.1 (126 + x) (by omega) (by omega)
    refine ZW.aload_n dX8_besieged_14 rfl ?_
    refine ZW.getR dX8_besieged_15 fl_X8_7 ⟨_, rfl, rfl⟩ ?_
    refine ZW.bipush dX8_besieged_18 rfl ?_
    refine ZW.iload_n dX8_besieged_20 rfl ?_
    refine ZW.iadd dX8_besieged_21 ?_
    refine ZW.iald dX8_besieged_22 rfl (by decide) (by omega) rfl ?_
    rw [e0]
    refine ZW.if_ne (tgt := 29) dX8_besieged_23 (by decide) (by first | omega | exact zB_R _) (fun c23 => ?_) (fun c23 => ?_)
    · obtain ⟨sd, hsd⟩ : ∃ z, z = 2 - g 101 (126 + x) := ⟨_, rfl⟩
      have hV : bsgV (g 101) x = zB (!(anyF (bsgN (g 101) sd x) 6 0)) := by unfold bsgV; rw [e, if_pos rfl, if_neg c23, ← hsd]
      rw [hV]
      refine ZW.iconst dX8_besieged_29 ?_
      refine ZW.aload_n dX8_besieged_30 rfl ?_
      refine ZW.getR dX8_besieged_31 fl_X8_7 ⟨_, rfl, rfl⟩ ?_
      refine ZW.bipush dX8_besieged_34 rfl ?_
      refine ZW.iload_n dX8_besieged_36 rfl ?_
      refine ZW.iadd dX8_besieged_37 ?_
      refine ZW.iald dX8_besieged_38 rfl (by decide) (by omega) rfl ?_
      rw [e0]
      have hsR : zR sd := ⟨by omega, by omega⟩
      have loop : ∀ (n : Nat) (d : Int) (b : Bool) (o5 : Option ZV), 0 ≤ d → d + n = 6 → ZW 4 mX8_besieged 46 [some (.inr 100), some (.inl x), some (.inl sd), some (.inl (zB b)), some (.inl d), o5] [] g1 (fun r g' => r = zB (b && !(anyF (bsgN (g 101) sd x) n d)) ∧ rSame g g') := by
        intro n
        induction n with
        | zero =>
          intro d b o5 h0 hn
          refine ZW.iload dX8_besieged_46 rfl ?_
          refine ZW.bipush dX8_besieged_48 rfl ?_
          refine ZW.icmp_ge (tgt := 104) dX8_besieged_50 (by decide) (by first | omega | exact zB_R _) (by first | omega | exact zB_R _) (fun c50 => ?_) (fun c50 => ?_)
          · refine ZW.iload_n dX8_besieged_104 rfl ?_
            refine ZW.if_eq (tgt := 112) dX8_besieged_105 (by decide) (by first | omega | exact zB_R _) (fun c105 => ?_) (fun c105 => ?_)
            · have eb := zB_eq c105
              refine ZW.iconst dX8_besieged_112 ?_
              refine ZW.ireti dX8_besieged_113 rfl ?_
              exact ⟨by rw [eb]; rfl, s0⟩
            · have eb := zB_ne c105
              refine ZW.iconst dX8_besieged_108 ?_
              refine ZW.goto (tgt := 113) dX8_besieged_109 (by decide) ?_
              refine ZW.ireti dX8_besieged_113 rfl ?_
              exact ⟨by rw [eb]; rfl, s0⟩
          · exact absurd c50 (by omega)
        | succ n ih =>
          intro d b o5 h0 hn
          have hnr := nextF_R' x d
          have fin : ∀ (b2 : Bool) (o5 : Option ZV), b2 = (b && !(bsgN (g 101) sd x d)) → ZW 4 mX8_besieged 46 [some (.inr 100), some (.inl x), some (.inl sd), some (.inl (zB b2)), some (.inl (d + 1)), o5] [] g1 (fun r g' => r = zB (b && !(anyF (bsgN (g 101) sd x) (n + 1) d)) ∧ rSame g g') := by
            intro b2 o5 hb2
            refine ZW.mono (ih (d + 1) b2 o5 (by omega) (by omega)) (fun r g' hh => ⟨?_, hh.2⟩)
            rw [hh.1, hb2, show anyF (bsgN (g 101) sd x) (n + 1) d = (bsgN (g 101) sd x d || anyF (bsgN (g 101) sd x) n (d + 1)) from rfl, Bool.not_or, Bool.and_assoc]
          refine ZW.iload dX8_besieged_46 rfl ?_
          refine ZW.bipush dX8_besieged_48 rfl ?_
          refine ZW.icmp_ge (tgt := 104) dX8_besieged_50 (by decide) (by first | omega | exact zB_R _) (by first | omega | exact zB_R _) (fun c50 => ?_) (fun c50 => ?_)
          · exact absurd c50 (by omega)
          · refine ZW.iload_n dX8_besieged_53 rfl ?_
            refine ZW.iload dX8_besieged_54 rfl ?_
            refine ZW.callS (as := [_, _]) dX8_besieged_56 cs_X8_59 rfl (by decide) (Nat.le_of_ble_eq_true rfl) rfl (c_X8_next _ hxr (by omega)) (fun r1 g2 ⟨q1, q2⟩ => ?_)
            subst q1; subst q2
            refine ZW.istore dX8_besieged_59 (by decide) rfl ?_
            refine ZW.iload_n dX8_besieged_61 rfl ?_
            refine ZW.if_eq (tgt := 96) dX8_besieged_62 (by decide) (by first | omega | exact zB_R _) (fun c62 => ?_) (fun c62 => ?_)
            · have eb := zB_eq c62
              refine ZW.iconst dX8_besieged_96 ?_
              refine ZW.istore_n dX8_besieged_97 (by decide) rfl ?_
              refine ZW.iinc dX8_besieged_98 rfl (by decide) rfl ?_
              refine ZW.goto (tgt := 46) dX8_besieged_101 (by decide) ?_
              exact fin false _ (by rw [eb]; rfl)
            · have eb := zB_ne c62
              refine ZW.iload dX8_besieged_65 rfl ?_
              refine ZW.bipush dX8_besieged_67 rfl ?_
              refine ZW.icmp_eq (tgt := 92) dX8_besieged_69 (by decide) (by first | omega | exact zB_R _) (by first | omega | exact zB_R _) (fun c69 => ?_) (fun c69 => ?_)
              · refine ZW.iconst dX8_besieged_92 ?_
                refine ZW.goto (tgt := 97) dX8_besieged_93 (by decide) ?_
                refine ZW.istore_n dX8_besieged_97 (by decide) rfl ?_
                refine ZW.iinc dX8_besieged_98 rfl (by decide) rfl ?_
                refine ZW.goto (tgt := 46) dX8_besieged_101 (by decide) ?_
                exact fin true _ (by rw [eb]; simp [bsgN, c69])
              · have hr := (nextF_R (x := x) (d := d)).resolve_left c69
                refine ZW.aload_n dX8_besieged_72 rfl ?_
                refine ZW.iload dX8_besieged_73 rfl ?_
                refine ZW.iload_n dX8_besieged_75 rfl ?_
                refine ZW.callV (as := [_, _]) dX8_besieged_76 cv_X8_66 ⟨_, rfl⟩ rfl (by decide) (Nat.le_of_ble_eq_true rfl) rfl (c_X8_isOn _ (e0 ▸ hB) (by omega) hsR) (fun r1 g3 ⟨q1, q2⟩ => ?_)
                subst q1; subst q2
                rw [e0]
                refine ZW.if_ne (tgt := 92) dX8_besieged_79 (by decide) (by first | omega | exact zB_R _) (fun c79 => ?_) (fun c79 => ?_)
                · have eo := zB_ne c79
                  refine ZW.iconst dX8_besieged_92 ?_
                  refine ZW.goto (tgt := 97) dX8_besieged_93 (by decide) ?_
                  refine ZW.istore_n dX8_besieged_97 (by decide) rfl ?_
                  refine ZW.iinc dX8_besieged_98 rfl (by decide) rfl ?_
                  refine ZW.goto (tgt := 46) dX8_besieged_101 (by decide) ?_
                  exact fin true _ (by rw [eb]; simp [bsgN, eo])
                · have eo := zB_eq c79
                  refine ZW.aload_n dX8_besieged_82 rfl ?_
                  refine ZW.iload dX8_besieged_83 rfl ?_
                  refine ZW.iload_n dX8_besieged_85 rfl ?_
                  refine ZW.callV (as := [_, _]) dX8_besieged_86 cv_X8_70 ⟨_, rfl⟩ rfl (by decide) (Nat.le_of_ble_eq_true rfl) rfl (c_X8_isInZone _ (e0 ▸ hB) hr hsR) (fun r1 g4 ⟨q1, q2⟩ => ?_)
                  subst q1; subst q2
                  rw [e0]
                  refine ZW.if_eq (tgt := 96) dX8_besieged_89 (by decide) (by first | omega | exact zB_R _) (fun c89 => ?_) (fun c89 => ?_)
                  · have ez := zB_eq c89
                    refine ZW.iconst dX8_besieged_96 ?_
                    refine ZW.istore_n dX8_besieged_97 (by decide) rfl ?_
                    refine ZW.iinc dX8_besieged_98 rfl (by decide) rfl ?_
                    refine ZW.goto (tgt := 46) dX8_besieged_101 (by decide) ?_
                    exact fin false _ (by rw [eb]; simp [bsgN, c69, eo, ez])
                  · have ez := zB_ne c89
                    refine ZW.iconst dX8_besieged_92 ?_
                    refine ZW.goto (tgt := 97) dX8_besieged_93 (by decide) ?_
                    refine ZW.istore_n dX8_besieged_97 (by decide) rfl ?_
                    refine ZW.iinc dX8_besieged_98 rfl (by decide) rfl ?_
                    refine ZW.goto (tgt := 46) dX8_besieged_101 (by decide) ?_
                    exact fin true _ (by rw [eb]; simp [bsgN, ez])
      refine ZW.isub dX8_besieged_39 ?_
      rw [← hsd]
      refine ZW.istore_n dX8_besieged_40 (by decide) rfl ?_
      refine ZW.iconst dX8_besieged_41 ?_
      refine ZW.istore_n dX8_besieged_42 (by decide) rfl ?_
      refine ZW.iconst dX8_besieged_43 ?_
      refine ZW.istore dX8_besieged_44 (by decide) rfl ?_
      refine ZW.mono (loop 6 0 true _ (by omega) (by omega)) (fun r g' hh => ⟨?_, hh.2⟩)
      rw [hh.1]
      rfl
    · refine ZW.bipush dX8_besieged_26 rfl ?_
      refine ZW.ireti dX8_besieged_28 rfl ?_
      exact ⟨by unfold bsgV; rw [e, if_pos rfl, if_pos c23], s0⟩
  · have e := zB_eq c9
    refine ZW.iconst dX8_besieged_12 ?_
    refine ZW.ireti dX8_besieged_13 rfl ?_
    exact ⟨by unfold bsgV; rw [e]; rfl, s0⟩
def cntV (r : Int → Int) (hn tl w : Int) : Int :=
  if w = 0 then r 191 else if w = 1 then r 191 % 2 else if w = 2 then r 192 else if w = 3 ∨ w = 4 then unitsF r (w - 3) (-5) else if w = 5 ∨ w = 6 then unitsF r (w - 5) 1 else if w = 7 ∨ w = 8 then fortsF r (w - 7) else if w = 9 then riversF r else if w = 10 ∨ w = 11 then seenF r (w - 10) else if w = 12 then hn else if w = 13 then tl else if w = 14 ∨ w = 15 then r (189 + (w - 14)) else -2
set_option maxHeartbeats 1000000 in
theorem c_X8_count (g : ZH) (hI : rI g) {w : Int} (hw : zR w) : ZC 5 mX8_count [.inr 100, .inl w] g (fun r g' => r = cntV (g 101) (g 100 4) (g 100 8) w ∧ rSame g g') := by
  obtain ⟨hB, hU⟩ := rows hI
  have h191 := hB.1 191 (by decide) (by decide)
  refine ZC.of (by decide +kernel) (Nat.le_of_ble_eq_true rfl) ?_
  have s0 := rSame.t0 g
  refine ZW.aload_n dX8_count_0 rfl ?_
  refine ZW.iconst dX8_count_1 ?_
  refine ZW.puti (fz := 0) dX8_count_2 fp_X8_44 ⟨_, rfl, rfl⟩ rfl ?_
  refine ZW.iload_n dX8_count_5 rfl ?_
  obtain ⟨g0, hg0⟩ : ∃ z, z = zSet g 100 0 0 := ⟨_, rfl⟩
  rw [← hg0] at s0 ⊢
  have e0 : g0 101 = g 101 := s0.2.2
  have e4 : g0 100 4 = g 100 4 := s0.2.1.2
  have e8 : g0 100 8 = g 100 8 := s0.1.2.2.2.2
  have units : (w = 3 ∨ w = 4) → ZW 5 mX8_count 113 [some (.inr 100), some (.inl w)] [] g0 (fun r g' => r = cntV (g 101) (g 100 4) (g 100 8) w ∧ rSame g g') := by
    intro hw2
    refine ZW.aload_n dX8_count_113 rfl ?_
    refine ZW.iload_n dX8_count_114 rfl ?_
    refine ZW.iconst dX8_count_115 ?_
    refine ZW.isub dX8_count_116 ?_
    refine ZW.bipush dX8_count_117 rfl ?_
    refine ZW.callV (as := [_, _]) dX8_count_119 cv_X8_212 ⟨_, rfl⟩ rfl (by decide) (Nat.le_of_ble_eq_true rfl) rfl (c_X8_unitsOf _ (e0 ▸ hB) (by omega) (by decide)) (fun r1 g2 ⟨q1, q2⟩ => ?_)
    subst q1; subst q2
    rw [e0]
    refine ZW.ireti dX8_count_122 rfl ?_
    refine ⟨?_, s0⟩
    unfold cntV
    rw [if_neg (by omega), if_neg (by omega), if_neg (by omega), if_pos hw2]
  have strg : (w = 5 ∨ w = 6) → ZW 5 mX8_count 123 [some (.inr 100), some (.inl w)] [] g0 (fun r g' => r = cntV (g 101) (g 100 4) (g 100 8) w ∧ rSame g g') := by
    intro hw2
    refine ZW.aload_n dX8_count_123 rfl ?_
    refine ZW.iload_n dX8_count_124 rfl ?_
    refine ZW.iconst dX8_count_125 ?_
    refine ZW.isub dX8_count_126 ?_
    refine ZW.iconst dX8_count_127 ?_
    refine ZW.callV (as := [_, _]) dX8_count_128 cv_X8_212 ⟨_, rfl⟩ rfl (by decide) (Nat.le_of_ble_eq_true rfl) rfl (c_X8_unitsOf _ (e0 ▸ hB) (by omega) (by decide)) (fun r1 g2 ⟨q1, q2⟩ => ?_)
    subst q1; subst q2
    rw [e0]
    refine ZW.ireti dX8_count_131 rfl ?_
    refine ⟨?_, s0⟩
    unfold cntV
    rw [if_neg (by omega), if_neg (by omega), if_neg (by omega), if_neg (by omega), if_pos hw2]
  have frt : (w = 7 ∨ w = 8) → ZW 5 mX8_count 132 [some (.inr 100), some (.inl w)] [] g0 (fun r g' => r = cntV (g 101) (g 100 4) (g 100 8) w ∧ rSame g g') := by
    intro hw2
    refine ZW.aload_n dX8_count_132 rfl ?_
    refine ZW.iload_n dX8_count_133 rfl ?_
    refine ZW.bipush dX8_count_134 rfl ?_
    refine ZW.isub dX8_count_136 ?_
    refine ZW.callV (as := [_]) dX8_count_137 cv_X8_133 ⟨_, rfl⟩ rfl (by decide) (Nat.le_of_ble_eq_true rfl) rfl (c_X8_forts _ (e0 ▸ hB) (by omega)) (fun r1 g2 ⟨q1, q2⟩ => ?_)
    subst q1; subst q2
    rw [e0]
    refine ZW.ireti dX8_count_140 rfl ?_
    refine ⟨?_, s0⟩
    unfold cntV
    rw [if_neg (by omega), if_neg (by omega), if_neg (by omega), if_neg (by omega), if_neg (by omega), if_pos hw2]
  have sn : (w = 10 ∨ w = 11) → ZW 5 mX8_count 146 [some (.inr 100), some (.inl w)] [] g0 (fun r g' => r = cntV (g 101) (g 100 4) (g 100 8) w ∧ rSame g g') := by
    intro hw2
    refine ZW.aload_n dX8_count_146 rfl ?_
    refine ZW.iload_n dX8_count_147 rfl ?_
    refine ZW.bipush dX8_count_148 rfl ?_
    refine ZW.isub dX8_count_150 ?_
    refine ZW.callV (as := [_]) dX8_count_151 cv_X8_215 ⟨_, rfl⟩ rfl (by decide) (Nat.le_of_ble_eq_true rfl) rfl (c_X8_seen _ (e0 ▸ hB) (e0 ▸ hU) (by omega)) (fun r1 g2 ⟨q1, f2⟩ => ?_)
    subst q1
    rw [e0]
    refine ZW.ireti dX8_count_154 rfl ?_
    refine ⟨?_, s0.tr (rSame.fr f2 (by decide))⟩
    unfold cntV
    rw [if_neg (by omega), if_neg (by omega), if_neg (by omega), if_neg (by omega), if_neg (by omega), if_neg (by omega), if_neg (by omega), if_pos hw2]
  have bas : (w = 14 ∨ w = 15) → ZW 5 mX8_count 165 [some (.inr 100), some (.inl w)] [] g0 (fun r g' => r = cntV (g 101) (g 100 4) (g 100 8) w ∧ rSame g g') := by
    intro hw2
    refine ZW.aload_n dX8_count_165 rfl ?_
    refine ZW.getR dX8_count_166 fl_X8_7 ⟨_, rfl, rfl⟩ ?_
    refine ZW.sipush dX8_count_169 rfl ?_
    refine ZW.iload_n dX8_count_172 rfl ?_
    refine ZW.iadd dX8_count_173 ?_
    refine ZW.bipush dX8_count_174 rfl ?_
    refine ZW.isub dX8_count_176 ?_
    refine ZW.iald dX8_count_177 rfl (by decide) (by omega) rfl ?_
    refine ZW.ireti dX8_count_178 rfl ?_
    refine ⟨?_, s0⟩
    rw [e0]
    unfold cntV
    rw [if_neg (by omega), if_neg (by omega), if_neg (by omega), if_neg (by omega), if_neg (by omega), if_neg (by omega), if_neg (by omega), if_neg (by omega), if_neg (by omega), if_neg (by omega), if_pos hw2]
    congr 1
    omega
  by_cases hwo : w < 0 ∨ 15 < w
  · refine ZW.tableOut (tgt := 179) dX8_count_6 (by omega) (by omega) (by decide) ?_
    refine ZW.bipush dX8_count_179 rfl ?_
    refine ZW.ireti dX8_count_181 rfl ?_
    refine ⟨?_, s0⟩
    unfold cntV
    rw [if_neg (by omega), if_neg (by omega), if_neg (by omega), if_neg (by omega), if_neg (by omega), if_neg (by omega), if_neg (by omega), if_neg (by omega), if_neg (by omega), if_neg (by omega), if_neg (by omega)]
  · rcases (show w = 0 ∨ w = 1 ∨ w = 2 ∨ w = 3 ∨ w = 4 ∨ w = 5 ∨ w = 6 ∨ w = 7 ∨ w = 8 ∨ w = 9 ∨ w = 10 ∨ w = 11 ∨ w = 12 ∨ w = 13 ∨ w = 14 ∨ w = 15 by omega) with rfl | rfl | rfl | rfl | rfl | rfl | rfl | rfl | rfl | rfl | rfl | rfl | rfl | rfl | rfl | rfl
    · refine ZW.tableIn (off := 78) (tgt := 84) dX8_count_6 (by omega) (by omega) rfl (by decide) ?_
      refine ZW.aload_n dX8_count_84 rfl ?_
      refine ZW.getR dX8_count_85 fl_X8_7 ⟨_, rfl, rfl⟩ ?_
      refine ZW.sipush dX8_count_88 rfl ?_
      refine ZW.iald dX8_count_91 rfl (by decide) (by omega) rfl ?_
      refine ZW.ireti dX8_count_92 rfl ?_
      exact ⟨by rw [e0]; rfl, s0⟩
    · refine ZW.tableIn (off := 87) (tgt := 93) dX8_count_6 (by omega) (by omega) rfl (by decide) ?_
      refine ZW.aload_n dX8_count_93 rfl ?_
      refine ZW.getR dX8_count_94 fl_X8_7 ⟨_, rfl, rfl⟩ ?_
      refine ZW.sipush dX8_count_97 rfl ?_
      refine ZW.iald dX8_count_100 rfl (by decide) (by omega) rfl ?_
      rw [e0]
      refine ZW.iconst dX8_count_101 ?_
      refine ZW.irem dX8_count_102 (by omega) ?_
      refine ZW.ireti dX8_count_103 rfl ?_
      exact ⟨rfl, s0⟩
    · refine ZW.tableIn (off := 98) (tgt := 104) dX8_count_6 (by omega) (by omega) rfl (by decide) ?_
      refine ZW.aload_n dX8_count_104 rfl ?_
      refine ZW.getR dX8_count_105 fl_X8_7 ⟨_, rfl, rfl⟩ ?_
      refine ZW.sipush dX8_count_108 rfl ?_
      refine ZW.iald dX8_count_111 rfl (by decide) (by omega) rfl ?_
      refine ZW.ireti dX8_count_112 rfl ?_
      exact ⟨by rw [e0]; rfl, s0⟩
    · refine ZW.tableIn (off := 107) (tgt := 113) dX8_count_6 (by omega) (by omega) rfl (by decide) ?_
      exact units (Or.inl rfl)
    · refine ZW.tableIn (off := 107) (tgt := 113) dX8_count_6 (by omega) (by omega) rfl (by decide) ?_
      exact units (Or.inr rfl)
    · refine ZW.tableIn (off := 117) (tgt := 123) dX8_count_6 (by omega) (by omega) rfl (by decide) ?_
      exact strg (Or.inl rfl)
    · refine ZW.tableIn (off := 117) (tgt := 123) dX8_count_6 (by omega) (by omega) rfl (by decide) ?_
      exact strg (Or.inr rfl)
    · refine ZW.tableIn (off := 126) (tgt := 132) dX8_count_6 (by omega) (by omega) rfl (by decide) ?_
      exact frt (Or.inl rfl)
    · refine ZW.tableIn (off := 126) (tgt := 132) dX8_count_6 (by omega) (by omega) rfl (by decide) ?_
      exact frt (Or.inr rfl)
    · refine ZW.tableIn (off := 135) (tgt := 141) dX8_count_6 (by omega) (by omega) rfl (by decide) ?_
      refine ZW.aload_n dX8_count_141 rfl ?_
      refine ZW.callV (as := []) dX8_count_142 cv_X8_130 ⟨_, rfl⟩ rfl (by decide) (Nat.le_of_ble_eq_true rfl) rfl (c_X8_rivers _ (e0 ▸ hB)) (fun r1 g2 ⟨q1, q2⟩ => ?_)
      subst q1; subst q2
      refine ZW.ireti dX8_count_145 rfl ?_
      exact ⟨by rw [e0]; rfl, s0⟩
    · refine ZW.tableIn (off := 140) (tgt := 146) dX8_count_6 (by omega) (by omega) rfl (by decide) ?_
      exact sn (Or.inl rfl)
    · refine ZW.tableIn (off := 140) (tgt := 146) dX8_count_6 (by omega) (by omega) rfl (by decide) ?_
      exact sn (Or.inr rfl)
    · refine ZW.tableIn (off := 149) (tgt := 155) dX8_count_6 (by omega) (by omega) rfl (by decide) ?_
      refine ZW.aload_n dX8_count_155 rfl ?_
      refine ZW.getI (fz := 4) dX8_count_156 fl_X8_56 ⟨_, rfl, rfl⟩ rfl rfl ?_
      refine ZW.ireti dX8_count_159 rfl ?_
      exact ⟨by rw [e4]; rfl, s0⟩
    · refine ZW.tableIn (off := 154) (tgt := 160) dX8_count_6 (by omega) (by omega) rfl (by decide) ?_
      refine ZW.aload_n dX8_count_160 rfl ?_
      refine ZW.getI (fz := 8) dX8_count_161 fl_X8_166 ⟨_, rfl, rfl⟩ rfl rfl ?_
      refine ZW.ireti dX8_count_164 rfl ?_
      exact ⟨by rw [e8]; rfl, s0⟩
    · refine ZW.tableIn (off := 159) (tgt := 165) dX8_count_6 (by omega) (by omega) rfl (by decide) ?_
      exact bas (Or.inl rfl)
    · refine ZW.tableIn (off := 159) (tgt := 165) dX8_count_6 (by omega) (by omega) rfl (by decide) ?_
      exact bas (Or.inr rfl)
