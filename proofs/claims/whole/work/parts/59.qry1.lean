-- the class: what is told
def SC : List Nat := [95, 97, 98, 99]
set_option maxHeartbeats 1000000 in
theorem c_X7_hex (g : ZH) {r : Int → Int} (hA : okA r) (hS : StN g r) (hb : BdN g) {x w : Int} (hx : zR x) (hw : zR w) : ZC 4 mX7_hex [.inr 0, .inl x, .inl w] g (fun v g' => v = hexV r x w ∧ zFr SC g g') := by
  refine ZC.of (by decide +kernel) (Nat.le_of_ble_eq_true rfl) ?_
  refine ZW.iload_n dX7_hex_0 rfl ?_
  refine ZW.callS (as := [_]) dX7_hex_1 cs_X7_68 rfl (by decide) (Nat.le_of_ble_eq_true rfl) rfl (c_X0_isHex _ hx) (fun v1 g1 ⟨q1, q2⟩ => ?_)
  subst q1; subst q2
  refine ZW.if_ne (tgt := 9) dX7_hex_4 (by decide) (by first | omega | exact zB_R _) (fun c4 => ?_) (fun c4 => ?_)
  · have e := zB_ne c4
    have hxr := isHexB_t e
    have hst := st_x hS hxr
    rcases (show w = 0 ∨ w = 1 ∨ w = 2 ∨ w = 3 ∨ w = 4 ∨ w = 5 ∨ w = 6 ∨ w = 7 ∨ w = 8 ∨ (w < 0 ∨ 8 < w) by omega) with q | q | q | q | q | q | q | q | q | q
    · subst q
      refine ZW.iload_n dX7_hex_9 rfl ?_
      refine ZW.tableIn (off := 50) (tgt := 60) dX7_hex_10 (by omega) (by omega) rfl (by decide) ?_
      refine ZW.aload_n dX7_hex_60 rfl ?_
      refine ZW.getR dX7_hex_61 fl_X7_21 ⟨_, rfl, rfl⟩ ?_
      refine ZW.getR dX7_hex_64 fl_X7_72 ⟨_, rfl, rfl⟩ ?_
      refine ZW.iload_n dX7_hex_67 rfl ?_
      refine ZW.iald dX7_hex_68 rfl (by decide) (by omega) rfl ?_
      rw [hst.1]
      refine ZW.ireti dX7_hex_69 rfl ?_
      exact ⟨by unfold hexV; rw [e]; rfl, zFr.rf _ _⟩
    · subst q
      refine ZW.iload_n dX7_hex_9 rfl ?_
      refine ZW.tableIn (off := 60) (tgt := 70) dX7_hex_10 (by omega) (by omega) rfl (by decide) ?_
      refine ZW.aload_n dX7_hex_70 rfl ?_
      refine ZW.getR dX7_hex_71 fl_X7_21 ⟨_, rfl, rfl⟩ ?_
      refine ZW.getR dX7_hex_74 fl_X7_90 ⟨_, rfl, rfl⟩ ?_
      refine ZW.iload_n dX7_hex_77 rfl ?_
      refine ZW.iald dX7_hex_78 rfl (by decide) (by omega) rfl ?_
      rw [hst.2.1]
      refine ZW.ireti dX7_hex_79 rfl ?_
      exact ⟨by unfold hexV; rw [e]; rfl, zFr.rf _ _⟩
    · subst q
      refine ZW.iload_n dX7_hex_9 rfl ?_
      refine ZW.tableIn (off := 70) (tgt := 80) dX7_hex_10 (by omega) (by omega) rfl (by decide) ?_
      refine ZW.aload_n dX7_hex_80 rfl ?_
      refine ZW.getR dX7_hex_81 fl_X7_21 ⟨_, rfl, rfl⟩ ?_
      refine ZW.iload_n dX7_hex_84 rfl ?_
      refine ZW.callV (as := [_]) dX7_hex_85 cv_X7_104 ⟨_, rfl⟩ rfl (by decide) (Nat.le_of_ble_eq_true rfl) rfl (c_X4_hasFort _ hA hS hxr) (fun v1 g1 ⟨q1, q2⟩ => ?_)
      subst q1; subst q2
      have hV : hexV r x 2 = if r (126 + x) = 0 then -5 else r (126 + x) - 1 := by unfold hexV; rw [e]; rfl
      refine ZW.if_eq (tgt := 103) dX7_hex_88 (by decide) (by first | omega | exact zB_R _) (fun c88 => ?_) (fun c88 => ?_)
      · have e2 := of_decide_eq_false (zB_eq c88)
        refine ZW.bipush dX7_hex_103 rfl ?_
        refine ZW.ireti dX7_hex_105 rfl ?_
        exact ⟨by rw [hV, if_pos (Classical.byContradiction e2)], zFr.rf _ _⟩
      · have e2 := of_decide_eq_true (zB_ne c88)
        refine ZW.aload_n dX7_hex_91 rfl ?_
        refine ZW.getR dX7_hex_92 fl_X7_21 ⟨_, rfl, rfl⟩ ?_
        refine ZW.getR dX7_hex_95 fl_X7_107 ⟨_, rfl, rfl⟩ ?_
        refine ZW.iload_n dX7_hex_98 rfl ?_
        refine ZW.iald dX7_hex_99 rfl (by decide) (by omega) rfl ?_
        rw [hst.2.2.1]
        refine ZW.goto (tgt := 105) dX7_hex_100 (by decide) ?_
        refine ZW.ireti dX7_hex_105 rfl ?_
        exact ⟨by rw [hV, if_neg e2], zFr.rf _ _⟩
    · subst q
      have hsd := sdF_R hA x
      have hno := sdF_no hA x
      have hV : hexV r x 3 = unitOnF r x := by unfold hexV; rw [e]; rfl
      refine ZW.iload_n dX7_hex_9 rfl ?_
      refine ZW.tableIn (off := 96) (tgt := 106) dX7_hex_10 (by omega) (by omega) rfl (by decide) ?_
      refine ZW.aload_n dX7_hex_106 rfl ?_
      refine ZW.getR dX7_hex_107 fl_X7_21 ⟨_, rfl, rfl⟩ ?_
      refine ZW.iload_n dX7_hex_110 rfl ?_
      refine ZW.callV (as := [_]) dX7_hex_111 cv_X7_124 ⟨_, rfl⟩ rfl (by decide) (Nat.le_of_ble_eq_true rfl) rfl (c_X4_sideOn _ hA hS hxr) (fun v1 g1 ⟨q1, q2⟩ => ?_)
      subst q1; subst q2
      refine ZW.iconst dX7_hex_114 ?_
      refine ZW.icmp_eq (tgt := 130) dX7_hex_115 (by decide) (by first | omega | exact zB_R _) (by first | omega | exact zB_R _) (fun c115 => ?_) (fun c115 => ?_)
      · refine ZW.bipush dX7_hex_130 rfl ?_
        refine ZW.ireti dX7_hex_132 rfl ?_
        exact ⟨by rw [hV, hno.mp c115], zFr.rf _ _⟩
      · refine ZW.aload_n dX7_hex_118 rfl ?_
        refine ZW.getR dX7_hex_119 fl_X7_21 ⟨_, rfl, rfl⟩ ?_
        refine ZW.getR dX7_hex_122 fl_X7_196 ⟨_, rfl, rfl⟩ ?_
        refine ZW.iload_n dX7_hex_125 rfl ?_
        refine ZW.iald dX7_hex_126 rfl (by decide) (by omega) rfl ?_
        rw [hst.2.2.2]
        refine ZW.goto (tgt := 132) dX7_hex_127 (by decide) ?_
        refine ZW.ireti dX7_hex_132 rfl ?_
        exact ⟨by rw [hV]; unfold uoN; rw [if_neg (fun z => c115 (hno.mpr z))], zFr.rf _ _⟩
    · subst q
      refine ZW.iload_n dX7_hex_9 rfl ?_
      refine ZW.tableIn (off := 123) (tgt := 133) dX7_hex_10 (by omega) (by omega) rfl (by decide) ?_
      refine ZW.aload_n dX7_hex_133 rfl ?_
      refine ZW.getR dX7_hex_134 fl_X7_21 ⟨_, rfl, rfl⟩ ?_
      refine ZW.iload_n dX7_hex_137 rfl ?_
      refine ZW.iconst dX7_hex_138 ?_
      refine ZW.isub dX7_hex_139 ?_
      refine ZW.iload_n dX7_hex_140 rfl ?_
      refine ZW.callV (as := [_, _]) dX7_hex_141 cv_X7_255 ⟨_, rfl⟩ rfl (by decide) (Nat.le_of_ble_eq_true rfl) rfl (c_X4_inZone _ hA hS hb (by decide) hxr) (fun v1 g1 ⟨q1, q2⟩ => ?_)
      subst q1; subst q2
      refine ZW.callS (as := [_]) dX7_hex_144 cs_X7_258 rfl (by decide) (Nat.le_of_ble_eq_true rfl) rfl (c_X7_oneIf _) (fun v1 g1 ⟨q1, q2⟩ => ?_)
      subst q1; subst q2
      refine ZW.ireti dX7_hex_147 rfl ?_
      exact ⟨by unfold hexV; rw [e]; rfl, zFr.rf _ _⟩
    · subst q
      refine ZW.iload_n dX7_hex_9 rfl ?_
      refine ZW.tableIn (off := 123) (tgt := 133) dX7_hex_10 (by omega) (by omega) rfl (by decide) ?_
      refine ZW.aload_n dX7_hex_133 rfl ?_
      refine ZW.getR dX7_hex_134 fl_X7_21 ⟨_, rfl, rfl⟩ ?_
      refine ZW.iload_n dX7_hex_137 rfl ?_
      refine ZW.iconst dX7_hex_138 ?_
      refine ZW.isub dX7_hex_139 ?_
      refine ZW.iload_n dX7_hex_140 rfl ?_
      refine ZW.callV (as := [_, _]) dX7_hex_141 cv_X7_255 ⟨_, rfl⟩ rfl (by decide) (Nat.le_of_ble_eq_true rfl) rfl (c_X4_inZone _ hA hS hb (by decide) hxr) (fun v1 g1 ⟨q1, q2⟩ => ?_)
      subst q1; subst q2
      refine ZW.callS (as := [_]) dX7_hex_144 cs_X7_258 rfl (by decide) (Nat.le_of_ble_eq_true rfl) rfl (c_X7_oneIf _) (fun v1 g1 ⟨q1, q2⟩ => ?_)
      subst q1; subst q2
      refine ZW.ireti dX7_hex_147 rfl ?_
      exact ⟨by unfold hexV; rw [e]; rfl, zFr.rf _ _⟩
    · subst q
      refine ZW.iload_n dX7_hex_9 rfl ?_
      refine ZW.tableIn (off := 138) (tgt := 148) dX7_hex_10 (by omega) (by omega) rfl (by decide) ?_
      refine ZW.aload_n dX7_hex_148 rfl ?_
      refine ZW.getR dX7_hex_149 fl_X7_21 ⟨_, rfl, rfl⟩ ?_
      refine ZW.iload_n dX7_hex_152 rfl ?_
      refine ZW.bipush dX7_hex_153 rfl ?_
      refine ZW.isub dX7_hex_155 ?_
      refine ZW.iload_n dX7_hex_156 rfl ?_
      refine ZW.callV (as := [_, _]) dX7_hex_157 cv_X7_262 ⟨_, rfl⟩ rfl (by decide) (Nat.le_of_ble_eq_true rfl) rfl (c_X4_isSeen _ hA hS hb (by decide) hxr) (fun v1 g1 ⟨q1, q2⟩ => ?_)
      subst q1; subst q2
      refine ZW.callS (as := [_]) dX7_hex_160 cs_X7_258 rfl (by decide) (Nat.le_of_ble_eq_true rfl) rfl (c_X7_oneIf _) (fun v1 g1 ⟨q1, q2⟩ => ?_)
      subst q1; subst q2
      refine ZW.ireti dX7_hex_163 rfl ?_
      exact ⟨by unfold hexV; rw [e]; rfl, zFr.rf _ _⟩
    · subst q
      refine ZW.iload_n dX7_hex_9 rfl ?_
      refine ZW.tableIn (off := 138) (tgt := 148) dX7_hex_10 (by omega) (by omega) rfl (by decide) ?_
      refine ZW.aload_n dX7_hex_148 rfl ?_
      refine ZW.getR dX7_hex_149 fl_X7_21 ⟨_, rfl, rfl⟩ ?_
      refine ZW.iload_n dX7_hex_152 rfl ?_
      refine ZW.bipush dX7_hex_153 rfl ?_
      refine ZW.isub dX7_hex_155 ?_
      refine ZW.iload_n dX7_hex_156 rfl ?_
      refine ZW.callV (as := [_, _]) dX7_hex_157 cv_X7_262 ⟨_, rfl⟩ rfl (by decide) (Nat.le_of_ble_eq_true rfl) rfl (c_X4_isSeen _ hA hS hb (by decide) hxr) (fun v1 g1 ⟨q1, q2⟩ => ?_)
      subst q1; subst q2
      refine ZW.callS (as := [_]) dX7_hex_160 cs_X7_258 rfl (by decide) (Nat.le_of_ble_eq_true rfl) rfl (c_X7_oneIf _) (fun v1 g1 ⟨q1, q2⟩ => ?_)
      subst q1; subst q2
      refine ZW.ireti dX7_hex_163 rfl ?_
      exact ⟨by unfold hexV; rw [e]; rfl, zFr.rf _ _⟩
    · subst q
      refine ZW.iload_n dX7_hex_9 rfl ?_
      refine ZW.tableIn (off := 154) (tgt := 164) dX7_hex_10 (by omega) (by omega) rfl (by decide) ?_
      refine ZW.aload_n dX7_hex_164 rfl ?_
      refine ZW.getR dX7_hex_165 fl_X7_10 ⟨_, rfl, rfl⟩ ?_
      refine ZW.iload_n dX7_hex_168 rfl ?_
      refine ZW.callV (as := [_]) dX7_hex_169 cv_X7_265 ⟨_, rfl⟩ rfl (by decide) (Nat.le_of_ble_eq_true rfl) rfl (c_X0_neighbourCount _ hb hxr) (fun v1 g1 ⟨q1, q2⟩ => ?_)
      subst q1; subst q2
      refine ZW.ireti dX7_hex_172 rfl ?_
      exact ⟨by unfold hexV; rw [e]; rfl, zFr.rf _ _⟩
    · refine ZW.iload_n dX7_hex_9 rfl ?_
      refine ZW.tableOut (tgt := 173) dX7_hex_10 (by omega) (by omega) (by decide) ?_
      refine ZW.bipush dX7_hex_173 rfl ?_
      refine ZW.ireti dX7_hex_175 rfl ?_
      refine ⟨?_, zFr.rf _ _⟩
      unfold hexV
      rw [e, if_pos rfl, if_neg (by omega), if_neg (by omega), if_neg (by omega), if_neg (by omega), if_neg (by omega), if_neg (by omega), if_neg (by omega)]
  · have e := zB_eq c4
    refine ZW.iconst dX7_hex_7 ?_
    refine ZW.ireti dX7_hex_8 rfl ?_
    exact ⟨by unfold hexV; rw [e]; rfl, zFr.rf _ _⟩
theorem c_X7_beside (g : ZH) (hb : BdN g) {x d : Int} (hx : zR x) (hd : zR d) : ZC 1 mX7_beside [.inr 0, .inl x, .inl d] g (fun v g' => v = bsdV x d ∧ zFr SC g g') := by
  refine ZC.of (by decide +kernel) (Nat.le_of_ble_eq_true rfl) ?_
  refine ZW.iload_n dX7_beside_0 rfl ?_
  refine ZW.callS (as := [_]) dX7_beside_1 cs_X7_68 rfl (by decide) (Nat.le_of_ble_eq_true rfl) rfl (c_X0_isHex _ hx) (fun v1 g1 ⟨q1, q2⟩ => ?_)
  subst q1; subst q2
  refine ZW.if_ne (tgt := 9) dX7_beside_4 (by decide) (by first | omega | exact zB_R _) (fun c4 => ?_) (fun c4 => ?_)
  · have e := zB_ne c4
    have hxr := isHexB_t e
    refine ZW.iload_n dX7_beside_9 rfl ?_
    refine ZW.callS (as := [_]) dX7_beside_10 cs_X7_80 rfl (by decide) (Nat.le_of_ble_eq_true rfl) rfl (c_X0_isDirection _ hd) (fun v1 g1 ⟨q1, q2⟩ => ?_)
    subst q1; subst q2
    refine ZW.if_ne (tgt := 19) dX7_beside_13 (by decide) (by first | omega | exact zB_R _) (fun c13 => ?_) (fun c13 => ?_)
    · have e2 := zB_ne c13
      have hdr := of_decide_eq_true e2
      have hnb := nbF_R x d
      have hV : bsdV x d = nextF x d := by unfold bsdV; rw [e, e2]; rfl
      refine ZW.aload_n dX7_beside_19 rfl ?_
      refine ZW.getR dX7_beside_20 fl_X7_10 ⟨_, rfl, rfl⟩ ?_
      refine ZW.getR dX7_beside_23 fl_X7_83 ⟨_, rfl, rfl⟩ ?_
      refine ZW.iload_n dX7_beside_26 rfl ?_
      refine ZW.bipush dX7_beside_27 rfl ?_
      refine ZW.imul dX7_beside_29 ?_
      refine ZW.iload_n dX7_beside_30 rfl ?_
      refine ZW.iadd dX7_beside_31 ?_
      refine ZW.iald dX7_beside_32 rfl (by decide) (by omega) rfl ?_
      rw [hb x d hxr.1 hxr.2 hdr.1 (by omega)]
      refine ZW.istore_n dX7_beside_33 (by decide) rfl ?_
      refine ZW.iload_n dX7_beside_34 rfl ?_
      refine ZW.callS (as := [_]) dX7_beside_35 cs_X7_68 rfl (by decide) (Nat.le_of_ble_eq_true rfl) rfl (c_X0_isHex _ (by omega)) (fun v1 g1 ⟨q1, q2⟩ => ?_)
      subst q1; subst q2
      rw [nbF_hex]
      refine ZW.if_eq (tgt := 45) dX7_beside_38 (by decide) (by first | omega | exact zB_R _) (fun c38 => ?_) (fun c38 => ?_)
      · have e3 := of_decide_eq_false (zB_eq c38)
        refine ZW.bipush dX7_beside_45 rfl ?_
        refine ZW.ireti dX7_beside_47 rfl ?_
        exact ⟨by rw [hV, Classical.byContradiction e3], zFr.rf _ _⟩
      · have e3 := of_decide_eq_true (zB_ne c38)
        refine ZW.iload_n dX7_beside_41 rfl ?_
        refine ZW.goto (tgt := 47) dX7_beside_42 (by decide) ?_
        refine ZW.ireti dX7_beside_47 rfl ?_
        exact ⟨by rw [hV]; unfold nbF; rw [if_neg e3], zFr.rf _ _⟩
    · have e2 := zB_eq c13
      refine ZW.bipush dX7_beside_16 rfl ?_
      refine ZW.ireti dX7_beside_18 rfl ?_
      exact ⟨by unfold bsdV; rw [e, e2]; rfl, zFr.rf _ _⟩
  · have e := zB_eq c4
    refine ZW.iconst dX7_beside_7 ?_
    refine ZW.ireti dX7_beside_8 rfl ?_
    exact ⟨by unfold bsdV; rw [e]; rfl, zFr.rf _ _⟩
theorem c_X7_distance (g : ZH) {a b : Int} (ha : zR a) (hb : zR b) : ZC 2 mX7_distance [.inr 0, .inl a, .inl b] g (fun v g' => v = dstV a b ∧ zFr SC g g') := by
  refine ZC.of (by decide +kernel) (Nat.le_of_ble_eq_true rfl) ?_
  refine ZW.iload_n dX7_distance_0 rfl ?_
  refine ZW.callS (as := [_]) dX7_distance_1 cs_X7_68 rfl (by decide) (Nat.le_of_ble_eq_true rfl) rfl (c_X0_isHex _ ha) (fun v1 g1 ⟨q1, q2⟩ => ?_)
  subst q1; subst q2
  refine ZW.if_eq (tgt := 14) dX7_distance_4 (by decide) (by first | omega | exact zB_R _) (fun c4 => ?_) (fun c4 => ?_)
  · have e := zB_eq c4
    refine ZW.iconst dX7_distance_14 ?_
    refine ZW.ireti dX7_distance_15 rfl ?_
    exact ⟨by unfold dstV; rw [e]; rfl, zFr.rf _ _⟩
  · have e := zB_ne c4
    refine ZW.iload_n dX7_distance_7 rfl ?_
    refine ZW.callS (as := [_]) dX7_distance_8 cs_X7_68 rfl (by decide) (Nat.le_of_ble_eq_true rfl) rfl (c_X0_isHex _ hb) (fun v1 g1 ⟨q1, q2⟩ => ?_)
    subst q1; subst q2
    refine ZW.if_ne (tgt := 16) dX7_distance_11 (by decide) (by first | omega | exact zB_R _) (fun c11 => ?_) (fun c11 => ?_)
    · have e2 := zB_ne c11
      refine ZW.iload_n dX7_distance_16 rfl ?_
      refine ZW.iload_n dX7_distance_17 rfl ?_
      refine ZW.callS (as := [_, _]) dX7_distance_18 cs_X7_268 rfl (by decide) (Nat.le_of_ble_eq_true rfl) rfl (c_X0_stepsBetween _ (isHexB_t e) (isHexB_t e2)) (fun v1 g1 ⟨q1, q2⟩ => ?_)
      subst q1; subst q2
      refine ZW.ireti dX7_distance_21 rfl ?_
      exact ⟨by unfold dstV; rw [e, e2]; rfl, zFr.rf _ _⟩
    · have e2 := zB_eq c11
      refine ZW.iconst dX7_distance_14 ?_
      refine ZW.ireti dX7_distance_15 rfl ?_
      exact ⟨by unfold dstV; rw [e, e2]; rfl, zFr.rf _ _⟩
theorem c_X7_cost (g : ZH) {r : Int → Int} (hA : okA r) (hS : StN g r) (hb : BdN g) {u x : Int} (hu : zR u) (hx : zR x) : ZC 4 mX7_cost [.inr 0, .inl u, .inl x] g (fun v g' => v = cstV r u x ∧ zFr SC g g') := by
  have h16 := hA.1.1.2
  refine ZC.of (by decide +kernel) (Nat.le_of_ble_eq_true rfl) ?_
  refine ZW.aload_n dX7_cost_0 rfl ?_
  refine ZW.getR dX7_cost_1 fl_X7_21 ⟨_, rfl, rfl⟩ ?_
  refine ZW.iload_n dX7_cost_4 rfl ?_
  refine ZW.callV (as := [_]) dX7_cost_5 cv_X7_162 ⟨_, rfl⟩ rfl (by decide) (Nat.le_of_ble_eq_true rfl) rfl (c_X4_isUnit _ hA hS hu) (fun v1 g1 ⟨q1, q2⟩ => ?_)
  subst q1; subst q2
  refine ZW.if_eq (tgt := 18) dX7_cost_8 (by decide) (by first | omega | exact zB_R _) (fun c8 => ?_) (fun c8 => ?_)
  · have e := zB_eq c8
    refine ZW.iconst dX7_cost_18 ?_
    refine ZW.ireti dX7_cost_19 rfl ?_
    exact ⟨by unfold cstV; rw [e]; rfl, zFr.rf _ _⟩
  · have e := zB_ne c8
    obtain ⟨u0, u1, u2, u3⟩ := isUnitB_t hA.1.1 e
    have hU := hA.1.2.1 u u0 u2
    have hst := st_u hS u0 u1
    refine ZW.iload_n dX7_cost_11 rfl ?_
    refine ZW.callS (as := [_]) dX7_cost_12 cs_X7_68 rfl (by decide) (Nat.le_of_ble_eq_true rfl) rfl (c_X0_isHex _ hx) (fun v1 g1 ⟨q1, q2⟩ => ?_)
    subst q1; subst q2
    refine ZW.if_ne (tgt := 20) dX7_cost_15 (by decide) (by first | omega | exact zB_R _) (fun c15 => ?_) (fun c15 => ?_)
    · have e2 := zB_ne c15
      have hxr := isHexB_t e2
      refine ZW.aload_n dX7_cost_20 rfl ?_
      refine ZW.getR dX7_cost_21 fl_X7_21 ⟨_, rfl, rfl⟩ ?_
      refine ZW.getR dX7_cost_24 fl_X7_171 ⟨_, rfl, rfl⟩ ?_
      refine ZW.iload_n dX7_cost_27 rfl ?_
      refine ZW.iald dX7_cost_28 rfl (by decide) (by omega) rfl ?_
      rw [hst.2.2.1]
      refine ZW.iload_n dX7_cost_29 rfl ?_
      refine ZW.icmp_ne (tgt := 35) dX7_cost_30 (by decide) (by first | omega | exact zB_R _) (by first | omega | exact zB_R _) (fun c30 => ?_) (fun c30 => ?_)
      · refine ZW.aload_n dX7_cost_35 rfl ?_
        refine ZW.getR dX7_cost_36 fl_X7_48 ⟨_, rfl, rfl⟩ ?_
        refine ZW.aload_n dX7_cost_39 rfl ?_
        refine ZW.getR dX7_cost_40 fl_X7_21 ⟨_, rfl, rfl⟩ ?_
        refine ZW.iload_n dX7_cost_43 rfl ?_
        refine ZW.callVv (as := [_, _]) dX7_cost_44 cv_X7_172 ⟨_, rfl⟩ rfl (by decide) (Nat.le_of_ble_eq_true rfl) rfl (fun _ _ hz _ => hz) (c_X6_measure _ hA hS hb ⟨u0, u1⟩ u3) (fun g2 ⟨f2, w2⟩ => ?_)
        have S2 := hS.fr f2 (by decide)
        refine ZW.aload_n dX7_cost_47 rfl ?_
        refine ZW.getR dX7_cost_48 fl_X7_48 ⟨_, rfl, rfl⟩ ?_
        refine ZW.aload_n dX7_cost_51 rfl ?_
        refine ZW.getR dX7_cost_52 fl_X7_21 ⟨_, rfl, rfl⟩ ?_
        refine ZW.iload_n dX7_cost_55 rfl ?_
        refine ZW.callV (as := [_, _]) dX7_cost_56 cv_X7_176 ⟨_, rfl⟩ rfl (by decide) (Nat.le_of_ble_eq_true rfl) rfl (c_X6_canEndOn _ hA S2 ⟨u0, u2⟩ hxr (w2 x hxr.1 hxr.2)) (fun v1 g3 ⟨q1, q2⟩ => ?_)
        subst q1; subst q2
        refine ZW.if_eq (tgt := 74) dX7_cost_59 (by decide) (by first | omega | exact zB_R _) (fun c59 => ?_) (fun c59 => ?_)
        · have e3 := zB_eq c59
          refine ZW.bipush dX7_cost_74 rfl ?_
          refine ZW.ireti dX7_cost_76 rfl ?_
          exact ⟨by unfold cstV; rw [e, e2]; simp only [Bool.and_self, if_true]; rw [if_neg c30, e3]; rfl, f2.up (by decide)⟩
        · have e3 := zB_ne c59
          have e4 := of_decide_eq_true e3
          have hw : wyC r u x = wayF r u x := by unfold wyC; rw [if_pos e4.1]
          refine ZW.aload_n dX7_cost_62 rfl ?_
          refine ZW.getR dX7_cost_63 fl_X7_48 ⟨_, rfl, rfl⟩ ?_
          refine ZW.getR dX7_cost_66 fl_X7_183 ⟨_, rfl, rfl⟩ ?_
          refine ZW.iload_n dX7_cost_69 rfl ?_
          refine ZW.iald dX7_cost_70 rfl (by decide) (by omega) rfl ?_
          rw [w2 x hxr.1 hxr.2, hw]
          refine ZW.goto (tgt := 76) dX7_cost_71 (by decide) ?_
          refine ZW.ireti dX7_cost_76 rfl ?_
          exact ⟨by unfold cstV; rw [e, e2]; simp only [Bool.and_self, if_true]; rw [if_neg c30, e3]; rfl, f2.up (by decide)⟩
      · refine ZW.iconst dX7_cost_33 ?_
        refine ZW.ireti dX7_cost_34 rfl ?_
        exact ⟨by unfold cstV; rw [e, e2]; simp only [Bool.and_self, if_true]; rw [if_pos c30], zFr.rf _ _⟩
    · have e2 := zB_eq c15
      refine ZW.iconst dX7_cost_18 ?_
      refine ZW.ireti dX7_cost_19 rfl ?_
      exact ⟨by unfold cstV; rw [e, e2]; rfl, zFr.rf _ _⟩
set_option maxHeartbeats 1000000 in
theorem c_X7_would (g : ZH) {r : Int → Int} (hA : okA r) (hS : StN g r) (hb : BdN g) {u x w : Int} (hu : zR u) (hx : zR x) (hw : zR w) : ZC 5 mX7_would [.inr 0, .inl u, .inl x, .inl w] g (fun v g' => v = wldV r u x w ∧ zFr SC g g') := by
  have h16 := hA.1.1.2
  refine ZC.of (by decide +kernel) (Nat.le_of_ble_eq_true rfl) ?_
  refine ZW.aload_n dX7_would_0 rfl ?_
  refine ZW.getR dX7_would_1 fl_X7_21 ⟨_, rfl, rfl⟩ ?_
  refine ZW.iload_n dX7_would_4 rfl ?_
  refine ZW.callV (as := [_]) dX7_would_5 cv_X7_162 ⟨_, rfl⟩ rfl (by decide) (Nat.le_of_ble_eq_true rfl) rfl (c_X4_isUnit _ hA hS hu) (fun v1 g1 ⟨q1, q2⟩ => ?_)
  subst q1; subst q2
  refine ZW.if_eq (tgt := 18) dX7_would_8 (by decide) (by first | omega | exact zB_R _) (fun c8 => ?_) (fun c8 => ?_)
  · have e := zB_eq c8
    refine ZW.iconst dX7_would_18 ?_
    refine ZW.ireti dX7_would_19 rfl ?_
    exact ⟨by unfold wldV; rw [e]; rfl, zFr.rf _ _⟩
  · have e := zB_ne c8
    obtain ⟨u0, u1, u2, u3⟩ := isUnitB_t hA.1.1 e
    refine ZW.iload_n dX7_would_11 rfl ?_
    refine ZW.callS (as := [_]) dX7_would_12 cs_X7_68 rfl (by decide) (Nat.le_of_ble_eq_true rfl) rfl (c_X0_isHex _ hx) (fun v1 g1 ⟨q1, q2⟩ => ?_)
    subst q1; subst q2
    refine ZW.if_ne (tgt := 20) dX7_would_15 (by decide) (by first | omega | exact zB_R _) (fun c15 => ?_) (fun c15 => ?_)
    · have e2 := zB_ne c15
      have hxr := isHexB_t e2
      have bad : ¬ (0 ≤ w ∧ w ≤ 3) → ZW 5 mX7_would 29 [some (.inr 0), some (.inl u), some (.inl x), some (.inl w)] [] g1 (fun v g' => v = wldV r u x w ∧ zFr SC g1 g') := by
        intro hno
        refine ZW.bipush dX7_would_29 rfl ?_
        refine ZW.ireti dX7_would_31 rfl ?_
        exact ⟨by unfold wldV inB; rw [e, e2, decide_eq_false hno]; rfl, zFr.rf _ _⟩
      refine ZW.iload_n dX7_would_20 rfl ?_
      refine ZW.if_lt (tgt := 29) dX7_would_21 (by decide) (by first | omega | exact zB_R _) (fun c21 => ?_) (fun c21 => ?_)
      · exact bad (by omega)
      · refine ZW.iload_n dX7_would_24 rfl ?_
        refine ZW.iconst dX7_would_25 ?_
        refine ZW.icmp_le (tgt := 32) dX7_would_26 (by decide) (by first | omega | exact zB_R _) (by first | omega | exact zB_R _) (fun c26 => ?_) (fun c26 => ?_)
        · have e3 : inB w 0 3 = true := decide_eq_true ⟨by omega, by omega⟩
          refine ZW.aload_n dX7_would_32 rfl ?_
          refine ZW.iload_n dX7_would_33 rfl ?_
          refine ZW.iload_n dX7_would_34 rfl ?_
          refine ZW.callV (as := [_, _]) dX7_would_35 cv_X7_193 ⟨_, rfl⟩ rfl (by decide) (Nat.le_of_ble_eq_true rfl) rfl (c_X7_canFight _ hA hS hb ⟨u0, u1⟩ hxr) (fun v1 g1 ⟨q1, q2⟩ => ?_)
          subst q1; subst q2
          refine ZW.if_ne (tgt := 44) dX7_would_38 (by decide) (by first | omega | exact zB_R _) (fun c38 => ?_) (fun c38 => ?_)
          · have hcf := zB_ne c38
            obtain ⟨t1, t2, t3, t4, t5, t6, t7, t8, t9⟩ := canF_t hA.1.1 hcf
            have hun : uoN r x = unitOnF r x := by unfold uoN; rw [if_neg t1]
            have hV : wldV r u x w = wldR r u x w := by unfold wldV; rw [e, e2, e3, hcf]; rfl
            refine ZW.aload_n dX7_would_44 rfl ?_
            refine ZW.getR dX7_would_45 fl_X7_64 ⟨_, rfl, rfl⟩ ?_
            refine ZW.aload_n dX7_would_48 rfl ?_
            refine ZW.getR dX7_would_49 fl_X7_21 ⟨_, rfl, rfl⟩ ?_
            refine ZW.iload_n dX7_would_52 rfl ?_
            refine ZW.aload_n dX7_would_53 rfl ?_
            refine ZW.getR dX7_would_54 fl_X7_21 ⟨_, rfl, rfl⟩ ?_
            refine ZW.getR dX7_would_57 fl_X7_196 ⟨_, rfl, rfl⟩ ?_
            refine ZW.iload_n dX7_would_60 rfl ?_
            refine ZW.iald dX7_would_61 rfl (by decide) (by omega) rfl ?_
            rw [(st_x hS hxr).2.2.2, hun]
            refine ZW.callVv (as := [_, _, _]) dX7_would_62 cv_X7_199 ⟨_, rfl⟩ rfl (by decide) (Nat.le_of_ble_eq_true rfl) rfl (fun _ _ hz _ => hz) (c_X1_weigh _ hA hS hb ⟨u0, u1⟩ u3 ⟨t2, t3⟩ t8 hxr t9 t7) (fun g2 ⟨f2, p2, p3, p4, p5⟩ => ?_)
            rw [hV]
            rcases (show w = 0 ∨ w = 1 ∨ w = 2 ∨ w = 3 by omega) with q | q | q | q
            · subst q
              refine ZW.iload_n dX7_would_65 rfl ?_
              refine ZW.tableIn (off := 26) (tgt := 92) dX7_would_66 (by omega) (by omega) rfl (by decide) ?_
              refine ZW.aload_n dX7_would_92 rfl ?_
              refine ZW.getR dX7_would_93 fl_X7_64 ⟨_, rfl, rfl⟩ ?_
              refine ZW.getI (fz := 2) dX7_would_96 fl_X7_278 ⟨_, rfl, rfl⟩ rfl rfl ?_
              rw [p2]
              refine ZW.ireti dX7_would_99 rfl ?_
              exact ⟨rfl, f2.up (by decide)⟩
            · subst q
              refine ZW.iload_n dX7_would_65 rfl ?_
              refine ZW.tableIn (off := 34) (tgt := 100) dX7_would_66 (by omega) (by omega) rfl (by decide) ?_
              refine ZW.aload_n dX7_would_100 rfl ?_
              refine ZW.getR dX7_would_101 fl_X7_64 ⟨_, rfl, rfl⟩ ?_
              refine ZW.getI (fz := 3) dX7_would_104 fl_X7_281 ⟨_, rfl, rfl⟩ rfl rfl ?_
              rw [p3]
              refine ZW.ireti dX7_would_107 rfl ?_
              exact ⟨rfl, f2.up (by decide)⟩
            · subst q
              refine ZW.iload_n dX7_would_65 rfl ?_
              refine ZW.tableIn (off := 42) (tgt := 108) dX7_would_66 (by omega) (by omega) rfl (by decide) ?_
              refine ZW.aload_n dX7_would_108 rfl ?_
              refine ZW.getR dX7_would_109 fl_X7_64 ⟨_, rfl, rfl⟩ ?_
              refine ZW.getI (fz := 4) dX7_would_112 fl_X7_203 ⟨_, rfl, rfl⟩ rfl rfl ?_
              rw [p4]
              refine ZW.ireti dX7_would_115 rfl ?_
              exact ⟨rfl, f2.up (by decide)⟩
            · subst q
              refine ZW.iload_n dX7_would_65 rfl ?_
              refine ZW.tableOut (tgt := 116) dX7_would_66 (by omega) (by omega) (by decide) ?_
              refine ZW.aload_n dX7_would_116 rfl ?_
              refine ZW.getR dX7_would_117 fl_X7_64 ⟨_, rfl, rfl⟩ ?_
              refine ZW.getI (fz := 5) dX7_would_120 fl_X7_209 ⟨_, rfl, rfl⟩ rfl rfl ?_
              rw [p5]
              refine ZW.ireti dX7_would_123 rfl ?_
              exact ⟨rfl, f2.up (by decide)⟩
          · have hcf := zB_eq c38
            refine ZW.bipush dX7_would_41 rfl ?_
            refine ZW.ireti dX7_would_43 rfl ?_
            exact ⟨by unfold wldV; rw [e, e2, e3, hcf]; rfl, zFr.rf _ _⟩
        · exact bad (by omega)
    · have e2 := zB_eq c15
      refine ZW.iconst dX7_would_18 ?_
      refine ZW.ireti dX7_would_19 rfl ?_
      exact ⟨by unfold wldV; rw [e, e2]; rfl, zFr.rf _ _⟩
