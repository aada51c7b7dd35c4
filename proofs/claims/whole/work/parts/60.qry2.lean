-- the class: besieged, count, unit
set_option maxHeartbeats 1000000 in
theorem c_X7_besieged (g : ZH) {r : Int → Int} (hA : okA r) (hS : StN g r) (hb : BdN g) {x : Int} (hx : zR x) : ZC 2 mX7_besieged [.inr 0, .inl x] g (fun v g' => v = bsgV r x ∧ zFr SC g g') := by
  refine ZC.of (by decide +kernel) (Nat.le_of_ble_eq_true rfl) ?_
  have loop : (0 ≤ x ∧ x < 63) → ∀ (s : Int), (s = 0 ∨ s = 1) → ∀ (n : Nat) (d : Int) (o4 : Option ZV), 0 ≤ d → d + n = 6 → ZW 2 mX7_besieged 37 [some (.inr 0), some (.inl x), some (.inl s), some (.inl d), o4] [] g (fun v g' => v = zB (!(anyF (bsgN r s x) n d)) ∧ zFr SC g g') := by
    intro hxr s hs n
    induction n with
    | zero =>
      intro d o4 h0 hn
      refine ZW.iload_n dX7_besieged_37 rfl ?_
      refine ZW.bipush dX7_besieged_38 rfl ?_
      refine ZW.icmp_ge (tgt := 101) dX7_besieged_40 (by decide) (by first | omega | exact zB_R _) (by first | omega | exact zB_R _) (fun c40 => ?_) (fun c40 => ?_)
      · refine ZW.iconst dX7_besieged_101 ?_
        refine ZW.ireti dX7_besieged_102 rfl ?_
        exact ⟨rfl, zFr.rf _ _⟩
      · exact absurd c40 (by omega)
    | succ n ih =>
      intro d o4 h0 hn
      have h1 := hb x d hxr.1 hxr.2 h0 (by omega)
      have h2 := nbF_R x d
      have hno : bsgN r s x d = false → ∀ o4 : Option ZV, ZW 2 mX7_besieged 95 [some (.inr 0), some (.inl x), some (.inl s), some (.inl d), o4] [] g (fun v g' => v = zB (!(anyF (bsgN r s x) (n + 1) d)) ∧ zFr SC g g') := by
        intro hf o4
        refine ZW.iinc dX7_besieged_95 rfl (by decide) rfl ?_
        refine ZW.goto (tgt := 37) dX7_besieged_98 (by decide) ?_
        refine ZW.mono (ih (d + 1) o4 (by omega) (by omega)) (fun v g' hh => ⟨?_, hh.2⟩)
        rw [hh.1]
        show _ = zB (!(bsgN r s x d || _))
        rw [hf, Bool.false_or]
      refine ZW.iload_n dX7_besieged_37 rfl ?_
      refine ZW.bipush dX7_besieged_38 rfl ?_
      refine ZW.icmp_ge (tgt := 101) dX7_besieged_40 (by decide) (by first | omega | exact zB_R _) (by first | omega | exact zB_R _) (fun c40 => ?_) (fun c40 => ?_)
      · exact absurd c40 (by omega)
      · refine ZW.aload_n dX7_besieged_43 rfl ?_
        refine ZW.getR dX7_besieged_44 fl_X7_10 ⟨_, rfl, rfl⟩ ?_
        refine ZW.getR dX7_besieged_47 fl_X7_83 ⟨_, rfl, rfl⟩ ?_
        refine ZW.iload_n dX7_besieged_50 rfl ?_
        refine ZW.bipush dX7_besieged_51 rfl ?_
        refine ZW.imul dX7_besieged_53 ?_
        refine ZW.iload_n dX7_besieged_54 rfl ?_
        refine ZW.iadd dX7_besieged_55 ?_
        refine ZW.iald dX7_besieged_56 rfl (by decide) (by omega) rfl ?_
        rw [h1]
        refine ZW.istore dX7_besieged_57 (by decide) rfl ?_
        refine ZW.iload dX7_besieged_59 rfl ?_
        refine ZW.callS (as := [_]) dX7_besieged_61 cs_X7_68 rfl (by decide) (Nat.le_of_ble_eq_true rfl) rfl (c_X0_isHex _ (by omega)) (fun v1 g2 ⟨q1, q2⟩ => ?_)
        subst q1; subst q2
        rw [nbF_hex]
        refine ZW.if_eq (tgt := 95) dX7_besieged_64 (by decide) (by first | omega | exact zB_R _) (fun c64 => ?_) (fun c64 => ?_)
        · have e := zB_eq c64
          exact hno (by unfold bsgN; rw [e]; rfl) _
        · have e := of_decide_eq_true (zB_ne c64)
          have hr := (nextF_R (x := x) (d := d)).resolve_left e
          have hnb : nbF x d = nextF x d := by unfold nbF; rw [if_neg e]
          have hsd := sdF_R hA (nextF x d)
          rw [hnb]
          refine ZW.aload_n dX7_besieged_67 rfl ?_
          refine ZW.getR dX7_besieged_68 fl_X7_21 ⟨_, rfl, rfl⟩ ?_
          refine ZW.iload_n dX7_besieged_71 rfl ?_
          refine ZW.iload dX7_besieged_72 rfl ?_
          refine ZW.callV (as := [_, _]) dX7_besieged_74 cv_X7_255 ⟨_, rfl⟩ rfl (by decide) (Nat.le_of_ble_eq_true rfl) rfl (c_X4_inZone _ hA hS hb hs hr) (fun v1 g3 ⟨q1, q2⟩ => ?_)
          subst q1; subst q2
          refine ZW.if_ne (tgt := 95) dX7_besieged_77 (by decide) (by first | omega | exact zB_R _) (fun c77 => ?_) (fun c77 => ?_)
          · have e2 := zB_ne c77
            exact hno (by unfold bsgN; rw [e2]; simp) _
          · have e2 := zB_eq c77
            refine ZW.aload_n dX7_besieged_80 rfl ?_
            refine ZW.getR dX7_besieged_81 fl_X7_21 ⟨_, rfl, rfl⟩ ?_
            refine ZW.iload dX7_besieged_84 rfl ?_
            refine ZW.callV (as := [_]) dX7_besieged_86 cv_X7_124 ⟨_, rfl⟩ rfl (by decide) (Nat.le_of_ble_eq_true rfl) rfl (c_X4_sideOn _ hA hS hr) (fun v1 g4 ⟨q1, q2⟩ => ?_)
            subst q1; subst q2
            refine ZW.iload_n dX7_besieged_89 rfl ?_
            refine ZW.icmp_eq (tgt := 95) dX7_besieged_90 (by decide) (by first | omega | exact zB_R _) (by first | omega | exact zB_R _) (fun c90 => ?_) (fun c90 => ?_)
            · exact hno (by unfold bsgN; rw [isOnB_sd (by omega), decide_eq_true c90]; simp) _
            · refine ZW.iconst dX7_besieged_93 ?_
              refine ZW.ireti dX7_besieged_94 rfl ?_
              refine ⟨?_, zFr.rf _ _⟩
              have hy : bsgN r s x d = true := by unfold bsgN; rw [isOnB_sd (by omega), decide_eq_false c90, e2, decide_eq_true e]; rfl
              show _ = zB (!(bsgN r s x d || _))
              rw [hy]; rfl
  refine ZW.iload_n dX7_besieged_0 rfl ?_
  refine ZW.callS (as := [_]) dX7_besieged_1 cs_X7_68 rfl (by decide) (Nat.le_of_ble_eq_true rfl) rfl (c_X0_isHex _ hx) (fun v1 g1 ⟨q1, q2⟩ => ?_)
  subst q1; subst q2
  refine ZW.if_ne (tgt := 9) dX7_besieged_4 (by decide) (by first | omega | exact zB_R _) (fun c4 => ?_) (fun c4 => ?_)
  · have e := zB_ne c4
    have hxr := isHexB_t e
    have hst := st_x hS hxr
    have hF := hA.2.2.2.1 x hxr.1 hxr.2
    have hR := hA.1.1.1 (126 + x) (by omega) (by omega)
    refine ZW.aload_n dX7_besieged_9 rfl ?_
    refine ZW.getR dX7_besieged_10 fl_X7_21 ⟨_, rfl, rfl⟩ ?_
    refine ZW.iload_n dX7_besieged_13 rfl ?_
    refine ZW.callV (as := [_]) dX7_besieged_14 cv_X7_104 ⟨_, rfl⟩ rfl (by decide) (Nat.le_of_ble_eq_true rfl) rfl (c_X4_hasFort _ hA hS hxr) (fun v1 g2 ⟨q1, q2⟩ => ?_)
    subst q1; subst q2
    refine ZW.if_ne (tgt := 23) dX7_besieged_17 (by decide) (by first | omega | exact zB_R _) (fun c17 => ?_) (fun c17 => ?_)
    · have e2 := of_decide_eq_true (zB_ne c17)
      refine ZW.iconst dX7_besieged_23 ?_
      refine ZW.aload_n dX7_besieged_24 rfl ?_
      refine ZW.getR dX7_besieged_25 fl_X7_21 ⟨_, rfl, rfl⟩ ?_
      refine ZW.getR dX7_besieged_28 fl_X7_107 ⟨_, rfl, rfl⟩ ?_
      refine ZW.iload_n dX7_besieged_31 rfl ?_
      refine ZW.iald dX7_besieged_32 rfl (by decide) (by omega) rfl ?_
      rw [hst.2.2.1]
      refine ZW.isub dX7_besieged_33 ?_
      rw [show (1 : Int) - (r (126 + x) - 1) = 2 - r (126 + x) by omega]
      refine ZW.istore_n dX7_besieged_34 (by decide) rfl ?_
      refine ZW.iconst dX7_besieged_35 ?_
      refine ZW.istore_n dX7_besieged_36 (by decide) rfl ?_
      refine ZW.mono (loop hxr _ (by omega) 6 0 _ (by omega) (by omega)) (fun v g' hh => ⟨?_, hh.2⟩)
      rw [hh.1]
      unfold bsgV
      rw [e, if_pos rfl, if_neg e2]
    · have e2 := of_decide_eq_false (zB_eq c17)
      refine ZW.bipush dX7_besieged_20 rfl ?_
      refine ZW.ireti dX7_besieged_22 rfl ?_
      exact ⟨by unfold bsgV; rw [e, if_pos rfl, if_pos (Classical.byContradiction e2)], zFr.rf _ _⟩
  · have e := zB_eq c4
    refine ZW.iconst dX7_besieged_7 ?_
    refine ZW.ireti dX7_besieged_8 rfl ?_
    exact ⟨by unfold bsgV; rw [e]; rfl, zFr.rf _ _⟩
set_option maxHeartbeats 1000000 in
theorem c_X7_count (g : ZH) {r : Int → Int} {n L w : Int} (hA : okA r) (hS : StN g r) (hb : BdN g) (hn : g 87 2 = n) (hL : g 89 1 = L) (hw : zR w) : ZC 5 mX7_count [.inr 0, .inl w] g (fun v g' => v = cntV r n L w ∧ zFr SC g g') := by
  refine ZC.of (by decide +kernel) (Nat.le_of_ble_eq_true rfl) ?_
  rcases (show w = 0 ∨ w = 1 ∨ w = 2 ∨ w = 3 ∨ w = 4 ∨ w = 5 ∨ w = 6 ∨ w = 7 ∨ w = 8 ∨ w = 9 ∨ w = 10 ∨ w = 11 ∨ w = 12 ∨ w = 13 ∨ w = 14 ∨ w = 15 ∨ (w < 0 ∨ 15 < w) by omega) with q | q | q | q | q | q | q | q | q | q | q | q | q | q | q | q | q
  · subst q
    refine ZW.iload_n dX7_count_0 rfl ?_
    refine ZW.tableIn (off := 79) (tgt := 80) dX7_count_1 (by omega) (by omega) rfl (by decide) ?_
    refine ZW.aload_n dX7_count_80 rfl ?_
    refine ZW.getR dX7_count_81 fl_X7_21 ⟨_, rfl, rfl⟩ ?_
    refine ZW.getI (fz := 13) dX7_count_84 fl_X7_215 ⟨_, rfl, rfl⟩ rfl rfl ?_
    rw [hS.2.2.1.2]
    refine ZW.ireti dX7_count_87 rfl ?_
    exact ⟨rfl, zFr.rf _ _⟩
  · subst q
    refine ZW.iload_n dX7_count_0 rfl ?_
    refine ZW.tableIn (off := 87) (tgt := 88) dX7_count_1 (by omega) (by omega) rfl (by decide) ?_
    refine ZW.aload_n dX7_count_88 rfl ?_
    refine ZW.getR dX7_count_89 fl_X7_21 ⟨_, rfl, rfl⟩ ?_
    refine ZW.callV (as := []) dX7_count_92 cv_X7_168 ⟨_, rfl⟩ rfl (by decide) (Nat.le_of_ble_eq_true rfl) rfl (c_X4_sideInTurn _ hA hS) (fun v1 g1 ⟨q1, q2⟩ => ?_)
    subst q1; subst q2
    refine ZW.ireti dX7_count_95 rfl ?_
    exact ⟨rfl, zFr.rf _ _⟩
  · subst q
    refine ZW.iload_n dX7_count_0 rfl ?_
    refine ZW.tableIn (off := 95) (tgt := 96) dX7_count_1 (by omega) (by omega) rfl (by decide) ?_
    refine ZW.aload_n dX7_count_96 rfl ?_
    refine ZW.getR dX7_count_97 fl_X7_21 ⟨_, rfl, rfl⟩ ?_
    refine ZW.getI (fz := 6) dX7_count_100 fl_X7_120 ⟨_, rfl, rfl⟩ rfl rfl ?_
    rw [hS.2.2.1.1]
    refine ZW.ireti dX7_count_103 rfl ?_
    exact ⟨rfl, zFr.rf _ _⟩
  · subst q
    refine ZW.iload_n dX7_count_0 rfl ?_
    refine ZW.tableIn (off := 103) (tgt := 104) dX7_count_1 (by omega) (by omega) rfl (by decide) ?_
    refine ZW.aload_n dX7_count_104 rfl ?_
    refine ZW.getR dX7_count_105 fl_X7_21 ⟨_, rfl, rfl⟩ ?_
    refine ZW.iload_n dX7_count_108 rfl ?_
    refine ZW.iconst dX7_count_109 ?_
    refine ZW.isub dX7_count_110 ?_
    refine ZW.callV (as := [_]) dX7_count_111 cv_X7_284 ⟨_, rfl⟩ rfl (by decide) (Nat.le_of_ble_eq_true rfl) rfl (c_X4_unitCount _ hA hS (by decide)) (fun v1 g1 ⟨q1, q2⟩ => ?_)
    subst q1; subst q2
    refine ZW.ireti dX7_count_114 rfl ?_
    exact ⟨rfl, zFr.rf _ _⟩
  · subst q
    refine ZW.iload_n dX7_count_0 rfl ?_
    refine ZW.tableIn (off := 103) (tgt := 104) dX7_count_1 (by omega) (by omega) rfl (by decide) ?_
    refine ZW.aload_n dX7_count_104 rfl ?_
    refine ZW.getR dX7_count_105 fl_X7_21 ⟨_, rfl, rfl⟩ ?_
    refine ZW.iload_n dX7_count_108 rfl ?_
    refine ZW.iconst dX7_count_109 ?_
    refine ZW.isub dX7_count_110 ?_
    refine ZW.callV (as := [_]) dX7_count_111 cv_X7_284 ⟨_, rfl⟩ rfl (by decide) (Nat.le_of_ble_eq_true rfl) rfl (c_X4_unitCount _ hA hS (by decide)) (fun v1 g1 ⟨q1, q2⟩ => ?_)
    subst q1; subst q2
    refine ZW.ireti dX7_count_114 rfl ?_
    exact ⟨rfl, zFr.rf _ _⟩
  · subst q
    refine ZW.iload_n dX7_count_0 rfl ?_
    refine ZW.tableIn (off := 114) (tgt := 115) dX7_count_1 (by omega) (by omega) rfl (by decide) ?_
    refine ZW.aload_n dX7_count_115 rfl ?_
    refine ZW.getR dX7_count_116 fl_X7_21 ⟨_, rfl, rfl⟩ ?_
    refine ZW.iload_n dX7_count_119 rfl ?_
    refine ZW.iconst dX7_count_120 ?_
    refine ZW.isub dX7_count_121 ?_
    refine ZW.callV (as := [_]) dX7_count_122 cv_X7_287 ⟨_, rfl⟩ rfl (by decide) (Nat.le_of_ble_eq_true rfl) rfl (c_X4_strengthOf _ hA hS (by decide)) (fun v1 g1 ⟨q1, q2⟩ => ?_)
    subst q1; subst q2
    refine ZW.ireti dX7_count_125 rfl ?_
    exact ⟨rfl, zFr.rf _ _⟩
  · subst q
    refine ZW.iload_n dX7_count_0 rfl ?_
    refine ZW.tableIn (off := 114) (tgt := 115) dX7_count_1 (by omega) (by omega) rfl (by decide) ?_
    refine ZW.aload_n dX7_count_115 rfl ?_
    refine ZW.getR dX7_count_116 fl_X7_21 ⟨_, rfl, rfl⟩ ?_
    refine ZW.iload_n dX7_count_119 rfl ?_
    refine ZW.iconst dX7_count_120 ?_
    refine ZW.isub dX7_count_121 ?_
    refine ZW.callV (as := [_]) dX7_count_122 cv_X7_287 ⟨_, rfl⟩ rfl (by decide) (Nat.le_of_ble_eq_true rfl) rfl (c_X4_strengthOf _ hA hS (by decide)) (fun v1 g1 ⟨q1, q2⟩ => ?_)
    subst q1; subst q2
    refine ZW.ireti dX7_count_125 rfl ?_
    exact ⟨rfl, zFr.rf _ _⟩
  · subst q
    refine ZW.iload_n dX7_count_0 rfl ?_
    refine ZW.tableIn (off := 125) (tgt := 126) dX7_count_1 (by omega) (by omega) rfl (by decide) ?_
    refine ZW.aload_n dX7_count_126 rfl ?_
    refine ZW.getR dX7_count_127 fl_X7_21 ⟨_, rfl, rfl⟩ ?_
    refine ZW.iload_n dX7_count_130 rfl ?_
    refine ZW.bipush dX7_count_131 rfl ?_
    refine ZW.isub dX7_count_133 ?_
    refine ZW.callV (as := [_]) dX7_count_134 cv_X7_114 ⟨_, rfl⟩ rfl (by decide) (Nat.le_of_ble_eq_true rfl) rfl (c_X4_fortCount _ hA hS (by decide)) (fun v1 g1 ⟨q1, q2⟩ => ?_)
    subst q1; subst q2
    refine ZW.ireti dX7_count_137 rfl ?_
    exact ⟨rfl, zFr.rf _ _⟩
  · subst q
    refine ZW.iload_n dX7_count_0 rfl ?_
    refine ZW.tableIn (off := 125) (tgt := 126) dX7_count_1 (by omega) (by omega) rfl (by decide) ?_
    refine ZW.aload_n dX7_count_126 rfl ?_
    refine ZW.getR dX7_count_127 fl_X7_21 ⟨_, rfl, rfl⟩ ?_
    refine ZW.iload_n dX7_count_130 rfl ?_
    refine ZW.bipush dX7_count_131 rfl ?_
    refine ZW.isub dX7_count_133 ?_
    refine ZW.callV (as := [_]) dX7_count_134 cv_X7_114 ⟨_, rfl⟩ rfl (by decide) (Nat.le_of_ble_eq_true rfl) rfl (c_X4_fortCount _ hA hS (by decide)) (fun v1 g1 ⟨q1, q2⟩ => ?_)
    subst q1; subst q2
    refine ZW.ireti dX7_count_137 rfl ?_
    exact ⟨rfl, zFr.rf _ _⟩
  · subst q
    refine ZW.iload_n dX7_count_0 rfl ?_
    refine ZW.tableIn (off := 137) (tgt := 138) dX7_count_1 (by omega) (by omega) rfl (by decide) ?_
    refine ZW.aload_n dX7_count_138 rfl ?_
    refine ZW.getR dX7_count_139 fl_X7_21 ⟨_, rfl, rfl⟩ ?_
    refine ZW.callV (as := []) dX7_count_142 cv_X7_97 ⟨_, rfl⟩ rfl (by decide) (Nat.le_of_ble_eq_true rfl) rfl (c_X4_riverCount _ hA hS) (fun v1 g1 ⟨q1, q2⟩ => ?_)
    subst q1; subst q2
    refine ZW.ireti dX7_count_145 rfl ?_
    exact ⟨rfl, zFr.rf _ _⟩
  · subst q
    refine ZW.iload_n dX7_count_0 rfl ?_
    refine ZW.tableIn (off := 145) (tgt := 146) dX7_count_1 (by omega) (by omega) rfl (by decide) ?_
    refine ZW.aload_n dX7_count_146 rfl ?_
    refine ZW.getR dX7_count_147 fl_X7_21 ⟨_, rfl, rfl⟩ ?_
    refine ZW.iload_n dX7_count_150 rfl ?_
    refine ZW.bipush dX7_count_151 rfl ?_
    refine ZW.isub dX7_count_153 ?_
    refine ZW.callV (as := [_]) dX7_count_154 cv_X7_290 ⟨_, rfl⟩ rfl (by decide) (Nat.le_of_ble_eq_true rfl) rfl (c_X4_seenCount _ hA hS hb (by decide)) (fun v1 g1 ⟨q1, q2⟩ => ?_)
    subst q1; subst q2
    refine ZW.ireti dX7_count_157 rfl ?_
    exact ⟨rfl, zFr.rf _ _⟩
  · subst q
    refine ZW.iload_n dX7_count_0 rfl ?_
    refine ZW.tableIn (off := 145) (tgt := 146) dX7_count_1 (by omega) (by omega) rfl (by decide) ?_
    refine ZW.aload_n dX7_count_146 rfl ?_
    refine ZW.getR dX7_count_147 fl_X7_21 ⟨_, rfl, rfl⟩ ?_
    refine ZW.iload_n dX7_count_150 rfl ?_
    refine ZW.bipush dX7_count_151 rfl ?_
    refine ZW.isub dX7_count_153 ?_
    refine ZW.callV (as := [_]) dX7_count_154 cv_X7_290 ⟨_, rfl⟩ rfl (by decide) (Nat.le_of_ble_eq_true rfl) rfl (c_X4_seenCount _ hA hS hb (by decide)) (fun v1 g1 ⟨q1, q2⟩ => ?_)
    subst q1; subst q2
    refine ZW.ireti dX7_count_157 rfl ?_
    exact ⟨rfl, zFr.rf _ _⟩
  · subst q
    refine ZW.iload_n dX7_count_0 rfl ?_
    refine ZW.tableIn (off := 157) (tgt := 158) dX7_count_1 (by omega) (by omega) rfl (by decide) ?_
    refine ZW.aload_n dX7_count_158 rfl ?_
    refine ZW.getR dX7_count_159 fl_X7_34 ⟨_, rfl, rfl⟩ ?_
    refine ZW.getI (fz := 2) dX7_count_162 fl_X7_248 ⟨_, rfl, rfl⟩ rfl rfl ?_
    rw [hn]
    refine ZW.ireti dX7_count_165 rfl ?_
    exact ⟨rfl, zFr.rf _ _⟩
  · subst q
    refine ZW.iload_n dX7_count_0 rfl ?_
    refine ZW.tableIn (off := 165) (tgt := 166) dX7_count_1 (by omega) (by omega) rfl (by decide) ?_
    refine ZW.aload_n dX7_count_166 rfl ?_
    refine ZW.getR dX7_count_167 fl_X7_41 ⟨_, rfl, rfl⟩ ?_
    refine ZW.getI (fz := 1) dX7_count_170 fl_X7_241 ⟨_, rfl, rfl⟩ rfl rfl ?_
    rw [hL]
    refine ZW.ireti dX7_count_173 rfl ?_
    exact ⟨rfl, zFr.rf _ _⟩
  · subst q
    refine ZW.iload_n dX7_count_0 rfl ?_
    refine ZW.tableIn (off := 173) (tgt := 174) dX7_count_1 (by omega) (by omega) rfl (by decide) ?_
    refine ZW.aload_n dX7_count_174 rfl ?_
    refine ZW.getR dX7_count_175 fl_X7_21 ⟨_, rfl, rfl⟩ ?_
    refine ZW.getR dX7_count_178 fl_X7_117 ⟨_, rfl, rfl⟩ ?_
    refine ZW.iload_n dX7_count_181 rfl ?_
    refine ZW.bipush dX7_count_182 rfl ?_
    refine ZW.isub dX7_count_184 ?_
    refine ZW.iald dX7_count_185 rfl (by decide) (by omega) rfl ?_
    rw [show g 8 (14 - 14) = r (189 + (14 - 14)) from hS.2.1.1]
    refine ZW.ireti dX7_count_186 rfl ?_
    exact ⟨rfl, zFr.rf _ _⟩
  · subst q
    refine ZW.iload_n dX7_count_0 rfl ?_
    refine ZW.tableIn (off := 173) (tgt := 174) dX7_count_1 (by omega) (by omega) rfl (by decide) ?_
    refine ZW.aload_n dX7_count_174 rfl ?_
    refine ZW.getR dX7_count_175 fl_X7_21 ⟨_, rfl, rfl⟩ ?_
    refine ZW.getR dX7_count_178 fl_X7_117 ⟨_, rfl, rfl⟩ ?_
    refine ZW.iload_n dX7_count_181 rfl ?_
    refine ZW.bipush dX7_count_182 rfl ?_
    refine ZW.isub dX7_count_184 ?_
    refine ZW.iald dX7_count_185 rfl (by decide) (by omega) rfl ?_
    rw [show g 8 (15 - 14) = r (189 + (15 - 14)) from hS.2.1.2]
    refine ZW.ireti dX7_count_186 rfl ?_
    exact ⟨rfl, zFr.rf _ _⟩
  · refine ZW.iload_n dX7_count_0 rfl ?_
    refine ZW.tableOut (tgt := 187) dX7_count_1 (by omega) (by omega) (by decide) ?_
    refine ZW.bipush dX7_count_187 rfl ?_
    refine ZW.ireti dX7_count_189 rfl ?_
    refine ⟨?_, zFr.rf _ _⟩
    unfold cntV
    rw [if_neg (by omega), if_neg (by omega), if_neg (by omega), if_neg (by omega), if_neg (by omega), if_neg (by omega), if_neg (by omega), if_neg (by omega), if_neg (by omega), if_neg (by omega), if_neg (by omega)]
set_option maxHeartbeats 1000000 in
theorem c_X7_unit (g : ZH) {r : Int → Int} (hA : okA r) (hS : StN g r) (hb : BdN g) {u w : Int} (hu : zR u) (hw : zR w) : ZC 4 mX7_unit [.inr 0, .inl u, .inl w] g (fun v g' => v = untV r u w ∧ zFr SC g g') := by
  have h16 := hA.1.1.2
  refine ZC.of (by decide +kernel) (Nat.le_of_ble_eq_true rfl) ?_
  refine ZW.aload_n dX7_unit_0 rfl ?_
  refine ZW.getR dX7_unit_1 fl_X7_21 ⟨_, rfl, rfl⟩ ?_
  refine ZW.iload_n dX7_unit_4 rfl ?_
  refine ZW.callV (as := [_]) dX7_unit_5 cv_X7_162 ⟨_, rfl⟩ rfl (by decide) (Nat.le_of_ble_eq_true rfl) rfl (c_X4_isUnit _ hA hS hu) (fun v1 g1 ⟨q1, q2⟩ => ?_)
  subst q1; subst q2
  refine ZW.if_ne (tgt := 13) dX7_unit_8 (by decide) (by first | omega | exact zB_R _) (fun c8 => ?_) (fun c8 => ?_)
  · have e := zB_ne c8
    obtain ⟨u0, u1, u2, u3⟩ := isUnitB_t hA.1.1 e
    have hU := hA.1.2.1 u u0 u2
    have hst := st_u hS u0 u1
    have hspR := spC_R r (ofF r u 0) (ofF r u 2)
    refine ZW.aload_n dX7_unit_13 rfl ?_
    refine ZW.getR dX7_unit_14 fl_X7_21 ⟨_, rfl, rfl⟩ ?_
    refine ZW.getR dX7_unit_17 fl_X7_165 ⟨_, rfl, rfl⟩ ?_
    refine ZW.iload_n dX7_unit_20 rfl ?_
    refine ZW.iald dX7_unit_21 rfl (by decide) (by omega) rfl ?_
    rw [hst.1]
    refine ZW.istore_n dX7_unit_22 (by decide) rfl ?_
    refine ZW.aload_n dX7_unit_23 rfl ?_
    refine ZW.getR dX7_unit_24 fl_X7_21 ⟨_, rfl, rfl⟩ ?_
    refine ZW.getR dX7_unit_27 fl_X7_171 ⟨_, rfl, rfl⟩ ?_
    refine ZW.iload_n dX7_unit_30 rfl ?_
    refine ZW.iald dX7_unit_31 rfl (by decide) (by omega) rfl ?_
    rw [hst.2.2.1]
    refine ZW.istore dX7_unit_32 (by decide) rfl ?_
    refine ZW.iload_n dX7_unit_34 rfl ?_
    rcases (show w = 0 ∨ w = 1 ∨ w = 2 ∨ w = 3 ∨ w = 4 ∨ w = 5 ∨ w = 6 ∨ w = 7 ∨ w = 8 ∨ w = 9 ∨ (w < 0 ∨ 9 < w) by omega) with q | q | q | q | q | q | q | q | q | q | q
    · subst q
      refine ZW.tableIn (off := 53) (tgt := 88) dX7_unit_35 (by omega) (by omega) rfl (by decide) ?_
      refine ZW.iload_n dX7_unit_88 rfl ?_
      refine ZW.ireti dX7_unit_89 rfl ?_
      exact ⟨by unfold untV; rw [e]; rfl, zFr.rf _ _⟩
    · subst q
      refine ZW.tableIn (off := 55) (tgt := 90) dX7_unit_35 (by omega) (by omega) rfl (by decide) ?_
      refine ZW.aload_n dX7_unit_90 rfl ?_
      refine ZW.getR dX7_unit_91 fl_X7_21 ⟨_, rfl, rfl⟩ ?_
      refine ZW.getR dX7_unit_94 fl_X7_234 ⟨_, rfl, rfl⟩ ?_
      refine ZW.iload_n dX7_unit_97 rfl ?_
      refine ZW.iald dX7_unit_98 rfl (by decide) (by omega) rfl ?_
      rw [hst.2.1]
      refine ZW.ireti dX7_unit_99 rfl ?_
      exact ⟨by unfold untV; rw [e]; rfl, zFr.rf _ _⟩
    · subst q
      refine ZW.tableIn (off := 65) (tgt := 100) dX7_unit_35 (by omega) (by omega) rfl (by decide) ?_
      refine ZW.iload dX7_unit_100 rfl ?_
      refine ZW.ireti dX7_unit_102 rfl ?_
      exact ⟨by unfold untV; rw [e]; rfl, zFr.rf _ _⟩
    · subst q
      refine ZW.tableIn (off := 68) (tgt := 103) dX7_unit_35 (by omega) (by omega) rfl (by decide) ?_
      refine ZW.aload_n dX7_unit_103 rfl ?_
      refine ZW.getR dX7_unit_104 fl_X7_21 ⟨_, rfl, rfl⟩ ?_
      refine ZW.getR dX7_unit_107 fl_X7_180 ⟨_, rfl, rfl⟩ ?_
      refine ZW.iload_n dX7_unit_110 rfl ?_
      refine ZW.iald dX7_unit_111 rfl (by decide) (by omega) rfl ?_
      rw [(hst.2.2.2.2 u3).1]
      refine ZW.ireti dX7_unit_112 rfl ?_
      exact ⟨by unfold untV; rw [e]; rfl, zFr.rf _ _⟩
    · subst q
      refine ZW.tableIn (off := 78) (tgt := 113) dX7_unit_35 (by omega) (by omega) rfl (by decide) ?_
      refine ZW.aload_n dX7_unit_113 rfl ?_
      refine ZW.getR dX7_unit_114 fl_X7_21 ⟨_, rfl, rfl⟩ ?_
      refine ZW.getR dX7_unit_117 fl_X7_190 ⟨_, rfl, rfl⟩ ?_
      refine ZW.iload_n dX7_unit_120 rfl ?_
      refine ZW.iald dX7_unit_121 rfl (by decide) (by omega) rfl ?_
      rw [(hst.2.2.2.2 u3).2]
      refine ZW.ireti dX7_unit_122 rfl ?_
      exact ⟨by unfold untV; rw [e]; rfl, zFr.rf _ _⟩
    · subst q
      refine ZW.tableIn (off := 88) (tgt := 123) dX7_unit_35 (by omega) (by omega) rfl (by decide) ?_
      refine ZW.aload_n dX7_unit_123 rfl ?_
      refine ZW.getR dX7_unit_124 fl_X7_55 ⟨_, rfl, rfl⟩ ?_
      refine ZW.aload_n dX7_unit_127 rfl ?_
      refine ZW.getR dX7_unit_128 fl_X7_21 ⟨_, rfl, rfl⟩ ?_
      refine ZW.iload_n dX7_unit_131 rfl ?_
      refine ZW.callVv (as := [_, _]) dX7_unit_132 cv_X7_224 ⟨_, rfl⟩ rfl (by decide) (Nat.le_of_ble_eq_true rfl) rfl (fun _ _ hz _ => hz) (c_X5_measure _ hA hS hb hU.1) (fun g2 ⟨f2, w2⟩ => ?_)
      have hsp := w2 (ofF r u 2) hU.2.1 hU.2.2
      refine ZW.aload_n dX7_unit_135 rfl ?_
      refine ZW.getR dX7_unit_136 fl_X7_55 ⟨_, rfl, rfl⟩ ?_
      refine ZW.iload dX7_unit_139 rfl ?_
      refine ZW.callV (as := [_]) dX7_unit_141 cv_X7_228 ⟨_, rfl⟩ rfl (by decide) (Nat.le_of_ble_eq_true rfl) rfl (c_X5_reaches _ hU.2 (by rw [hsp]; omega)) (fun v1 g3 ⟨q1, q2⟩ => ?_)
      subst q1; subst q2
      rw [hsp, spC_b hA u0 u1 u3]
      refine ZW.callS (as := [_]) dX7_unit_144 cs_X7_258 rfl (by decide) (Nat.le_of_ble_eq_true rfl) rfl (c_X7_oneIf _) (fun v1 g1 ⟨q1, q2⟩ => ?_)
      subst q1; subst q2
      refine ZW.ireti dX7_unit_147 rfl ?_
      exact ⟨by unfold untV; rw [e]; rfl, f2.up (by decide)⟩
    · subst q
      have hV : untV r u 6 = supF r (ofF r u 0) (ofF r u 2) := by unfold untV; rw [e]; rfl
      refine ZW.tableIn (off := 113) (tgt := 148) dX7_unit_35 (by omega) (by omega) rfl (by decide) ?_
      refine ZW.aload_n dX7_unit_148 rfl ?_
      refine ZW.getR dX7_unit_149 fl_X7_55 ⟨_, rfl, rfl⟩ ?_
      refine ZW.aload_n dX7_unit_152 rfl ?_
      refine ZW.getR dX7_unit_153 fl_X7_21 ⟨_, rfl, rfl⟩ ?_
      refine ZW.iload_n dX7_unit_156 rfl ?_
      refine ZW.callVv (as := [_, _]) dX7_unit_157 cv_X7_224 ⟨_, rfl⟩ rfl (by decide) (Nat.le_of_ble_eq_true rfl) rfl (fun _ _ hz _ => hz) (c_X5_measure _ hA hS hb hU.1) (fun g2 ⟨f2, w2⟩ => ?_)
      have hsp := w2 (ofF r u 2) hU.2.1 hU.2.2
      refine ZW.aload_n dX7_unit_160 rfl ?_
      refine ZW.getR dX7_unit_161 fl_X7_55 ⟨_, rfl, rfl⟩ ?_
      refine ZW.iload dX7_unit_164 rfl ?_
      refine ZW.callV (as := [_]) dX7_unit_166 cv_X7_228 ⟨_, rfl⟩ rfl (by decide) (Nat.le_of_ble_eq_true rfl) rfl (c_X5_reaches _ hU.2 (by rw [hsp]; omega)) (fun v1 g3 ⟨q1, q2⟩ => ?_)
      subst q1; subst q2
      rw [hsp, spC_b hA u0 u1 u3]
      refine ZW.if_eq (tgt := 185) dX7_unit_169 (by decide) (by first | omega | exact zB_R _) (fun c169 => ?_) (fun c169 => ?_)
      · have e3 := of_decide_eq_false (zB_eq c169)
        refine ZW.bipush dX7_unit_185 rfl ?_
        refine ZW.ireti dX7_unit_187 rfl ?_
        exact ⟨by rw [hV]; exact (Classical.byContradiction e3).symm, f2.up (by decide)⟩
      · have e3 := of_decide_eq_true (zB_ne c169)
        refine ZW.aload_n dX7_unit_172 rfl ?_
        refine ZW.getR dX7_unit_173 fl_X7_55 ⟨_, rfl, rfl⟩ ?_
        refine ZW.getR dX7_unit_176 fl_X7_271 ⟨_, rfl, rfl⟩ ?_
        refine ZW.iload dX7_unit_179 rfl ?_
        refine ZW.iald dX7_unit_181 rfl (by decide) (by omega) rfl ?_
        rw [hsp, spC_on hA u0 u1 u3, if_neg e3]
        refine ZW.goto (tgt := 187) dX7_unit_182 (by decide) ?_
        refine ZW.ireti dX7_unit_187 rfl ?_
        exact ⟨hV.symm, f2.up (by decide)⟩
    · subst q
      refine ZW.tableIn (off := 153) (tgt := 188) dX7_unit_35 (by omega) (by omega) rfl (by decide) ?_
      refine ZW.aload_n dX7_unit_188 rfl ?_
      refine ZW.getR dX7_unit_189 fl_X7_21 ⟨_, rfl, rfl⟩ ?_
      refine ZW.getR dX7_unit_192 fl_X7_231 ⟨_, rfl, rfl⟩ ?_
      refine ZW.iload_n dX7_unit_195 rfl ?_
      refine ZW.iald dX7_unit_196 rfl (by decide) (by omega) rfl ?_
      rw [hst.2.2.2.1]
      refine ZW.ireti dX7_unit_197 rfl ?_
      exact ⟨by unfold untV; rw [e]; rfl, zFr.rf _ _⟩
    · subst q
      refine ZW.tableIn (off := 163) (tgt := 198) dX7_unit_35 (by omega) (by omega) rfl (by decide) ?_
      refine ZW.aload_n dX7_unit_198 rfl ?_
      refine ZW.getR dX7_unit_199 fl_X7_48 ⟨_, rfl, rfl⟩ ?_
      refine ZW.aload_n dX7_unit_202 rfl ?_
      refine ZW.getR dX7_unit_203 fl_X7_21 ⟨_, rfl, rfl⟩ ?_
      refine ZW.iload_n dX7_unit_206 rfl ?_
      refine ZW.callVv (as := [_, _]) dX7_unit_207 cv_X7_172 ⟨_, rfl⟩ rfl (by decide) (Nat.le_of_ble_eq_true rfl) rfl (fun _ _ hz _ => hz) (c_X6_measure _ hA hS hb ⟨u0, u1⟩ u3) (fun g2 ⟨f2, w2⟩ => ?_)
      have S2 := hS.fr f2 (by decide)
      refine ZW.aload_n dX7_unit_210 rfl ?_
      refine ZW.getR dX7_unit_211 fl_X7_48 ⟨_, rfl, rfl⟩ ?_
      refine ZW.aload_n dX7_unit_214 rfl ?_
      refine ZW.getR dX7_unit_215 fl_X7_21 ⟨_, rfl, rfl⟩ ?_
      refine ZW.callV (as := [_]) dX7_unit_218 cv_X7_274 ⟨_, rfl⟩ rfl (by decide) (Nat.le_of_ble_eq_true rfl) rfl (c_X6_endCount _ hA S2 ⟨u0, u2⟩ w2) (fun v1 g3 ⟨q1, q2⟩ => ?_)
      subst q1; subst q2
      refine ZW.ireti dX7_unit_221 rfl ?_
      exact ⟨by unfold untV; rw [e]; rfl, f2.up (by decide)⟩
    · subst q
      refine ZW.tableIn (off := 187) (tgt := 222) dX7_unit_35 (by omega) (by omega) rfl (by decide) ?_
      refine ZW.aload_n dX7_unit_222 rfl ?_
      refine ZW.getR dX7_unit_223 fl_X7_21 ⟨_, rfl, rfl⟩ ?_
      refine ZW.iconst dX7_unit_226 ?_
      refine ZW.iload_n dX7_unit_227 rfl ?_
      refine ZW.isub dX7_unit_228 ?_
      refine ZW.iload dX7_unit_229 rfl ?_
      refine ZW.callV (as := [_, _]) dX7_unit_231 cv_X7_262 ⟨_, rfl⟩ rfl (by decide) (Nat.le_of_ble_eq_true rfl) rfl (c_X4_isSeen _ hA hS hb (by omega) hU.2) (fun v1 g2 ⟨q1, q2⟩ => ?_)
      subst q1; subst q2
      refine ZW.callS (as := [_]) dX7_unit_234 cs_X7_258 rfl (by decide) (Nat.le_of_ble_eq_true rfl) rfl (c_X7_oneIf _) (fun v1 g1 ⟨q1, q2⟩ => ?_)
      subst q1; subst q2
      refine ZW.ireti dX7_unit_237 rfl ?_
      exact ⟨by unfold untV; rw [e]; rfl, zFr.rf _ _⟩
    · refine ZW.tableOut (tgt := 238) dX7_unit_35 (by omega) (by omega) (by decide) ?_
      refine ZW.bipush dX7_unit_238 rfl ?_
      refine ZW.ireti dX7_unit_240 rfl ?_
      refine ⟨?_, zFr.rf _ _⟩
      unfold untV
      rw [e, if_pos rfl, if_neg (by omega), if_neg (by omega), if_neg (by omega), if_neg (by omega), if_neg (by omega), show inB w 0 4 = false from decide_eq_false (by omega)]
      rfl
  · have e := zB_eq c8
    refine ZW.iconst dX7_unit_11 ?_
    refine ZW.ireti dX7_unit_12 rfl ?_
    exact ⟨by unfold untV; rw [e]; rfl, zFr.rf _ _⟩
