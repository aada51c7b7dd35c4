-- the class: an attack
set_option maxRecDepth 100000 in
set_option maxHeartbeats 1000000 in
theorem c_X7_strike (g : ZH) {r : Int → Int} (hX : okX r) (hS : StN g r) (hb : BdN g) {u x : Int} (hu : zR u) (hx : zR x) : ZC 5 mX7_strike [.inr 0, .inl u, .inl x] g (fun v g' => v = attV r u x ∧ frA g g' ∧ (refAF r u x = 0 → StN g' (fightsF r u x)) ∧ (refAF r u x ≠ 0 → StN g' r)) := by
  have hA := hX.1
  have no : ∀ (v : Int) (g1 : ZH), refAF r u x = v → v ≠ 0 → frA g g1 → StN g1 r → v = attV r u x ∧ frA g g1 ∧ (refAF r u x = 0 → StN g1 (fightsF r u x)) ∧ (refAF r u x ≠ 0 → StN g1 r) := fun v g1 h1 h2 h3 h4 => ⟨by unfold attV; rw [h1, if_neg h2], h3, fun q => absurd (h1.symm.trans q) h2, fun _ => h4⟩
  have h16 := hA.1.1.2
  refine ZC.of (by decide +kernel) (Nat.le_of_ble_eq_true rfl) ?_
  refine ZW.aload_n dX7_strike_0 rfl ?_
  refine ZW.getR dX7_strike_1 fl_X7_21 ⟨_, rfl, rfl⟩ ?_
  refine ZW.iload_n dX7_strike_4 rfl ?_
  refine ZW.callV (as := [_]) dX7_strike_5 cv_X7_162 ⟨_, rfl⟩ rfl (by decide) (Nat.le_of_ble_eq_true rfl) rfl (c_X4_isUnit _ hA hS hu) (fun v1 g1 ⟨q1, q2⟩ => ?_)
  subst q1; subst q2
  refine ZW.if_eq (tgt := 18) dX7_strike_8 (by decide) (by first | omega | exact zB_R _) (fun c8 => ?_) (fun c8 => ?_)
  · have e := zB_eq c8
    refine ZW.iconst dX7_strike_18 ?_
    refine ZW.ireti dX7_strike_19 rfl ?_
    exact no (-1) _ (by unfold refAF; rw [e]; rfl) (by decide) (frA.rf _) hS
  · have e := zB_ne c8
    obtain ⟨u0, u1, u2, u3⟩ := isUnitB_t hA.1.1 e
    have hU := hA.1.2.1 u u0 u2
    have hst := st_u hS u0 u1
    have hu1 := ofF_R hA.1.1 (u := u) (w := 1) ⟨u0, u2⟩ (by decide)
    have hu4 := ofF_R hA.1.1 (u := u) (w := 4) ⟨u0, u2⟩ (by decide)
    have hu4b := hX.2 u u0 u2
    have h191 := hA.1.1.1 191 (by decide) (by decide)
    refine ZW.iload_n dX7_strike_11 rfl ?_
    refine ZW.callS (as := [_]) dX7_strike_12 cs_X7_68 rfl (by decide) (Nat.le_of_ble_eq_true rfl) rfl (c_X0_isHex _ hx) (fun v1 g1 ⟨q1, q2⟩ => ?_)
    subst q1; subst q2
    refine ZW.if_ne (tgt := 20) dX7_strike_15 (by decide) (by first | omega | exact zB_R _) (fun c15 => ?_) (fun c15 => ?_)
    · have e2 := zB_ne c15
      have hxr := isHexB_t e2
      have no2 : ¬ (ofF r u 0 = r 191 % 2 ∧ ofF r u 4 = 1 ∧ canF r u x = true) → ZW 5 mX7_strike 60 [some (.inr 0), some (.inl u), some (.inl x), none] [] g1 (fun v g' => v = attV r u x ∧ frA g1 g' ∧ (refAF r u x = 0 → StN g' (fightsF r u x)) ∧ (refAF r u x ≠ 0 → StN g' r)) := by
        intro hno
        refine ZW.bipush dX7_strike_60 rfl ?_
        refine ZW.ireti dX7_strike_62 rfl ?_
        exact no (-4) _ (by unfold refAF; rw [e, e2]; simp only [Bool.and_self, if_true]; rw [if_neg hno]) (by decide) (frA.rf _) hS
      refine ZW.aload_n dX7_strike_20 rfl ?_
      refine ZW.getR dX7_strike_21 fl_X7_21 ⟨_, rfl, rfl⟩ ?_
      refine ZW.getR dX7_strike_24 fl_X7_165 ⟨_, rfl, rfl⟩ ?_
      refine ZW.iload_n dX7_strike_27 rfl ?_
      refine ZW.iald dX7_strike_28 rfl (by decide) (by omega) rfl ?_
      rw [hst.1]
      refine ZW.aload_n dX7_strike_29 rfl ?_
      refine ZW.getR dX7_strike_30 fl_X7_21 ⟨_, rfl, rfl⟩ ?_
      refine ZW.callV (as := []) dX7_strike_33 cv_X7_168 ⟨_, rfl⟩ rfl (by decide) (Nat.le_of_ble_eq_true rfl) rfl (c_X4_sideInTurn _ hA hS) (fun v1 g1 ⟨q1, q2⟩ => ?_)
      subst q1; subst q2
      refine ZW.icmp_ne (tgt := 60) dX7_strike_36 (by decide) (by first | omega | exact zB_R _) (by first | omega | exact zB_R _) (fun c36 => ?_) (fun c36 => ?_)
      · exact no2 (fun q => c36 q.1)
      · refine ZW.aload_n dX7_strike_39 rfl ?_
        refine ZW.getR dX7_strike_40 fl_X7_21 ⟨_, rfl, rfl⟩ ?_
        refine ZW.getR dX7_strike_43 fl_X7_190 ⟨_, rfl, rfl⟩ ?_
        refine ZW.iload_n dX7_strike_46 rfl ?_
        refine ZW.iald dX7_strike_47 rfl (by decide) (by omega) rfl ?_
        rw [(hst.2.2.2.2 u3).2]
        refine ZW.if_eq (tgt := 60) dX7_strike_48 (by decide) (by first | omega | exact zB_R _) (fun c48 => ?_) (fun c48 => ?_)
        · exact no2 (fun q => by omega)
        · refine ZW.aload_n dX7_strike_51 rfl ?_
          refine ZW.iload_n dX7_strike_52 rfl ?_
          refine ZW.iload_n dX7_strike_53 rfl ?_
          refine ZW.callV (as := [_, _]) dX7_strike_54 cv_X7_193 ⟨_, rfl⟩ rfl (by decide) (Nat.le_of_ble_eq_true rfl) rfl (c_X7_canFight _ hA hS hb ⟨u0, u1⟩ hxr) (fun v1 g1 ⟨q1, q2⟩ => ?_)
          subst q1; subst q2
          refine ZW.if_ne (tgt := 63) dX7_strike_57 (by decide) (by first | omega | exact zB_R _) (fun c57 => ?_) (fun c57 => ?_)
          · have hcf := zB_ne c57
            obtain ⟨t1, t2, t3, t4, t5, t6, t7, t8, t9⟩ := canF_t hA.1.1 hcf
            have hm : refAF r u x = 0 := by unfold refAF; rw [e, e2]; simp only [Bool.and_self, if_true]; rw [if_pos ⟨c36, by omega, hcf⟩]
            have hun : uoN r x = unitOnF r x := by unfold uoN; rw [if_neg t1]
            obtain ⟨w, hw⟩ : ∃ w, w = unitOnF r x := ⟨_, rfl⟩
            have hfR : fightsR r u x = defL r u w x := by unfold fightsR defL; rw [hw]
            have hAA := powF_R hA.1.1 (x := x) (u := u) ⟨u0, u2⟩
            have hDD := defF_R hA.1.1 (u := w) (by omega)
            have hw1 := ofF_R hA.1.1 (u := w) (w := 1) (by omega) (by decide)
            rw [← hw] at t2 t3 t4 t5 t6 t8 t9 hun
            have haL : 0 ≤ attL r u w x ∧ attL r u w x < 1000 := by
              unfold attL
              split
              · omega
              · exact weakF_R hA.1.1 ⟨u0, u2⟩ (by omega)
            have hdL : 0 ≤ defL r u w x ∧ defL r u w x < 1000 := by
              unfold defL
              split
              · exact weakF_R hA.1.1 ⟨t2, t4⟩ (by omega)
              · omega
            refine ZW.aload_n dX7_strike_63 rfl ?_
            refine ZW.getR dX7_strike_64 fl_X7_21 ⟨_, rfl, rfl⟩ ?_
            refine ZW.getR dX7_strike_67 fl_X7_196 ⟨_, rfl, rfl⟩ ?_
            refine ZW.iload_n dX7_strike_70 rfl ?_
            refine ZW.iald dX7_strike_71 rfl (by decide) (by omega) rfl ?_
            rw [(st_x hS hxr).2.2.2, hun]
            refine ZW.istore_n dX7_strike_72 (by decide) rfl ?_
            refine ZW.aload_n dX7_strike_73 rfl ?_
            refine ZW.getR dX7_strike_74 fl_X7_64 ⟨_, rfl, rfl⟩ ?_
            refine ZW.aload_n dX7_strike_77 rfl ?_
            refine ZW.getR dX7_strike_78 fl_X7_21 ⟨_, rfl, rfl⟩ ?_
            refine ZW.iload_n dX7_strike_81 rfl ?_
            refine ZW.iload_n dX7_strike_82 rfl ?_
            refine ZW.callVv (as := [_, _, _]) dX7_strike_83 cv_X7_199 ⟨_, rfl⟩ rfl (by decide) (Nat.le_of_ble_eq_true rfl) rfl (fun _ _ hz _ => hz) (c_X1_weigh _ hA hS hb ⟨u0, u1⟩ u3 ⟨t2, t3⟩ t8 hxr t9 t7) (fun g2 ⟨f2, p2, p3, p4, p5⟩ => ?_)
            have S2 := hS.fr f2 (by decide)
            refine ZW.aload_n dX7_strike_86 rfl ?_
            refine ZW.getR dX7_strike_87 fl_X7_21 ⟨_, rfl, rfl⟩ ?_
            refine ZW.getR dX7_strike_90 fl_X7_190 ⟨_, rfl, rfl⟩ ?_
            refine ZW.iload_n dX7_strike_93 rfl ?_
            refine ZW.dup2 dX7_strike_94 ?_
            refine ZW.iald dX7_strike_95 rfl (by decide) (by omega) rfl ?_
            rw [((st_u S2 u0 u1).2.2.2.2 u3).2]
            refine ZW.iconst dX7_strike_96 ?_
            refine ZW.isub dX7_strike_97 ?_
            refine ZW.iast dX7_strike_98 rfl (by decide) (by omega) ?_
            rw [show ofF r u 4 - 1 = 0 by omega]
            have S3 : StN (zSet g2 13 u 0) (layF r u 4 0) := StF.lay4 S2 u0
            have A3 := okA_lay hA (u := u) (w := 4) (v := 0) ⟨u0, u2⟩ (by decide) (by decide) (fun q => absurd q (by decide)) (fun q => absurd q (by decide)) (fun q => absurd q (by decide)) (by decide)
            have f3 : frA g1 (zSet g2 13 u 0) := (frA.of f2 (by decide)).tr (frA.of ((zFr.rf [13] _).set (by decide) _ _) (by decide))
            have e3 : (zSet g2 13 u 0) 99 = g2 99 := rfl
            generalize zSet g2 13 u 0 = g3 at S3 f3 e3 ⊢
            have n3 : layF r u 4 0 192 = r 192 := layF_192 u0 (by decide) (by decide)
            have o31 : ∀ z, ofF (layF r u 4 0) z 1 = ofF r z 1 := fun z => layF_ne (by decide) (by decide) (Or.inr (by decide))
            have o32 : ∀ z, ofF (layF r u 4 0) z 2 = ofF r z 2 := fun z => layF_ne (by decide) (by decide) (Or.inr (by decide))
            refine ZW.aload_n dX7_strike_99 rfl ?_
            refine ZW.getR dX7_strike_100 fl_X7_21 ⟨_, rfl, rfl⟩ ?_
            refine ZW.iload_n dX7_strike_103 rfl ?_
            refine ZW.aload_n dX7_strike_104 rfl ?_
            refine ZW.getR dX7_strike_105 fl_X7_64 ⟨_, rfl, rfl⟩ ?_
            refine ZW.getI (fz := 4) dX7_strike_108 fl_X7_203 ⟨_, rfl, rfl⟩ rfl rfl ?_
            rw [e3, p4]
            refine ZW.callVv (as := [_, _]) dX7_strike_111 cv_X7_206 ⟨_, rfl⟩ rfl (by decide) (Nat.le_of_ble_eq_true rfl) rfl (fun _ _ hz _ => hz) (c_X4_setStrength _ A3 S3 ⟨u0, by rw [n3]; exact u1⟩ (by rw [o31]; exact u3) haL) (fun g4 ⟨f4, S4⟩ => ?_)
            have A4 := okA_lay A3 (u := u) (w := 1) (v := attL r u w x) ⟨u0, u2⟩ (by decide) haL (fun q => absurd q (by decide)) (fun q => absurd q (by decide)) (fun _ => Or.inr (by rw [o31]; exact u3)) (by decide)
            have n4 : layF (layF r u 4 0) u 1 (attL r u w x) 192 = r 192 := (layF_192 u0 (by decide) (by decide)).trans n3
            have o41 : ∀ z, z ≠ u → ofF (layF (layF r u 4 0) u 1 (attL r u w x)) z 1 = ofF r z 1 := fun z hz => (layF_ne (by decide) (by decide) (Or.inl hz)).trans (o31 z)
            have o42 : ∀ z, ofF (layF (layF r u 4 0) u 1 (attL r u w x)) z 2 = ofF r z 2 := fun z => (layF_ne (by decide) (by decide) (Or.inr (by decide))).trans (o32 z)
            have e4 : g4 99 = g2 99 := (f4 99 (by decide)).trans e3
            refine ZW.aload_n dX7_strike_114 rfl ?_
            refine ZW.getR dX7_strike_115 fl_X7_21 ⟨_, rfl, rfl⟩ ?_
            refine ZW.iload_n dX7_strike_118 rfl ?_
            refine ZW.aload_n dX7_strike_119 rfl ?_
            refine ZW.getR dX7_strike_120 fl_X7_64 ⟨_, rfl, rfl⟩ ?_
            refine ZW.getI (fz := 5) dX7_strike_123 fl_X7_209 ⟨_, rfl, rfl⟩ rfl rfl ?_
            rw [e4, p5]
            refine ZW.callVv (as := [_, _]) dX7_strike_126 cv_X7_206 ⟨_, rfl⟩ rfl (by decide) (Nat.le_of_ble_eq_true rfl) rfl (fun _ _ hz _ => hz) (c_X4_setStrength _ A4 S4 ⟨t2, by rw [n4]; exact t3⟩ (by rw [o41 w t6]; exact t8) hdL) (fun g5 ⟨f5, S5⟩ => ?_)
            have A5 := okA_lay A4 (u := w) (w := 1) (v := defL r u w x) ⟨t2, t4⟩ (by decide) hdL (fun q => absurd q (by decide)) (fun q => absurd q (by decide)) (fun _ => Or.inr (by rw [o41 w t6]; exact t8)) (by decide)
            have e5 : g5 99 = g2 99 := (f5 99 (by decide)).trans e4
            have n5 : layF (layF (layF r u 4 0) u 1 (attL r u w x)) w 1 (defL r u w x) 192 = r 192 := (layF_192 t2 (by decide) (by decide)).trans n4
            have F5 : frA g1 g5 := (f3.tr (frA.of f4 (by decide))).tr (frA.of f5 (by decide))
            have E1 : defF r w < powF r u x → layF (layF (layF r u 4 0) u 1 (attL r u w x)) w 1 (defL r u w x) = layF (layF r u 4 0) w 1 (weakF r w (powF r u x - defF r w)) := fun q => by
              have a1 : attL r u w x = ofF r u 1 := by unfold attL; rw [if_pos q]
              have a2 : defL r u w x = weakF r w (powF r u x - defF r w) := by unfold defL; rw [if_pos q]
              have a3 : layF (layF r u 4 0) u 1 (ofF r u 1) = layF r u 4 0 := zUp_id (o31 u)
              rw [a1, a2, a3]
            have E2 : ¬ defF r w < powF r u x → layF (layF (layF r u 4 0) u 1 (attL r u w x)) w 1 (defL r u w x) = layF (layF r u 4 0) u 1 (weakF r u (defF r w - powF r u x)) := fun q => by
              have a1 : attL r u w x = weakF r u (defF r w - powF r u x) := by unfold attL; rw [if_neg q]
              have a2 : defL r u w x = ofF r w 1 := by unfold defL; rw [if_neg q]
              have a3 : layF (layF (layF r u 4 0) u 1 (attL r u w x)) w 1 (ofF r w 1) = layF (layF r u 4 0) u 1 (attL r u w x) := zUp_id (o41 w t6)
              rw [a2, a3, a1]
            refine ZW.aload_n dX7_strike_129 rfl ?_
            refine ZW.getR dX7_strike_130 fl_X7_64 ⟨_, rfl, rfl⟩ ?_
            refine ZW.getI (fz := 5) dX7_strike_133 fl_X7_209 ⟨_, rfl, rfl⟩ rfl rfl ?_
            rw [e5, p5]
            have done : ∀ g6 : ZH, frA g1 g6 → g6 99 = g2 99 → StN g6 (fightsF r u x) → ZW 5 mX7_strike 148 [some (.inr 0), some (.inl u), some (.inl x), some (.inl w)] [] g6 (fun v g' => v = attV r u x ∧ frA g1 g' ∧ (refAF r u x = 0 → StN g' (fightsF r u x)) ∧ (refAF r u x ≠ 0 → StN g' r)) := by
              intro g6 F6 e6 S6
              refine ZW.aload_n dX7_strike_148 rfl ?_
              refine ZW.getR dX7_strike_149 fl_X7_64 ⟨_, rfl, rfl⟩ ?_
              refine ZW.getI (fz := 5) dX7_strike_152 fl_X7_209 ⟨_, rfl, rfl⟩ rfl rfl ?_
              rw [e6, p5]
              refine ZW.ireti dX7_strike_155 rfl ?_
              exact ⟨by unfold attV; rw [if_pos hm, hfR], F6, fun _ => S6, fun q => absurd hm q⟩
            refine ZW.if_ne (tgt := 148) dX7_strike_136 (by decide) (by first | omega | exact zB_R _) (fun c136 => ?_) (fun c136 => ?_)
            · refine done g5 F5 e5 ?_
              by_cases q : defF r w < powF r u x
              · have a2 : defL r u w x = weakF r w (powF r u x - defF r w) := by unfold defL; rw [if_pos q]
                have : fightsF r u x = layF (layF r u 4 0) w 1 (weakF r w (powF r u x - defF r w)) := by unfold fightsF; rw [← hw, if_pos q, if_neg (by rw [← a2]; exact c136)]
                rw [this, ← E1 q]
                exact S5
              · have : fightsF r u x = layF (layF r u 4 0) u 1 (weakF r u (defF r w - powF r u x)) := by unfold fightsF; rw [← hw, if_neg q]
                rw [this, ← E2 q]
                exact S5
            · have q : defF r w < powF r u x := Classical.byContradiction (fun q => by
                have a2 : defL r u w x = ofF r w 1 := by unfold defL; rw [if_neg q]
                omega)
              have a1 : attL r u w x = ofF r u 1 := by unfold attL; rw [if_pos q]
              have a2 : defL r u w x = weakF r w (powF r u x - defF r w) := by unfold defL; rw [if_pos q]
              have ul : ofF (layF (layF (layF r u 4 0) u 1 (attL r u w x)) w 1 (defL r u w x)) u 1 = ofF r u 1 := by rw [layF_ne (by decide) (by decide) (Or.inl (fun z => t6 z.symm)), layF_same, a1]
              have hn : ∀ z, 0 ≤ z → z < layF (layF (layF r u 4 0) u 1 (attL r u w x)) w 1 (defL r u w x) 192 → z ≠ u → ¬ (0 < ofF (layF (layF (layF r u 4 0) u 1 (attL r u w x)) w 1 (defL r u w x)) z 1 ∧ ofF (layF (layF (layF r u 4 0) u 1 (attL r u w x)) w 1 (defL r u w x)) z 2 = x) := fun z z0 z1 zn hz => by
                rw [n5] at z1
                rw [layF_ne (w2 := 2) (by decide) (by decide) (Or.inr (by decide)), o42] at hz
                by_cases q3 : z = w
                · rw [q3, layF_same, c136] at hz
                  exact absurd hz.1 (by decide)
                · rw [layF_ne (by decide) (by decide) (Or.inl q3), o41 z zn] at hz
                  exact q3 (hA.2.1 z w z0 z1 t2 t3 hz.1 t8 (hz.2.trans t9.symm))
              have hun5 : u < layF (layF (layF r u 4 0) u 1 (attL r u w x)) w 1 (defL r u w x) 192 := by rw [n5]; exact u1
              refine ZW.aload_n dX7_strike_139 rfl ?_
              refine ZW.getR dX7_strike_140 fl_X7_21 ⟨_, rfl, rfl⟩ ?_
              refine ZW.iload_n dX7_strike_143 rfl ?_
              refine ZW.iload_n dX7_strike_144 rfl ?_
              refine ZW.callVv (as := [_, _]) dX7_strike_145 cv_X7_186 ⟨_, rfl⟩ rfl (by decide) (Nat.le_of_ble_eq_true rfl) rfl (fun _ _ hz _ => hz) (c_X4_shift _ A5 S5 ⟨u0, hun5⟩ (by rw [ul]; exact u3) hxr hn) (fun g6 ⟨f6, S6⟩ => ?_)
              refine done g6 (F5.tr (frA.of f6 (by decide))) ((f6 99 (by decide)).trans e5) ?_
              have : fightsF r u x = standsF (layF (layF r u 4 0) w 1 (weakF r w (powF r u x - defF r w))) u x := by unfold fightsF; rw [← hw, if_pos q, if_pos (by rw [← a2]; exact c136)]
              rw [this, ← E1 q]
              exact S6
          · exact no2 (fun q => by rw [zB_eq c57] at q; exact absurd q.2.2 (by decide))
    · have e2 := zB_eq c15
      refine ZW.iconst dX7_strike_18 ?_
      refine ZW.ireti dX7_strike_19 rfl ?_
      exact no (-1) _ (by unfold refAF; rw [e, e2]; rfl) (by decide) (frA.rf _) hS
