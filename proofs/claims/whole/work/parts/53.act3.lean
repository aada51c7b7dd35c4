-- the class: the end of a turn
noncomputable def eo1 (r : Int → Int) (u : Int) : Int := if ownB r u then e1F r u else ofF r u 1
noncomputable def eo5 (r : Int → Int) (u : Int) : Int := if ownB r u then e5F r u else ofF r u 5
noncomputable def dead (r : Int → Int) (u : Int) : Bool := ownB r u && decide (e1F r u = 0)
noncomputable def uK (r : Int → Int) (k x : Int) : Int := if unitOnF r x ≠ -5 ∧ unitOnF r x < k ∧ dead r (unitOnF r x) = true then -1 else uoN r x
theorem uK_no {r : Int → Int} {k x : Int} (h : dead r k = false) : uK r (k + 1) x = uK r k x := by
  unfold uK
  by_cases q : unitOnF r x = k
  · rw [q, if_neg (fun z => by rw [h] at z; exact absurd z.2.2 (by decide)), if_neg (fun z => by omega)]
  · by_cases q2 : unitOnF r x ≠ -5 ∧ unitOnF r x < k ∧ dead r (unitOnF r x) = true
    · rw [if_pos q2, if_pos ⟨q2.1, by omega, q2.2.2⟩]
    · rw [if_neg q2, if_neg (fun z => q2 ⟨z.1, by omega, z.2.2⟩)]
theorem uK_yes {r : Int → Int} (hA : okA r) {k x : Int} (h0 : 0 ≤ k) (h1 : k < r 192) (hl : 0 < ofF r k 1) (h : dead r k = true) : uK r (k + 1) x = zUp (uK r k) (ofF r k 2) (-1) x := by
  by_cases q : x = ofF r k 2
  · rw [q, zUp_same]
    unfold uK
    rw [stand_on hA h0 h1 hl, if_pos ⟨by omega, by omega, h⟩]
  · rw [zUp_ne _ _ q]
    unfold uK
    have hne : unitOnF r x ≠ k := fun z => by
      rcases unitOnF_R hA.1.1 x with y | y
      · omega
      · rw [z] at y; exact q y.2.2.2.2.symm
    by_cases q2 : unitOnF r x ≠ -5 ∧ unitOnF r x < k ∧ dead r (unitOnF r x) = true
    · rw [if_pos q2, if_pos ⟨q2.1, by omega, q2.2.2⟩]
    · rw [if_neg q2, if_neg (fun z => q2 ⟨z.1, by omega, z.2.2⟩)]
def stvP (r : Int → Int) (g g1 : ZH) (k : Int) : Prop := zFr [7, 10, 14] g g1 ∧ (∀ z, 0 ≤ z → z < k → g1 10 z = eo1 r z ∧ g1 14 z = eo5 r z) ∧ (∀ z, k ≤ z → z < r 192 → g1 10 z = ofF r z 1 ∧ g1 14 z = ofF r z 5) ∧ ∀ x, 0 ≤ x → x < 63 → g1 7 x = uK r k x
theorem stvP.next {r : Int → Int} {g g1 g2 : ZH} {k : Int} (h : stvP r g g1 k) (hk : 0 ≤ k) (hf : zFr [7, 10, 14] g1 g2) (h1 : ∀ z, z ≠ k → g2 10 z = g1 10 z ∧ g2 14 z = g1 14 z) (h2 : g2 10 k = eo1 r k ∧ g2 14 k = eo5 r k) (h3 : ∀ x, 0 ≤ x → x < 63 → g2 7 x = uK r (k + 1) x) : stvP r g g2 (k + 1) := by
  refine ⟨h.1.tr hf, fun z z0 z1 => ?_, fun z z0 z1 => ?_, h3⟩
  · by_cases q : z = k
    · rw [q]; exact h2
    · rw [(h1 z q).1, (h1 z q).2]; exact h.2.1 z z0 (by omega)
  · rw [(h1 z (by omega)).1, (h1 z (by omega)).2]; exact h.2.2.1 z (by omega) z1
set_option maxRecDepth 100000 in
set_option maxHeartbeats 1000000 in
theorem c_X7_starve (g : ZH) {r : Int → Int} (hA : okA r) (hS : StN g r) (hb : BdN g) {side : Int} (hs : side = r 191 % 2) : ZC 4 mX7_starve [.inr 0, .inl side] g (fun v g' => v = endsR r ∧ zFr [7, 10, 14, 97, 98] g g' ∧ ∃ g0, zFr [97, 98] g g0 ∧ stvP r g0 g' (r 192)) := by
  have h16 := hA.1.1.2
  have h192 := hA.1.1.1 192 (by decide) (by decide)
  have hs01 : side = 0 ∨ side = 1 := by omega
  refine ZC.of (by decide +kernel) (Nat.le_of_ble_eq_true rfl) ?_
  refine ZW.aload_n dX7_starve_0 rfl ?_
  refine ZW.getR dX7_starve_1 fl_X7_55 ⟨_, rfl, rfl⟩ ?_
  refine ZW.aload_n dX7_starve_4 rfl ?_
  refine ZW.getR dX7_starve_5 fl_X7_21 ⟨_, rfl, rfl⟩ ?_
  refine ZW.iload_n dX7_starve_8 rfl ?_
  refine ZW.callVv (as := [_, _]) dX7_starve_9 cv_X7_224 ⟨_, rfl⟩ rfl (by decide) (Nat.le_of_ble_eq_true rfl) rfl (fun _ _ hz _ => hz) (c_X5_measure _ hA hS hb hs01) (fun g0 ⟨f0, w0⟩ => ?_)
  have S0 := hS.fr f0 (by decide)
  have loop : ∀ (n : Nat) (k acc : Int) (g1 : ZH), 0 ≤ k → k + n = r 192 → stvP r g0 g1 k → acc + goneF r n k = endsR r → ZW 4 mX7_starve 16 [some (.inr 0), some (.inl side), some (.inl acc), some (.inl k)] [] g1 (fun v g' => v = endsR r ∧ zFr [7, 10, 14, 97, 98] g g' ∧ ∃ g0, zFr [97, 98] g g0 ∧ stvP r g0 g' (r 192)) := by
    intro n
    induction n with
    | zero =>
      intro k acc g1 k0 hn hP hg
      have hk : k = r 192 := by omega
      have e3 : g1 3 6 = r 192 := by rw [hP.1 3 (by decide)]; exact S0.2.2.1.1
      refine ZW.iload_n dX7_starve_16 rfl ?_
      refine ZW.aload_n dX7_starve_17 rfl ?_
      refine ZW.getR dX7_starve_18 fl_X7_21 ⟨_, rfl, rfl⟩ ?_
      refine ZW.getI (fz := 6) dX7_starve_21 fl_X7_120 ⟨_, rfl, rfl⟩ rfl rfl ?_
      rw [e3]
      refine ZW.icmp_ge (tgt := 144) dX7_starve_24 (by decide) (by first | omega | exact zB_R _) (by first | omega | exact zB_R _) (fun c24 => ?_) (fun c24 => ?_)
      · refine ZW.iload_n dX7_starve_144 rfl ?_
        refine ZW.ireti dX7_starve_145 rfl ?_
        refine ⟨?_, (f0.up (by decide)).tr (hP.1.up (by decide)), g0, f0, hk ▸ hP⟩
        rw [← hg]
        show acc = acc + 0
        omega
      · exact absurd c24 (by omega)
    | succ n ih =>
      intro k acc g1 k0 hn hP hg
      have k1 : k < r 192 := by omega
      have e3 : g1 3 6 = r 192 := by rw [hP.1 3 (by decide)]; exact S0.2.2.1.1
      have e9 : g1 9 = g0 9 := hP.1 9 (by decide)
      have e11 : g1 11 = g0 11 := hP.1 11 (by decide)
      have e97 : g1 97 = g0 97 := hP.1 97 (by decide)
      have hst := st_u S0 k0 k1
      have hU := hA.1.2.1 k k0 (by omega)
      have hR1 := ofF_R hA.1.1 (u := k) (w := 1) (by omega) (by decide)
      have hR5 := ofF_R hA.1.1 (u := k) (w := 5) (by omega) (by decide)
      have hT := hA.1.2.2.1 k k0 (by omega)
      have hT2 := hA.1.2.2.2
      have hk10 := hP.2.2.1 k (by omega) k1
      have hg2 : goneF r (n + 1) k = zB (dead r k) + goneF r n (k + 1) := rfl
      rw [hg2] at hg
      have on : decide (0 < g1 10 k ∧ g1 9 k = side) = ownB r k := by unfold ownB; rw [hk10.1, e9, hst.1, hs]
      have next : ∀ (acc2 : Int) (g2 : ZH), stvP r g0 g2 (k + 1) → acc2 + goneF r n (k + 1) = endsR r → ZW 4 mX7_starve 138 [some (.inr 0), some (.inl side), some (.inl acc2), some (.inl k)] [] g2 (fun v g' => v = endsR r ∧ zFr [7, 10, 14, 97, 98] g g' ∧ ∃ g0, zFr [97, 98] g g0 ∧ stvP r g0 g' (r 192)) := by
        intro acc2 g2 hP2 hg3
        refine ZW.iinc dX7_starve_138 rfl (by decide) rfl ?_
        refine ZW.goto (tgt := 16) dX7_starve_141 (by decide) ?_
        exact ih (k + 1) acc2 g2 (by omega) (by omega) hP2 hg3
      refine ZW.iload_n dX7_starve_16 rfl ?_
      refine ZW.aload_n dX7_starve_17 rfl ?_
      refine ZW.getR dX7_starve_18 fl_X7_21 ⟨_, rfl, rfl⟩ ?_
      refine ZW.getI (fz := 6) dX7_starve_21 fl_X7_120 ⟨_, rfl, rfl⟩ rfl rfl ?_
      rw [e3]
      refine ZW.icmp_ge (tgt := 144) dX7_starve_24 (by decide) (by first | omega | exact zB_R _) (by first | omega | exact zB_R _) (fun c24 => ?_) (fun c24 => ?_)
      · exact absurd c24 (by omega)
      · refine ZW.aload_n dX7_starve_27 rfl ?_
        refine ZW.getR dX7_starve_28 fl_X7_21 ⟨_, rfl, rfl⟩ ?_
        refine ZW.iload_n dX7_starve_31 rfl ?_
        refine ZW.iload_n dX7_starve_32 rfl ?_
        refine ZW.callV (as := [_, _]) dX7_starve_33 cv_X7_225 ⟨_, rfl⟩ rfl (by decide) (Nat.le_of_ble_eq_true rfl) rfl (c_X4_isUnitOfR _ e3 (by omega) ⟨k0, k1⟩ (by rw [hk10.1]; omega) (by rw [e9, hst.1]; omega) (by omega)) (fun v1 g2 ⟨q1, q2⟩ => ?_)
        subst q1; subst q2
        rw [on]
        refine ZW.if_ne (tgt := 42) dX7_starve_36 (by decide) (by first | omega | exact zB_R _) (fun c36 => ?_) (fun c36 => ?_)
        · have e := zB_ne c36
          have hal := of_decide_eq_true e
          have hsup : decide (spC r side (ofF r k 2) ≠ 1000) = supB r k := by rw [hs, ← hal.2]; exact spC_b hA k0 k1 hal.1
          have hsR := spC_R r side (ofF r k 2)
          have ew : g2 97 (ofF r k 2) = spC r side (ofF r k 2) := by rw [e97]; exact w0 _ hU.2.1 hU.2.2
          refine ZW.aload_n dX7_starve_42 rfl ?_
          refine ZW.getR dX7_starve_43 fl_X7_55 ⟨_, rfl, rfl⟩ ?_
          refine ZW.aload_n dX7_starve_46 rfl ?_
          refine ZW.getR dX7_starve_47 fl_X7_21 ⟨_, rfl, rfl⟩ ?_
          refine ZW.getR dX7_starve_50 fl_X7_171 ⟨_, rfl, rfl⟩ ?_
          refine ZW.iload_n dX7_starve_53 rfl ?_
          refine ZW.iald dX7_starve_54 rfl (by decide) (by omega) rfl ?_
          rw [e11, hst.2.2.1]
          refine ZW.callV (as := [_]) dX7_starve_55 cv_X7_228 ⟨_, rfl⟩ rfl (by decide) (Nat.le_of_ble_eq_true rfl) rfl (c_X5_reaches _ hU.2 (by rw [ew]; omega)) (fun v1 g3 ⟨q1, q2⟩ => ?_)
          subst q1; subst q2
          rw [ew, hsup]
          refine ZW.if_eq (tgt := 74) dX7_starve_58 (by decide) (by first | omega | exact zB_R _) (fun c58 => ?_) (fun c58 => ?_)
          · have e2 := zB_eq c58
            have x5 : e5F r k = ofF r k 5 + 1 := by unfold e5F strvB; rw [e, e2]; rfl
            have o5 : eo5 r k = ofF r k 5 + 1 := by unfold eo5; rw [e, if_pos rfl, x5]
            refine ZW.aload_n dX7_starve_74 rfl ?_
            refine ZW.getR dX7_starve_75 fl_X7_21 ⟨_, rfl, rfl⟩ ?_
            refine ZW.getR dX7_starve_78 fl_X7_231 ⟨_, rfl, rfl⟩ ?_
            refine ZW.iload_n dX7_starve_81 rfl ?_
            refine ZW.dup2 dX7_starve_82 ?_
            refine ZW.iald dX7_starve_83 rfl (by decide) (by omega) rfl ?_
            rw [hk10.2]
            refine ZW.iconst dX7_starve_84 ?_
            refine ZW.iadd dX7_starve_85 ?_
            refine ZW.iast dX7_starve_86 rfl (by decide) (by omega) ?_
            refine ZW.aload_n dX7_starve_87 rfl ?_
            refine ZW.getR dX7_starve_88 fl_X7_21 ⟨_, rfl, rfl⟩ ?_
            refine ZW.getR dX7_starve_91 fl_X7_231 ⟨_, rfl, rfl⟩ ?_
            refine ZW.iload_n dX7_starve_94 rfl ?_
            refine ZW.iald dX7_starve_95 rfl (by decide) (by omega) rfl ?_
            rw [zSet_same, zUp_same]
            refine ZW.iconst dX7_starve_96 ?_
            refine ZW.icmp_lt (tgt := 138) dX7_starve_97 (by decide) (by first | omega | exact zB_R _) (by first | omega | exact zB_R _) (fun c97 => ?_) (fun c97 => ?_)
            · have x1 : e1F r k = ofF r k 1 := by unfold e1F; rw [if_neg (by omega)]
              have o1 : eo1 r k = ofF r k 1 := by unfold eo1; rw [e, if_pos rfl, x1]
              have dd : dead r k = false := by unfold dead; rw [x1, decide_eq_false (by omega), Bool.and_false]
              refine next acc _ (hP.next k0 ((zFr.rf _ _).set (by decide) _ _) (fun z hz => ⟨rfl, ?_⟩) ⟨?_, ?_⟩ (fun x x0 x1 => ?_)) (by rw [dd, zB_f] at hg; omega)
              · rw [zSet_same, zUp_ne _ _ hz]
              · rw [o1]; exact hk10.1
              · rw [zSet_same, zUp_same, o5]
              · rw [uK_no dd]; exact hP.2.2.2 x x0 x1
            · have x1 : e1F r k = ofF r k 1 - 1 := by unfold e1F; rw [if_pos (by omega)]
              have o1 : eo1 r k = ofF r k 1 - 1 := by unfold eo1; rw [e, if_pos rfl, x1]
              have hm : maxF (ofF r k 1 - 1) 0 = ofF r k 1 - 1 := by unfold maxF; rw [if_neg (by omega)]
              have t10 : (zSet g3 14 k (ofF r k 5 + 1)) 10 k = ofF r k 1 := hk10.1
              have t11 : (zSet g3 14 k (ofF r k 5 + 1)) 11 k = ofF r k 2 := by rw [zSet_ne _ _ _ (by decide), e11]; exact hst.2.2.1
              refine ZW.aload_n dX7_starve_100 rfl ?_
              refine ZW.getR dX7_starve_101 fl_X7_21 ⟨_, rfl, rfl⟩ ?_
              refine ZW.iload_n dX7_starve_104 rfl ?_
              refine ZW.aload_n dX7_starve_105 rfl ?_
              refine ZW.getR dX7_starve_106 fl_X7_21 ⟨_, rfl, rfl⟩ ?_
              refine ZW.getR dX7_starve_109 fl_X7_234 ⟨_, rfl, rfl⟩ ?_
              refine ZW.iload_n dX7_starve_112 rfl ?_
              refine ZW.iald dX7_starve_113 rfl (by decide) (by omega) rfl ?_
              rw [t10]
              refine ZW.iconst dX7_starve_114 ?_
              refine ZW.isub dX7_starve_115 ?_
              refine ZW.callVv (as := [_, _]) dX7_starve_116 cv_X7_206 ⟨_, rfl⟩ rfl (by decide) (Nat.le_of_ble_eq_true rfl) rfl (fun _ _ hz _ => hz) (c_X4_setStrengthR _ (by omega) (by omega) (by rw [t11]; exact hU.2)) (fun g4 q4 => ?_)
              unfold stS at q4
              rw [hm, t11] at q4
              by_cases q0 : ofF r k 1 - 1 = 0
              · rw [if_pos q0, q0] at q4
                have dd : dead r k = true := by unfold dead; rw [e, x1, decide_eq_true q0]; rfl
                have s3 : g4 3 6 = r 192 := by rw [q4]; exact e3
                have s10 : g4 10 k = 0 := by rw [q4, zSet_ne _ _ _ (show 10 ≠ 7 by decide), zSet_same, zUp_same]
                refine ZW.iload_n dX7_starve_119 rfl ?_
                refine ZW.aload_n dX7_starve_120 rfl ?_
                refine ZW.getR dX7_starve_121 fl_X7_21 ⟨_, rfl, rfl⟩ ?_
                refine ZW.iload_n dX7_starve_124 rfl ?_
                refine ZW.callV (as := [_]) dX7_starve_125 cv_X7_162 ⟨_, rfl⟩ rfl (by decide) (Nat.le_of_ble_eq_true rfl) rfl (c_X4_isUnitR _ s3 (by omega) (by omega) (by rw [s10]; decide)) (fun v1 g5 ⟨q1, q2⟩ => ?_)
                subst q1; subst q2
                rw [s10]
                refine ZW.if_eq (tgt := 135) dX7_starve_128 (by decide) (by first | omega | exact zB_R _) (fun c128 => ?_) (fun c128 => ?_)
                · refine ZW.iconst dX7_starve_135 ?_
                  refine ZW.iadd dX7_starve_136 ?_
                  refine ZW.istore_n dX7_starve_137 (by decide) rfl ?_
                  refine next _ _ (hP.next k0 ?_ (fun z hz => ?_) ⟨?_, ?_⟩ (fun x x0 x1 => ?_)) (by rw [dd, zB_t] at hg; omega)
                  · rw [q4]; exact (((zFr.rf _ _).set (by decide) _ _).set (by decide) _ _).set (by decide) _ _
                  · rw [q4, zSet_ne _ _ _ (show 10 ≠ 7 by decide), zSet_same, zUp_ne _ _ hz, zSet_ne _ _ _ (show 14 ≠ 7 by decide), zSet_ne _ _ _ (show 14 ≠ 10 by decide), zSet_same, zUp_ne _ _ hz]
                    exact ⟨rfl, rfl⟩
                  · rw [s10, o1]; omega
                  · rw [q4, zSet_ne _ _ _ (show 14 ≠ 7 by decide), zSet_ne _ _ _ (show 14 ≠ 10 by decide), zSet_same, zUp_same, o5]
                  · rw [uK_yes hA k0 k1 hal.1 dd, q4, zSet_same, zSet_ne _ _ _ (show 7 ≠ 10 by decide), zSet_ne _ _ _ (show 7 ≠ 14 by decide)]
                    by_cases qx : x = ofF r k 2
                    · rw [qx, zUp_same, zUp_same]
                    · rw [zUp_ne _ _ qx, zUp_ne _ _ qx]; exact hP.2.2.2 x x0 x1
                · exact absurd (zB_ne c128) (by rw [decide_eq_false (by omega)]; decide)
              · rw [if_neg q0] at q4
                have dd : dead r k = false := by unfold dead; rw [x1, decide_eq_false q0, Bool.and_false]
                have s3 : g4 3 6 = r 192 := by rw [q4]; exact e3
                have s10 : g4 10 k = ofF r k 1 - 1 := by rw [q4, zSet_same, zUp_same]
                refine ZW.iload_n dX7_starve_119 rfl ?_
                refine ZW.aload_n dX7_starve_120 rfl ?_
                refine ZW.getR dX7_starve_121 fl_X7_21 ⟨_, rfl, rfl⟩ ?_
                refine ZW.iload_n dX7_starve_124 rfl ?_
                refine ZW.callV (as := [_]) dX7_starve_125 cv_X7_162 ⟨_, rfl⟩ rfl (by decide) (Nat.le_of_ble_eq_true rfl) rfl (c_X4_isUnitR _ s3 (by omega) (by omega) (by rw [s10]; omega)) (fun v1 g5 ⟨q1, q2⟩ => ?_)
                subst q1; subst q2
                rw [s10]
                refine ZW.if_eq (tgt := 135) dX7_starve_128 (by decide) (by first | omega | exact zB_R _) (fun c128 => ?_) (fun c128 => ?_)
                · exact absurd (zB_eq c128) (by rw [decide_eq_true (by omega)]; decide)
                · refine ZW.iconst dX7_starve_131 ?_
                  refine ZW.goto (tgt := 136) dX7_starve_132 (by decide) ?_
                  refine ZW.iadd dX7_starve_136 (ZW.top (Int.add_zero _) ?_)
                  refine ZW.istore_n dX7_starve_137 (by decide) rfl ?_
                  refine next _ _ (hP.next k0 ?_ (fun z hz => ?_) ⟨?_, ?_⟩ (fun x x0 x1 => ?_)) (by rw [dd, zB_f] at hg; omega)
                  · rw [q4]; exact ((zFr.rf _ _).set (by decide) _ _).set (by decide) _ _
                  · rw [q4, zSet_same, zUp_ne _ _ hz, zSet_ne _ _ _ (show 14 ≠ 10 by decide), zSet_same, zUp_ne _ _ hz]
                    exact ⟨rfl, rfl⟩
                  · rw [s10, o1]
                  · rw [q4, zSet_ne _ _ _ (show 14 ≠ 10 by decide), zSet_same, zUp_same, o5]
                  · rw [uK_no dd, q4]; exact hP.2.2.2 x x0 x1
          · have e2 := zB_ne c58
            have x5 : e5F r k = 0 := by unfold e5F strvB; rw [e, e2]; rfl
            have x1 : e1F r k = ofF r k 1 := by unfold e1F; rw [if_neg (by omega)]
            have o5 : eo5 r k = 0 := by unfold eo5; rw [e, if_pos rfl, x5]
            have o1 : eo1 r k = ofF r k 1 := by unfold eo1; rw [e, if_pos rfl, x1]
            have dd : dead r k = false := by unfold dead; rw [x1, decide_eq_false (by omega), Bool.and_false]
            refine ZW.aload_n dX7_starve_61 rfl ?_
            refine ZW.getR dX7_starve_62 fl_X7_21 ⟨_, rfl, rfl⟩ ?_
            refine ZW.getR dX7_starve_65 fl_X7_231 ⟨_, rfl, rfl⟩ ?_
            refine ZW.iload_n dX7_starve_68 rfl ?_
            refine ZW.iconst dX7_starve_69 ?_
            refine ZW.iast dX7_starve_70 rfl (by decide) (by omega) ?_
            refine ZW.goto (tgt := 138) dX7_starve_71 (by decide) ?_
            refine next acc _ (hP.next k0 ((zFr.rf _ _).set (by decide) _ _) (fun z hz => ⟨rfl, ?_⟩) ⟨?_, ?_⟩ (fun x x0 x1 => ?_)) (by rw [dd, zB_f] at hg; omega)
            · rw [zSet_same, zUp_ne _ _ hz]
            · rw [o1]; exact hk10.1
            · rw [zSet_same, zUp_same, o5]
            · rw [uK_no dd]; exact hP.2.2.2 x x0 x1
        · have e := zB_eq c36
          have dd : dead r k = false := by unfold dead; rw [e]; rfl
          refine ZW.goto (tgt := 138) dX7_starve_39 (by decide) ?_
          refine next acc _ (hP.next k0 (zFr.rf _ _) (fun z hz => ⟨rfl, rfl⟩) ⟨?_, ?_⟩ (fun x x0 x1 => ?_)) (by rw [dd, zB_f] at hg; omega)
          · unfold eo1; rw [e]; exact hk10.1
          · unfold eo5; rw [e]; exact hk10.2
          · rw [uK_no dd]; exact hP.2.2.2 x x0 x1
  refine ZW.iconst dX7_starve_12 ?_
  refine ZW.istore_n dX7_starve_13 (by decide) rfl ?_
  refine ZW.iconst dX7_starve_14 ?_
  refine ZW.istore_n dX7_starve_15 (by decide) rfl ?_
  refine loop (r 192).toNat 0 0 g0 (by omega) (by omega) ⟨zFr.rf _ _, fun z z0 z1 => by omega, fun z z0 z1 => ?_, fun x x0 x1 => ?_⟩ ?_
  · have := st_u S0 z0 z1
    exact ⟨this.2.1, this.2.2.2.1⟩
  · rw [(S0.1 x x0 x1).2.2.2]
    unfold uK
    rw [if_neg (fun q => by have := (unitOnF_R hA.1.1 x).resolve_left q.1; omega)]
  · rw [Int.zero_add]; rfl
