-- the class: the end of a turn, laid together
theorem eN_1 (r : Int → Int) (u : Int) : eN r u 1 = eo1 r u := by
  unfold eN eo1
  split
  · rw [if_neg (by decide), if_pos rfl]
  · split
    · rfl
    · rw [if_neg (by decide), if_neg (by decide)]
theorem eN_5 (r : Int → Int) (u : Int) : eN r u 5 = eo5 r u := by
  unfold eN eo5
  split
  · rw [if_pos rfl]
  · split
    · rfl
    · rw [if_neg (by decide), if_neg (by decide)]
theorem eN_34 {r : Int → Int} {u : Int} (hl : 0 < ofF r u 1) (hs : ofF r u 0 = 0 ∨ ofF r u 0 = 1) : eN r u 3 = (if ofF r u 0 = (r 191 + 1) % 2 then 4 else ofF r u 3) ∧ eN r u 4 = (if ofF r u 0 = (r 191 + 1) % 2 then 1 else ofF r u 4) := by
  unfold eN
  by_cases q : ownB r u = true
  · have h1 := (of_decide_eq_true q).2
    have h2 : ¬ ofF r u 0 = (r 191 + 1) % 2 := by omega
    refine ⟨?_, ?_⟩
    · rw [if_pos q, if_neg h2, if_neg (by decide), if_neg (by decide)]
    · rw [if_pos q, if_neg h2, if_neg (by decide), if_neg (by decide)]
  · have h1 : ¬ (ofF r u 0 = r 191 % 2) := fun z => q (decide_eq_true ⟨hl, z⟩)
    have h2 : ofF r u 0 = (r 191 + 1) % 2 := by omega
    refine ⟨?_, ?_⟩
    · rw [if_neg q, if_pos h2, if_neg h1, if_pos rfl]
    · rw [if_neg q, if_pos h2, if_neg h1, if_neg (by decide), if_pos rfl]
theorem endsF_lo {r : Int → Int} {i : Int} (hi : i < 193) (h1 : i ≠ 191) : endsF r i = r i := by
  unfold endsF
  rw [zUp_ne _ _ h1, endsG_lo hi]
theorem endsF_at {r : Int → Int} {u w : Int} (h0 : 0 ≤ u) (h1 : u < r 192) (hw : 0 ≤ w ∧ w < 6) : ofF (endsF r) u w = eN r u w := by
  have h2 := endsG_at (r := r) (k := r 192) h0 hw
  rw [if_pos h1] at h2
  rw [← h2]
  exact zUp_ne _ _ (by omega)
theorem uK_ends {r : Int → Int} (hA : okA r) (h9 : r 191 ≠ 999) {x : Int} : uK r (r 192) x = uoN (endsF r) x := by
  have hAe := okA_ends hA h9
  have h16 := hA.1.1.2
  have e192 : endsF r 192 = r 192 := endsF_lo (by decide) (by decide)
  by_cases q : unitOnF r x = -5
  · have h1 : unitOnF (endsF r) x = -5 := uo_none hAe.1.1 (fun z z0 z1 hz => by
      rw [e192] at z1
      have hR := eN_R hA h9 (u := z) ⟨z0, by omega⟩
      rw [endsF_at z0 z1 (by decide), endsF_at z0 z1 (by decide), hR.2.2.1] at hz
      exact unitOnF_no q z0 z1 ⟨hR.2.2.2.2 hz.1, hz.2⟩)
    unfold uK
    rw [if_neg (fun z => z.1 q), uoN_no q, uoN_no h1]
  · obtain ⟨a1, a2, a3, a4, a5⟩ := (unitOnF_R hA.1.1 x).resolve_left q
    have hR := eN_R hA h9 (u := unitOnF r x) ⟨a1, a3⟩
    by_cases hd : dead r (unitOnF r x) = true
    · have h1 : unitOnF (endsF r) x = -5 := uo_none hAe.1.1 (fun z z0 z1 hz => by
        rw [e192] at z1
        have hRz := eN_R hA h9 (u := z) ⟨z0, by omega⟩
        rw [endsF_at z0 z1 (by decide), endsF_at z0 z1 (by decide), hRz.2.2.1] at hz
        have hzu := hA.2.1 z _ z0 z1 a1 a2 (hRz.2.2.2.2 hz.1) a4 (hz.2.trans a5.symm)
        subst hzu
        have hz1 := hz.1
        unfold dead at hd
        rw [Bool.and_eq_true] at hd
        rw [eN_1] at hz1
        unfold eo1 at hz1
        rw [if_pos hd.1, of_decide_eq_true hd.2] at hz1
        exact absurd hz1 (by decide))
      unfold uK
      rw [if_pos ⟨q, a2, hd⟩, uoN_no h1]
    · have hl : 0 < eN r (unitOnF r x) 1 := by
        rw [eN_1]
        unfold eo1
        split
        · next ho =>
          have h3 : e1F r (unitOnF r x) ≠ 0 := fun z => hd (by unfold dead; rw [ho, decide_eq_true z]; rfl)
          have h4 := hR.1 1 (by decide) (by decide)
          rw [eN_1] at h4
          unfold eo1 at h4
          rw [if_pos ho] at h4
          omega
        · exact a4
      have h1 := uoN_on hAe (u := unitOnF r x) a1 (by rw [e192]; exact a2) (by rw [endsF_at a1 a2 (by decide)]; exact hl)
      rw [endsF_at a1 a2 (by decide), hR.2.2.1, a5] at h1
      unfold uK
      rw [if_neg (fun z => hd z.2.2), h1]
      unfold uoN
      rw [if_neg q]
theorem c_X4_sideInTurnR (g : ZH) {t : Int} (ht : g 3 13 = t) (h0 : 0 ≤ t ∧ t < 2000) : ZC 0 mX4_sideInTurn [.inr 3] g (fun v g' => v = t % 2 ∧ g' = g) := by
  refine ZC.of (by decide +kernel) (Nat.le_of_ble_eq_true rfl) ?_
  refine ZW.aload_n dX4_sideInTurn_0 rfl ?_
  refine ZW.getI (fz := 13) dX4_sideInTurn_1 fl_X4_65 ⟨_, rfl, rfl⟩ rfl rfl ?_
  rw [ht]
  refine ZW.iconst dX4_sideInTurn_4 ?_
  refine ZW.irem dX4_sideInTurn_5 (by omega) ?_
  refine ZW.ireti dX4_sideInTurn_6 rfl ?_
  exact ⟨rfl, rfl⟩
set_option maxHeartbeats 1000000 in
theorem c_X7_finishTurn (g : ZH) {r : Int → Int} (hA : okA r) (hS : StN g r) (hb : BdN g) : ZC 5 mX7_finishTurn [.inr 0] g (fun v g' => v = endV r ∧ frA g g' ∧ (r 191 ≠ 999 → StN g' (endsF r)) ∧ (r 191 = 999 → StN g' r)) := by
  have h16 := hA.1.1.2
  have h192 := hA.1.1.1 192 (by decide) (by decide)
  have h191 := hA.1.1.1 191 (by decide) (by decide)
  have hT := hA.1.2.2.2
  have e13 : g 3 13 = r 191 := hS.2.2.1.2
  refine ZC.of (by decide +kernel) (Nat.le_of_ble_eq_true rfl) ?_
  refine ZW.aload_n dX7_finishTurn_0 rfl ?_
  refine ZW.getR dX7_finishTurn_1 fl_X7_21 ⟨_, rfl, rfl⟩ ?_
  refine ZW.getI (fz := 13) dX7_finishTurn_4 fl_X7_215 ⟨_, rfl, rfl⟩ rfl rfl ?_
  rw [e13]
  refine ZW.sipush dX7_finishTurn_7 rfl ?_
  refine ZW.icmp_lt (tgt := 16) dX7_finishTurn_10 (by decide) (by first | omega | exact zB_R _) (by first | omega | exact zB_R _) (fun c10 => ?_) (fun c10 => ?_)
  · have h9 : r 191 ≠ 999 := by omega
    have hAe := okA_ends hA h9
    refine ZW.aload_n dX7_finishTurn_16 rfl ?_
    refine ZW.aload_n dX7_finishTurn_17 rfl ?_
    refine ZW.getR dX7_finishTurn_18 fl_X7_21 ⟨_, rfl, rfl⟩ ?_
    refine ZW.callV (as := []) dX7_finishTurn_21 cv_X7_168 ⟨_, rfl⟩ rfl (by decide) (Nat.le_of_ble_eq_true rfl) rfl (c_X4_sideInTurn _ hA hS) (fun v1 g1 ⟨q1, q2⟩ => ?_)
    subst q1; subst q2
    refine ZW.callV (as := [_]) dX7_finishTurn_24 cv_X7_218 ⟨_, rfl⟩ rfl (by decide) (Nat.le_of_ble_eq_true rfl) rfl (c_X7_starve _ hA hS hb rfl) (fun v1 g2 ⟨q1, f2, g0, f0, P⟩ => ?_)
    subst q1
    have S0 := hS.fr f0 (by decide)
    have e13b : g2 3 13 = r 191 := by rw [f2 3 (by decide)]; exact e13
    have e6b : g2 3 6 = r 192 := by rw [f2 3 (by decide)]; exact hS.2.2.1.1
    refine ZW.istore_n dX7_finishTurn_27 (by decide) rfl ?_
    refine ZW.aload_n dX7_finishTurn_28 rfl ?_
    refine ZW.getR dX7_finishTurn_29 fl_X7_21 ⟨_, rfl, rfl⟩ ?_
    refine ZW.dup dX7_finishTurn_32 ?_
    refine ZW.getI (fz := 13) dX7_finishTurn_33 fl_X7_215 ⟨_, rfl, rfl⟩ rfl rfl ?_
    rw [e13b]
    refine ZW.iconst dX7_finishTurn_36 ?_
    refine ZW.iadd dX7_finishTurn_37 ?_
    refine ZW.puti (fz := 13) dX7_finishTurn_38 fp_X7_215 ⟨_, rfl, rfl⟩ rfl ?_
    have t13 : (zSet g2 3 13 (r 191 + 1)) 3 13 = r 191 + 1 := by rw [zSet_same, zUp_same]
    have t6 : (zSet g2 3 13 (r 191 + 1)) 3 6 = r 192 := by rw [zSet_same, zUp_ne _ _ (by decide)]; exact e6b
    have tf : ∀ k, k ≠ 3 → (zSet g2 3 13 (r 191 + 1)) k = g2 k := fun k hk => zSet_ne _ _ _ hk
    have F3 : frA g1 (zSet g2 3 13 (r 191 + 1)) := (frA.of f2 (by decide)).tr (frA.of ((zFr.rf [3] _).set (by decide) _ _) (by decide))
    generalize zSet g2 3 13 (r 191 + 1) = g3 at t13 t6 tf F3 ⊢
    have u10 : ∀ z, 0 ≤ z → z < r 192 → g3 10 z = eN r z 1 := fun z z0 z1 => by rw [tf 10 (by decide), (P.2.1 z z0 z1).1, eN_1]
    have u9 : ∀ z, 0 ≤ z → z < r 192 → g3 9 z = ofF r z 0 := fun z z0 z1 => by rw [tf 9 (by decide), P.1 9 (by decide)]; exact (st_u S0 z0 z1).1
    have uR : ∀ z, 0 ≤ z → z < r 192 → zR (g3 10 z) ∧ zR (g3 9 z) := fun z z0 z1 => by
      have h1 := (eN_R hA h9 (u := z) ⟨z0, by omega⟩).1 1 (by decide) (by decide)
      have h2 := ofF_R hA.1.1 (u := z) (w := 0) ⟨z0, by omega⟩ (by decide)
      rw [u10 z z0 z1, u9 z z0 z1]
      exact ⟨by omega, by omega⟩
    refine ZW.aload_n dX7_finishTurn_41 rfl ?_
    refine ZW.getR dX7_finishTurn_42 fl_X7_21 ⟨_, rfl, rfl⟩ ?_
    refine ZW.aload_n dX7_finishTurn_45 rfl ?_
    refine ZW.getR dX7_finishTurn_46 fl_X7_21 ⟨_, rfl, rfl⟩ ?_
    refine ZW.callV (as := []) dX7_finishTurn_49 cv_X7_168 ⟨_, rfl⟩ rfl (by decide) (Nat.le_of_ble_eq_true rfl) rfl (c_X4_sideInTurnR _ t13 (by omega)) (fun v1 g4 ⟨q1, q2⟩ => ?_)
    subst q1; subst q2
    refine ZW.callVv (as := [_]) dX7_finishTurn_52 cv_X7_221 ⟨_, rfl⟩ rfl (by decide) (Nat.le_of_ble_eq_true rfl) rfl (fun _ _ hz _ => hz) (c_X4_refreshR _ t6 (by omega) (by omega) uR) (fun g5 ⟨f5, R⟩ => ?_)
    refine ZW.iload_n dX7_finishTurn_55 rfl ?_
    refine ZW.ireti dX7_finishTurn_56 rfl ?_
    refine ⟨by unfold endV; rw [if_neg h9], F3.tr (frA.of f5 (by decide)), fun _ => ?_, fun q => absurd q h9⟩
    have e192 : endsF r 192 = r 192 := endsF_lo (by decide) (by decide)
    have cell : ∀ k, k ≠ 3 → k ≠ 7 → k ≠ 10 → k ≠ 14 → k ≠ 12 → k ≠ 13 → g5 k = g0 k := fun k a1 a2 a3 a4 a5 a6 => by
      rw [f5 k (by simp; omega), tf k a1, P.1 k (by simp; omega)]
    refine ⟨fun x x0 x1 => ?_, ?_, ?_, fun z z0 z1 => ?_⟩
    · have h1 := S0.1 x x0 x1
      rw [cell 4 (by decide) (by decide) (by decide) (by decide) (by decide) (by decide), cell 5 (by decide) (by decide) (by decide) (by decide) (by decide) (by decide), cell 6 (by decide) (by decide) (by decide) (by decide) (by decide) (by decide), endsF_lo (i := x) (by omega) (by omega), endsF_lo (i := 63 + x) (by omega) (by omega), endsF_lo (i := 126 + x) (by omega) (by omega), f5 7 (by decide), tf 7 (by decide), P.2.2.2 x x0 x1, uK_ends hA h9]
      exact ⟨h1.1, h1.2.1, h1.2.2.1, rfl⟩
    · rw [cell 8 (by decide) (by decide) (by decide) (by decide) (by decide) (by decide), endsF_lo (by decide) (by decide), endsF_lo (by decide) (by decide)]
      exact S0.2.1
    · rw [f5 3 (by decide), e192]
      refine ⟨t6, t13.trans ?_⟩
      unfold endsF
      rw [zUp_same]
    · rw [e192] at z1
      have hR := eN_R hA h9 (u := z) ⟨z0, by omega⟩
      have hst := st_u S0 z0 z1
      have hRz := R z z0 z1
      have hU := hA.1.2.1 z z0 (by omega)
      rw [endsF_at z0 z1 (by decide), endsF_at z0 z1 (by decide), endsF_at z0 z1 (by decide), endsF_at z0 z1 (by decide), endsF_at z0 z1 (by decide), endsF_at z0 z1 (by decide), hR.2.1, hR.2.2.1, f5 9 (by decide), f5 10 (by decide), f5 14 (by decide), cell 11 (by decide) (by decide) (by decide) (by decide) (by decide) (by decide)]
      refine ⟨u9 z z0 z1, u10 z z0 z1, hst.2.2.1, ?_, fun hl => ?_⟩
      · rw [tf 14 (by decide), (P.2.1 z z0 z1).2, eN_5]
      · have hl2 := hR.2.2.2.2 hl
        have h34 := eN_34 hl2 hU.1
        rw [u10 z z0 z1, u9 z z0 z1, tf 12 (by decide), tf 13 (by decide), P.1 12 (by decide), P.1 13 (by decide), (hst.2.2.2.2 hl2).1, (hst.2.2.2.2 hl2).2] at hRz
        rw [hRz.1, hRz.2, h34.1, h34.2]
        by_cases q : ofF r z 0 = (r 191 + 1) % 2
        · rw [if_pos q, if_pos q, if_pos ⟨hl, q⟩, if_pos ⟨hl, q⟩]
          exact ⟨rfl, rfl⟩
        · rw [if_neg q, if_neg q, if_neg (fun y => q y.2), if_neg (fun y => q y.2)]
          exact ⟨rfl, rfl⟩
  · refine ZW.bipush dX7_finishTurn_13 rfl ?_
    refine ZW.ireti dX7_finishTurn_15 rfl ?_
    exact ⟨by unfold endV; rw [if_pos (by omega)], frA.rf _, fun q => by omega, fun _ => hS⟩
