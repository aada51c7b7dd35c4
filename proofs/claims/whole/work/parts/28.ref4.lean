-- the reference: fights, moves, the end of a turn
theorem okB_lay {r : Int → Int} (hk : okB r) {u w v : Int} (hu : 0 ≤ u) (hw : 0 ≤ w) (hv : 0 ≤ v ∧ v < 1000) : okB (layF r u w v) := by
  refine ⟨fun i i0 i1 => ?_, ?_⟩
  · by_cases q : i = 193 + 6 * u + w
    · rw [q]; unfold layF; rw [zUp_same]; exact hv
    · unfold layF; rw [zUp_ne _ _ q]; exact hk.1 i i0 i1
  · unfold layF; rw [zUp_ne _ _ (by omega)]; exact hk.2
theorem zFr.lay {ks : List Nat} {g g1 : ZH} {R : Int → Int} {k : Nat} (h : zFr ks (zRow g k R) g1) (F : Int → Int) : zFr ks (zRow g k F) (zRow g1 k F) := by
  have h1 := h.rowc k F
  rw [zRow_row] at h1
  exact h1
theorem zFr.st {ks : List Nat} {g g1 : ZH} (h : zFr ks g g1) (k : Nat) : zFr ks (zRow g k (g k)) g1 := by rw [zRow_self]; exact h
theorem powF_R {r : Int → Int} (hk : okB r) {u x : Int} (hu : 0 ≤ u ∧ u < 16) : 0 ≤ powF r u x ∧ powF r u x < 2000 := by
  have h1 := ofF_R hk hu (w := 1) (by omega)
  unfold powF
  split <;> split <;> omega
theorem defF_R {r : Int → Int} (hk : okB r) {u : Int} (hu : 0 ≤ u ∧ u < 16) : 0 ≤ defF r u ∧ defF r u < 5000 := by
  have h1 := ofF_R hk hu (w := 1) (by omega)
  have h2 : 0 ≤ defP r u ∧ defP r u < 5000 := by unfold defP; split <;> split <;> omega
  unfold defF
  split <;> omega
theorem weakF_R {r : Int → Int} (hk : okB r) {u m : Int} (hu : 0 ≤ u ∧ u < 16) (hm : 0 ≤ m) : 0 ≤ weakF r u m ∧ weakF r u m < 1000 := by
  have h1 := ofF_R hk hu (w := 1) (by omega)
  unfold weakF
  split <;> omega
theorem weakF_lay {r : Int → Int} {u v w m o : Int} (hw : 0 ≤ w ∧ w < 6) (h : w ≠ 1) : weakF (layF r u w v) o m = weakF r o m := by
  unfold weakF
  rw [layF_ne hw (by decide) (Or.inr (fun q => h q.symm))]
noncomputable def fightsF (r : Int → Int) (u x : Int) : Int → Int :=
  if defF r (unitOnF r x) < powF r u x then (if weakF r (unitOnF r x) (powF r u x - defF r (unitOnF r x)) = 0 then standsF (layF (layF r u 4 0) (unitOnF r x) 1 (weakF r (unitOnF r x) (powF r u x - defF r (unitOnF r x)))) u x else layF (layF r u 4 0) (unitOnF r x) 1 (weakF r (unitOnF r x) (powF r u x - defF r (unitOnF r x)))) else layF (layF r u 4 0) u 1 (weakF r u (defF r (unitOnF r x) - powF r u x))
noncomputable def fightsR (r : Int → Int) (u x : Int) : Int := if defF r (unitOnF r x) < powF r u x then weakF r (unitOnF r x) (powF r u x - defF r (unitOnF r x)) else ofF r (unitOnF r x) 1
theorem canF_t {r : Int → Int} (hk : okB r) {u x : Int} (h : canF r u x = true) : unitOnF r x ≠ -5 ∧ 0 ≤ unitOnF r x ∧ unitOnF r x < r 192 ∧ unitOnF r x < 16 ∧ ofF r (unitOnF r x) 0 = 1 - ofF r u 0 ∧ unitOnF r x ≠ u ∧ dirF (ofF r u 2) x ≠ -5 ∧ 0 < ofF r (unitOnF r x) 1 ∧ ofF r (unitOnF r x) 2 = x := by
  unfold canF at h
  rw [Bool.and_eq_true] at h
  have h1 := of_decide_eq_true h.1
  have h2 := of_decide_eq_true h.2
  have h3 := (unitOnF_R hk x).resolve_left h1.1
  refine ⟨h1.1, h3.1, h3.2.1, h3.2.2.1, h1.2, fun q => ?_, h2, h3.2.2.2⟩
  have := h1.2
  rw [q] at this
  omega
theorem standsF_of {r : Int → Int} {u x v w : Int} (hu : 0 ≤ u) (hx : x < 63) (hv : 0 ≤ v) (hw : 0 ≤ w ∧ w < 6) (h : v ≠ u ∨ w ≠ 2) : ofF (standsF r u x) v w = ofF r v w := by
  unfold standsF ofF
  rw [zUp_ne _ _ (by omega)]
  exact layF_ne (by decide) hw h
set_option maxHeartbeats 1000000 in
theorem c_X8_fights (g : ZH) (hk : okB (g 101)) (hU : okU (g 101)) {u x : Int} (hu : 0 ≤ u ∧ u < 16) (hx : 0 ≤ x ∧ x < 63) (hc : canF (g 101) u x = true) : ZC 8 mX8_fights [.inr 100, .inl u, .inl x] g (fun r g' => r = fightsR (g 101) u x ∧ zFr [108, 109] (zRow g 101 (fightsF (g 101) u x)) g') := by
  obtain ⟨t1, t2, t3, t4, t5, t6, t7, t8, t9⟩ := canF_t hk hc
  have hA := powF_R hk (x := x) hu
  have hD := defF_R hk (u := unitOnF (g 101) x) ⟨t2, t4⟩
  refine ZC.of (by decide +kernel) (Nat.le_of_ble_eq_true rfl) ?_
  refine ZW.aload_n dX8_fights_0 rfl ?_
  refine ZW.iload_n dX8_fights_1 rfl ?_
  refine ZW.callV (as := [_]) dX8_fights_2 cv_X8_62 ⟨_, rfl⟩ rfl (by decide) (Nat.le_of_ble_eq_true rfl) rfl (c_X8_unitOn _ hk (by omega)) (fun r1 g1 ⟨q1, q2⟩ => ?_)
  subst q1; subst q2
  refine ZW.istore_n dX8_fights_5 (by decide) rfl ?_
  refine ZW.aload_n dX8_fights_6 rfl ?_
  refine ZW.iload_n dX8_fights_7 rfl ?_
  refine ZW.iload_n dX8_fights_8 rfl ?_
  refine ZW.callV (as := [_, _]) dX8_fights_9 cv_X8_111 ⟨_, rfl⟩ rfl (by decide) (Nat.le_of_ble_eq_true rfl) rfl (c_X8_power _ hk hU hu hx t7) (fun r1 g2 ⟨q1, f2⟩ => ?_)
  subst q1
  have e2 : g2 101 = g1 101 := f2 101 (by decide)
  refine ZW.istore dX8_fights_12 (by decide) rfl ?_
  refine ZW.aload_n dX8_fights_14 rfl ?_
  refine ZW.iload_n dX8_fights_15 rfl ?_
  refine ZW.callV (as := [_]) dX8_fights_16 cv_X8_114 ⟨_, rfl⟩ rfl (by decide) (Nat.le_of_ble_eq_true rfl) rfl (c_X8_defence _ (e2 ▸ hk) (e2 ▸ hU) ⟨t2, t4⟩) (fun r1 g3 ⟨q1, f3⟩ => ?_)
  subst q1
  have f3' := f2.tr f3
  have e3 : g3 101 = g1 101 := f3' 101 (by decide)
  rw [e2]
  refine ZW.istore dX8_fights_19 (by decide) rfl ?_
  refine ZW.aload_n dX8_fights_21 rfl ?_
  refine ZW.iload_n dX8_fights_22 rfl ?_
  refine ZW.iconst dX8_fights_23 ?_
  refine ZW.iconst dX8_fights_24 ?_
  refine ZW.callVv (as := [_, _, _]) dX8_fights_25 cv_X8_73 ⟨_, rfl⟩ rfl (by decide) (Nat.le_of_ble_eq_true rfl) rfl (fun _ _ hz _ => hz) (c_X8_layR _ hu (by omega)) (fun g4 q1 => ?_)
  subst q1
  rw [e3]
  have f4 := (f3'.st 101).lay (layF (g1 101) u 4 0)
  have e4 : (zRow g3 101 (layF (g1 101) u 4 0)) 101 = layF (g1 101) u 4 0 := zRow_same _ _ _
  have k4 := okB_lay hk (u := u) (w := 4) (v := 0) hu.1 (by decide) (by decide)
  generalize zRow g3 101 (layF (g1 101) u 4 0) = g4 at f4 e4 ⊢
  refine ZW.iload dX8_fights_28 rfl ?_
  refine ZW.iload dX8_fights_30 rfl ?_
  refine ZW.icmp_le (tgt := 69) dX8_fights_32 (by decide) (by omega) (by omega) (fun c32 => ?_) (fun c32 => ?_)
  · refine ZW.aload_n dX8_fights_69 rfl ?_
    refine ZW.iload_n dX8_fights_70 rfl ?_
    refine ZW.iconst dX8_fights_71 ?_
    refine ZW.aload_n dX8_fights_72 rfl ?_
    refine ZW.iload_n dX8_fights_73 rfl ?_
    refine ZW.iload dX8_fights_74 rfl ?_
    refine ZW.iload dX8_fights_76 rfl ?_
    refine ZW.isub dX8_fights_78 ?_
    refine ZW.callV (as := [_, _]) dX8_fights_79 cv_X8_117 ⟨_, rfl⟩ rfl (by decide) (Nat.le_of_ble_eq_true rfl) rfl (c_X8_weakened _ (e4 ▸ k4) hu (by omega)) (fun r1 g5 ⟨q1, q2⟩ => ?_)
    subst q1; subst q2
    rw [e4, weakF_lay (by decide) (by decide)]
    have hw := weakF_R hk (u := u) (m := defF (g1 101) (unitOnF (g1 101) x) - powF (g1 101) u x) hu (by omega)
    refine ZW.callVv (as := [_, _, _]) dX8_fights_82 cv_X8_73 ⟨_, rfl⟩ rfl (by decide) (Nat.le_of_ble_eq_true rfl) rfl (fun _ _ hz _ => hz) (c_X8_layR _ hu (by omega)) (fun g6 q1 => ?_)
    subst q1
    rw [e4]
    have f6 := f4.lay (layF (layF (g1 101) u 4 0) u 1 (weakF (g1 101) u (defF (g1 101) (unitOnF (g1 101) x) - powF (g1 101) u x)))
    refine ZW.aload_n dX8_fights_85 rfl ?_
    refine ZW.iload_n dX8_fights_86 rfl ?_
    refine ZW.iconst dX8_fights_87 ?_
    refine ZW.callV (as := [_, _]) dX8_fights_88 cv_X8_52 ⟨_, rfl⟩ rfl (by decide) (Nat.le_of_ble_eq_true rfl) rfl (c_X8_of _ ⟨t2, t4⟩ (by omega)) (fun r1 g7 ⟨q1, q2⟩ => ?_)
    subst q1; subst q2
    refine ZW.ireti dX8_fights_91 rfl ?_
    refine ⟨?_, ?_⟩
    · rw [zRow_same, layF_ne (by decide) (by decide) (Or.inl t6), layF_ne (by decide) (by decide) (Or.inr (by decide))]
      unfold fightsR
      rw [if_neg (by omega)]
    · unfold fightsF
      rw [if_neg (by omega)]
      exact f6
  · refine ZW.aload_n dX8_fights_35 rfl ?_
    refine ZW.iload_n dX8_fights_36 rfl ?_
    refine ZW.iconst dX8_fights_37 ?_
    refine ZW.aload_n dX8_fights_38 rfl ?_
    refine ZW.iload_n dX8_fights_39 rfl ?_
    refine ZW.iload dX8_fights_40 rfl ?_
    refine ZW.iload dX8_fights_42 rfl ?_
    refine ZW.isub dX8_fights_44 ?_
    refine ZW.callV (as := [_, _]) dX8_fights_45 cv_X8_117 ⟨_, rfl⟩ rfl (by decide) (Nat.le_of_ble_eq_true rfl) rfl (c_X8_weakened _ (e4 ▸ k4) ⟨t2, t4⟩ (by omega)) (fun r1 g5 ⟨q1, q2⟩ => ?_)
    subst q1; subst q2
    rw [e4, weakF_lay (by decide) (by decide)]
    have hw := weakF_R hk (u := unitOnF (g1 101) x) (m := powF (g1 101) u x - defF (g1 101) (unitOnF (g1 101) x)) ⟨t2, t4⟩ (by omega)
    refine ZW.callVv (as := [_, _, _]) dX8_fights_48 cv_X8_73 ⟨_, rfl⟩ rfl (by decide) (Nat.le_of_ble_eq_true rfl) rfl (fun _ _ hz _ => hz) (c_X8_layR _ ⟨t2, t4⟩ (by omega)) (fun g6 q1 => ?_)
    subst q1
    rw [e4]
    have f6 := f4.lay (layF (layF (g1 101) u 4 0) (unitOnF (g1 101) x) 1 (weakF (g1 101) (unitOnF (g1 101) x) (powF (g1 101) u x - defF (g1 101) (unitOnF (g1 101) x))))
    have k6 := okB_lay k4 (u := unitOnF (g1 101) x) (w := 1) t2 (by decide) hw
    obtain ⟨wv, hwv⟩ : ∃ z, z = weakF (g1 101) (unitOnF (g1 101) x) (powF (g1 101) u x - defF (g1 101) (unitOnF (g1 101) x)) := ⟨_, rfl⟩
    rw [← hwv] at f6 k6 hw ⊢
    refine ZW.aload_n dX8_fights_51 rfl ?_
    refine ZW.iload_n dX8_fights_52 rfl ?_
    refine ZW.iconst dX8_fights_53 ?_
    refine ZW.callV (as := [_, _]) dX8_fights_54 cv_X8_52 ⟨_, rfl⟩ rfl (by decide) (Nat.le_of_ble_eq_true rfl) rfl (c_X8_of _ ⟨t2, t4⟩ (by omega)) (fun r1 g7 ⟨q1, q2⟩ => ?_)
    subst q1; subst q2
    rw [zRow_same, layF_same]
    refine ZW.if_ne (tgt := 85) dX8_fights_57 (by decide) (by omega) (fun c57 => ?_) (fun c57 => ?_)
    · refine ZW.aload_n dX8_fights_85 rfl ?_
      refine ZW.iload_n dX8_fights_86 rfl ?_
      refine ZW.iconst dX8_fights_87 ?_
      refine ZW.callV (as := [_, _]) dX8_fights_88 cv_X8_52 ⟨_, rfl⟩ rfl (by decide) (Nat.le_of_ble_eq_true rfl) rfl (c_X8_of _ ⟨t2, t4⟩ (by omega)) (fun r1 g8 ⟨q1, q2⟩ => ?_)
      subst q1; subst q2
      rw [zRow_same, layF_same]
      refine ZW.ireti dX8_fights_91 rfl ?_
      refine ⟨?_, ?_⟩
      · unfold fightsR
        rw [if_pos (by omega), hwv]
      · unfold fightsF
        rw [if_pos (by omega), ← hwv, if_neg c57]
        exact f6
    · refine ZW.aload_n dX8_fights_60 rfl ?_
      refine ZW.iload_n dX8_fights_61 rfl ?_
      refine ZW.iload_n dX8_fights_62 rfl ?_
      refine ZW.callVv (as := [_, _]) dX8_fights_63 cv_X8_120 ⟨_, rfl⟩ rfl (by decide) (Nat.le_of_ble_eq_true rfl) rfl (fun _ _ hz _ => hz) (c_X8_stands _ (by rw [zRow_same]; exact k6) hu hx) (fun g8 q1 => ?_)
      subst q1
      rw [zRow_same, zRow_row]
      have f8 := f6.lay (standsF (layF (layF (g1 101) u 4 0) (unitOnF (g1 101) x) 1 wv) u x)
      rw [zRow_row] at f8
      refine ZW.goto (tgt := 85) dX8_fights_66 (by decide) ?_
      refine ZW.aload_n dX8_fights_85 rfl ?_
      refine ZW.iload_n dX8_fights_86 rfl ?_
      refine ZW.iconst dX8_fights_87 ?_
      refine ZW.callV (as := [_, _]) dX8_fights_88 cv_X8_52 ⟨_, rfl⟩ rfl (by decide) (Nat.le_of_ble_eq_true rfl) rfl (c_X8_of _ ⟨t2, t4⟩ (by omega)) (fun r1 g9 ⟨q1, q2⟩ => ?_)
      subst q1; subst q2
      rw [zRow_same, standsF_of hu.1 hx.2 t2 (by decide) (Or.inl t6), layF_same]
      refine ZW.ireti dX8_fights_91 rfl ?_
      refine ⟨?_, ?_⟩
      · unfold fightsR
        rw [if_pos (by omega), hwv]
      · unfold fightsF
        rw [if_pos (by omega), ← hwv, if_pos c57]
        exact f8
-- moves
noncomputable def refMF (r : Int → Int) (u x : Int) : Int :=
  if isUnitB r u && isHexB x then (if ofF r u 0 = r 191 % 2 then (if ofF r u 2 = x then -5 else (if wayF r u x ≤ ofF r u 3 ∧ unitOnF r x = -5 then 0 else -4)) else -4) else -1
theorem isUnitB_t {r : Int → Int} (hk : okB r) {u : Int} (h : isUnitB r u = true) : 0 ≤ u ∧ u < r 192 ∧ u < 16 ∧ 0 < ofF r u 1 := by
  have h1 := of_decide_eq_true h
  have h2 := hk.2
  exact ⟨h1.1, h1.2.1, by omega, h1.2.2⟩
theorem wayF_R (r : Int → Int) (u x : Int) : 0 ≤ wayF r u x ∧ wayF r u x ≤ 1000 := by
  by_cases h : wayF r u x = 1000
  · omega
  · have := wayF_spec h
    omega
theorem c_X8_refusesMove (g : ZH) (hk : okB (g 101)) (hU : okU (g 101)) {u x : Int} (hu : zR u) (hx : zR x) : ZC 6 mX8_refusesMove [.inr 100, .inl u, .inl x] g (fun r g' => r = refMF (g 101) u x ∧ zFr [106, 107, 109] g g' ∧ (r = 0 → ∀ x, 0 ≤ x → x < 63 → g' 106 x = wayF (g 101) u x)) := by
  refine ZC.of (by decide +kernel) (Nat.le_of_ble_eq_true rfl) ?_
  refine ZW.aload_n dX8_refusesMove_0 rfl ?_
  refine ZW.iload_n dX8_refusesMove_1 rfl ?_
  refine ZW.callV (as := [_]) dX8_refusesMove_2 cv_X8_136 ⟨_, rfl⟩ rfl (by decide) (Nat.le_of_ble_eq_true rfl) rfl (c_X8_isUnit _ hk hu) (fun r1 g1 ⟨q1, q2⟩ => ?_)
  subst q1; subst q2
  refine ZW.if_eq (tgt := 15) dX8_refusesMove_5 (by decide) (by exact zB_R _) (fun c5 => ?_) (fun c5 => ?_)
  · have e := zB_eq c5
    refine ZW.iconst dX8_refusesMove_15 ?_
    refine ZW.ireti dX8_refusesMove_16 rfl ?_
    exact ⟨by unfold refMF; rw [e]; rfl, zFr.rf _ _, fun q => absurd q (by decide)⟩
  · have e := zB_ne c5
    have hu2 := isUnitB_t hk e
    refine ZW.iload_n dX8_refusesMove_8 rfl ?_
    refine ZW.callS (as := [_]) dX8_refusesMove_9 cs_X8_124 rfl (by decide) (Nat.le_of_ble_eq_true rfl) rfl (c_X8_isHex _ hx) (fun r1 g2 ⟨q1, q2⟩ => ?_)
    subst q1; subst q2
    refine ZW.if_ne (tgt := 17) dX8_refusesMove_12 (by decide) (by exact zB_R _) (fun c12 => ?_) (fun c12 => ?_)
    · have e2 := zB_ne c12
      have hx2 := isHexB_t e2
      refine ZW.aload_n dX8_refusesMove_17 rfl ?_
      refine ZW.iload_n dX8_refusesMove_18 rfl ?_
      refine ZW.callV (as := [_]) dX8_refusesMove_19 cv_X8_139 ⟨_, rfl⟩ rfl (by decide) (Nat.le_of_ble_eq_true rfl) rfl (c_X8_isAtTurn _ hk ⟨hu2.1, hu2.2.2.1⟩) (fun r1 g3 ⟨q1, q2⟩ => ?_)
      subst q1; subst q2
      refine ZW.if_ne (tgt := 28) dX8_refusesMove_22 (by decide) (by exact zB_R _) (fun c22 => ?_) (fun c22 => ?_)
      · have e3 := of_decide_eq_true (zB_ne c22)
        refine ZW.aload_n dX8_refusesMove_28 rfl ?_
        refine ZW.iload_n dX8_refusesMove_29 rfl ?_
        refine ZW.iconst dX8_refusesMove_30 ?_
        refine ZW.callV (as := [_, _]) dX8_refusesMove_31 cv_X8_52 ⟨_, rfl⟩ rfl (by decide) (Nat.le_of_ble_eq_true rfl) rfl (c_X8_of _ ⟨hu2.1, hu2.2.2.1⟩ (by omega)) (fun r1 g4 ⟨q1, q2⟩ => ?_)
        subst q1; subst q2
        have h2 := ofU_R hk (u := u) ⟨hu2.1, hu2.2.2.1⟩ (w := 2) (by omega)
        refine ZW.iload_n dX8_refusesMove_34 rfl ?_
        refine ZW.icmp_ne (tgt := 41) dX8_refusesMove_35 (by decide) (by omega) (by omega) (fun c35 => ?_) (fun c35 => ?_)
        · refine ZW.aload_n dX8_refusesMove_41 rfl ?_
          refine ZW.iload_n dX8_refusesMove_42 rfl ?_
          refine ZW.callVv (as := [_]) dX8_refusesMove_43 cv_X8_142 ⟨_, rfl⟩ rfl (by decide) (Nat.le_of_ble_eq_true rfl) rfl (fun _ _ hz _ => hz) (c_X8_laysWays _ hk hU ⟨hu2.1, hu2.2.2.1⟩) (fun g5 ⟨f5, w5⟩ => ?_)
          have e5 : g5 101 = g4 101 := f5 101 (by decide)
          have hwr := wayF_R (g4 101) u x
          refine ZW.aload_n dX8_refusesMove_46 rfl ?_
          refine ZW.iload_n dX8_refusesMove_47 rfl ?_
          refine ZW.iload_n dX8_refusesMove_48 rfl ?_
          refine ZW.callV (as := [_, _]) dX8_refusesMove_49 cv_X8_145 ⟨_, rfl⟩ rfl (by decide) (Nat.le_of_ble_eq_true rfl) rfl (c_X8_canReach _ (e5 ▸ hk) ⟨hu2.1, hu2.2.2.1⟩ hx2 (by rw [w5 x hx2.1 hx2.2]; omega)) (fun r1 g6 ⟨q1, q2⟩ => ?_)
          subst q1; subst q2
          rw [e5, w5 x hx2.1 hx2.2]
          refine ZW.if_eq (tgt := 59) dX8_refusesMove_52 (by decide) (by exact zB_R _) (fun c52 => ?_) (fun c52 => ?_)
          · have e6 := of_decide_eq_false (zB_eq c52)
            refine ZW.bipush dX8_refusesMove_59 rfl ?_
            refine ZW.ireti dX8_refusesMove_61 rfl ?_
            exact ⟨by unfold refMF; rw [e, e2]; simp only [Bool.and_self, if_true]; rw [if_pos e3, if_neg c35, if_neg e6], f5, fun q => absurd q (by decide)⟩
          · have e6 := of_decide_eq_true (zB_ne c52)
            refine ZW.iconst dX8_refusesMove_55 ?_
            refine ZW.goto (tgt := 61) dX8_refusesMove_56 (by decide) ?_
            refine ZW.ireti dX8_refusesMove_61 rfl ?_
            exact ⟨by unfold refMF; rw [e, e2]; simp only [Bool.and_self, if_true]; rw [if_pos e3, if_neg c35, if_pos e6], f5, fun _ => w5⟩
        · refine ZW.bipush dX8_refusesMove_38 rfl ?_
          refine ZW.ireti dX8_refusesMove_40 rfl ?_
          exact ⟨by unfold refMF; rw [e, e2]; simp only [Bool.and_self, if_true]; rw [if_pos e3, if_pos c35], zFr.rf _ _, fun q => absurd q (by decide)⟩
      · have e3 := of_decide_eq_false (zB_eq c22)
        refine ZW.bipush dX8_refusesMove_25 rfl ?_
        refine ZW.ireti dX8_refusesMove_27 rfl ?_
        exact ⟨by unfold refMF; rw [e, e2]; simp only [Bool.and_self, if_true]; rw [if_neg e3], zFr.rf _ _, fun q => absurd q (by decide)⟩
    · have e2 := zB_eq c12
      refine ZW.iconst dX8_refusesMove_15 ?_
      refine ZW.ireti dX8_refusesMove_16 rfl ?_
      exact ⟨by unfold refMF; rw [e, e2]; rfl, zFr.rf _ _, fun q => absurd q (by decide)⟩
noncomputable def movesF (r : Int → Int) (u x : Int) : Int → Int := standsF (layF r u 3 (ofF r u 3 - wayF r u x)) u x
noncomputable def movesR (r : Int → Int) (u x : Int) : Int := ofF r u 3 - wayF r u x
theorem c_X8_moves (g : ZH) (hk : okB (g 101)) {u x : Int} (hu : 0 ≤ u ∧ u < 16) (hx : 0 ≤ x ∧ x < 63) (hw : g 106 x = wayF (g 101) u x) (hle : wayF (g 101) u x ≤ ofF (g 101) u 3) : ZC 2 mX8_moves [.inr 100, .inl u, .inl x] g (fun r g' => r = movesR (g 101) u x ∧ g' = zRow g 101 (movesF (g 101) u x)) := by
  have h3 := ofF_R hk hu (w := 3) (by omega)
  have hwr := wayF_R (g 101) u x
  refine ZC.of (by decide +kernel) (Nat.le_of_ble_eq_true rfl) ?_
  refine ZW.aload_n dX8_moves_0 rfl ?_
  refine ZW.iload_n dX8_moves_1 rfl ?_
  refine ZW.iconst dX8_moves_2 ?_
  refine ZW.aload_n dX8_moves_3 rfl ?_
  refine ZW.iload_n dX8_moves_4 rfl ?_
  refine ZW.iconst dX8_moves_5 ?_
  refine ZW.callV (as := [_, _]) dX8_moves_6 cv_X8_52 ⟨_, rfl⟩ rfl (by decide) (Nat.le_of_ble_eq_true rfl) rfl (c_X8_of _ hu (by omega)) (fun r1 g1 ⟨q1, q2⟩ => ?_)
  subst q1; subst q2
  refine ZW.aload_n dX8_moves_9 rfl ?_
  refine ZW.getR dX8_moves_10 fl_X8_25 ⟨_, rfl, rfl⟩ ?_
  refine ZW.iload_n dX8_moves_13 rfl ?_
  refine ZW.iald dX8_moves_14 rfl (by decide) (by omega) rfl ?_
  rw [hw]
  refine ZW.isub dX8_moves_15 ?_
  refine ZW.callVv (as := [_, _, _]) dX8_moves_16 cv_X8_73 ⟨_, rfl⟩ rfl (by decide) (Nat.le_of_ble_eq_true rfl) rfl (fun _ _ hz _ => hz) (c_X8_layR _ hu (by omega)) (fun g1 q1 => ?_)
  subst q1
  refine ZW.aload_n dX8_moves_19 rfl ?_
  refine ZW.iload_n dX8_moves_20 rfl ?_
  refine ZW.iload_n dX8_moves_21 rfl ?_
  refine ZW.callVv (as := [_, _]) dX8_moves_22 cv_X8_120 ⟨_, rfl⟩ rfl (by decide) (Nat.le_of_ble_eq_true rfl) rfl (fun _ _ hz _ => hz) (c_X8_stands _ (by rw [zRow_same]; exact okB_lay hk hu.1 (by decide) (by omega)) hu hx) (fun g2 q1 => ?_)
  subst q1
  rw [zRow_same, zRow_row]
  refine ZW.aload_n dX8_moves_25 rfl ?_
  refine ZW.iload_n dX8_moves_26 rfl ?_
  refine ZW.iconst dX8_moves_27 ?_
  refine ZW.callV (as := [_, _]) dX8_moves_28 cv_X8_52 ⟨_, rfl⟩ rfl (by decide) (Nat.le_of_ble_eq_true rfl) rfl (c_X8_of _ hu (by omega)) (fun r1 g3 ⟨q1, q2⟩ => ?_)
  subst q1; subst q2
  rw [zRow_same, standsF_of hu.1 hx.2 hu.1 (by decide) (Or.inr (by decide)), layF_same]
  refine ZW.ireti dX8_moves_31 rfl ?_
  exact ⟨rfl, rfl⟩
def refAF (r : Int → Int) (u x : Int) : Int :=
  if isUnitB r u && isHexB x then (if ofF r u 0 = r 191 % 2 ∧ ofF r u 4 = 1 ∧ canF r u x = true then 0 else -4) else -1
theorem c_X8_refusesAttack (g : ZH) (hk : okB (g 101)) (hU : okU (g 101)) {u x : Int} (hu : zR u) (hx : zR x) : ZC 4 mX8_refusesAttack [.inr 100, .inl u, .inl x] g (fun r g' => r = refAF (g 101) u x ∧ g' = g) := by
  refine ZC.of (by decide +kernel) (Nat.le_of_ble_eq_true rfl) ?_
  refine ZW.aload_n dX8_refusesAttack_0 rfl ?_
  refine ZW.iload_n dX8_refusesAttack_1 rfl ?_
  refine ZW.callV (as := [_]) dX8_refusesAttack_2 cv_X8_136 ⟨_, rfl⟩ rfl (by decide) (Nat.le_of_ble_eq_true rfl) rfl (c_X8_isUnit _ hk hu) (fun r1 g1 ⟨q1, q2⟩ => ?_)
  subst q1; subst q2
  refine ZW.if_eq (tgt := 15) dX8_refusesAttack_5 (by decide) (by exact zB_R _) (fun c5 => ?_) (fun c5 => ?_)
  · have e := zB_eq c5
    refine ZW.iconst dX8_refusesAttack_15 ?_
    refine ZW.ireti dX8_refusesAttack_16 rfl ?_
    exact ⟨by unfold refAF; rw [e]; rfl, rfl⟩
  · have e := zB_ne c5
    have hu2 := isUnitB_t hk e
    refine ZW.iload_n dX8_refusesAttack_8 rfl ?_
    refine ZW.callS (as := [_]) dX8_refusesAttack_9 cs_X8_124 rfl (by decide) (Nat.le_of_ble_eq_true rfl) rfl (c_X8_isHex _ hx) (fun r1 g2 ⟨q1, q2⟩ => ?_)
    subst q1; subst q2
    refine ZW.if_ne (tgt := 17) dX8_refusesAttack_12 (by decide) (by exact zB_R _) (fun c12 => ?_) (fun c12 => ?_)
    · have e2 := zB_ne c12
      have hx2 := isHexB_t e2
      refine ZW.aload_n dX8_refusesAttack_17 rfl ?_
      refine ZW.iload_n dX8_refusesAttack_18 rfl ?_
      refine ZW.callV (as := [_]) dX8_refusesAttack_19 cv_X8_139 ⟨_, rfl⟩ rfl (by decide) (Nat.le_of_ble_eq_true rfl) rfl (c_X8_isAtTurn _ hk ⟨hu2.1, hu2.2.2.1⟩) (fun r1 g3 ⟨q1, q2⟩ => ?_)
      subst q1; subst q2
      refine ZW.if_eq (tgt := 48) dX8_refusesAttack_22 (by decide) (by exact zB_R _) (fun c22 => ?_) (fun c22 => ?_)
      · have e3 := of_decide_eq_false (zB_eq c22)
        refine ZW.bipush dX8_refusesAttack_48 rfl ?_
        refine ZW.ireti dX8_refusesAttack_50 rfl ?_
        exact ⟨by unfold refAF; rw [e, e2]; simp only [Bool.and_self, if_true]; rw [if_neg (fun q => e3 q.1)], rfl⟩
      · have e3 := of_decide_eq_true (zB_ne c22)
        refine ZW.aload_n dX8_refusesAttack_25 rfl ?_
        refine ZW.iload_n dX8_refusesAttack_26 rfl ?_
        refine ZW.iconst dX8_refusesAttack_27 ?_
        refine ZW.callV (as := [_, _]) dX8_refusesAttack_28 cv_X8_52 ⟨_, rfl⟩ rfl (by decide) (Nat.le_of_ble_eq_true rfl) rfl (c_X8_of _ ⟨hu2.1, hu2.2.2.1⟩ (by omega)) (fun r1 g4 ⟨q1, q2⟩ => ?_)
        subst q1; subst q2
        have h2 := ofU_R hk (u := u) ⟨hu2.1, hu2.2.2.1⟩ (w := 4) (by omega)
        refine ZW.iconst dX8_refusesAttack_31 ?_
        refine ZW.icmp_ne (tgt := 48) dX8_refusesAttack_32 (by decide) (by omega) (by omega) (fun c32 => ?_) (fun c32 => ?_)
        · refine ZW.bipush dX8_refusesAttack_48 rfl ?_
          refine ZW.ireti dX8_refusesAttack_50 rfl ?_
          exact ⟨by unfold refAF; rw [e, e2]; simp only [Bool.and_self, if_true]; rw [if_neg (fun q => c32 q.2.1)], rfl⟩
        · refine ZW.aload_n dX8_refusesAttack_35 rfl ?_
          refine ZW.iload_n dX8_refusesAttack_36 rfl ?_
          refine ZW.iload_n dX8_refusesAttack_37 rfl ?_
          refine ZW.callV (as := [_, _]) dX8_refusesAttack_38 cv_X8_154 ⟨_, rfl⟩ rfl (by decide) (Nat.le_of_ble_eq_true rfl) rfl (c_X8_canFight _ hk hU ⟨hu2.1, hu2.2.2.1⟩ hx2) (fun r1 g5 ⟨q1, q2⟩ => ?_)
          subst q1; subst q2
          refine ZW.if_eq (tgt := 48) dX8_refusesAttack_41 (by decide) (by exact zB_R _) (fun c41 => ?_) (fun c41 => ?_)
          · have e4 := zB_eq c41
            refine ZW.bipush dX8_refusesAttack_48 rfl ?_
            refine ZW.ireti dX8_refusesAttack_50 rfl ?_
            exact ⟨by unfold refAF; rw [e, e2]; simp only [Bool.and_self, if_true]; rw [if_neg (fun q => by rw [e4] at q; exact Bool.noConfusion q.2.2)], rfl⟩
          · have e4 := zB_ne c41
            refine ZW.iconst dX8_refusesAttack_44 ?_
            refine ZW.goto (tgt := 50) dX8_refusesAttack_45 (by decide) ?_
            refine ZW.ireti dX8_refusesAttack_50 rfl ?_
            exact ⟨by unfold refAF; rw [e, e2]; simp only [Bool.and_self, if_true]; rw [if_pos ⟨e3, c32, e4⟩], rfl⟩
    · have e2 := zB_eq c12
      refine ZW.iconst dX8_refusesAttack_15 ?_
      refine ZW.ireti dX8_refusesAttack_16 rfl ?_
      exact ⟨by unfold refAF; rw [e, e2]; rfl, rfl⟩
