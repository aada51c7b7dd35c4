-- the State, asked, on: sight and counts
theorem near1 {x o : Int} (hx : 0 ≤ x ∧ x < 63) (ho : 0 ≤ o ∧ o < 63) : stepsF x o ≤ 1 ↔ (o = x ∨ ∃ d, 0 ≤ d ∧ d < 6 ∧ nextF x d = o) := by
  constructor
  · intro h
    by_cases q : x = o
    · exact Or.inl q.symm
    · obtain ⟨d, d0, d1, d2, d3⟩ := stepsF_3 hx ho q
      have hr := (nextF_R (x := o) (d := d)).resolve_left d2
      have h0 := stepsF_0 hx hr
      have h1 := h0.1.mp (by omega)
      refine Or.inr ⟨(d + 3) % 6, by omega, by omega, ?_⟩
      have := nextF_s ho ⟨d0, d1⟩ d2
      rw [← h1] at this
      exact this
  · rintro (q | ⟨d, d0, d1, q⟩)
    · rw [q, (stepsF_0 hx hx).1.mpr rfl]; decide
    · have h := stepsF_2 hx hx ⟨d0, d1⟩ (by rw [q]; omega)
      rw [(stepsF_0 hx hx).1.mpr rfl, q] at h
      exact h
theorem c_X4_isSeenByUnit (g : ZH) {r : Int → Int} (hA : okA r) (hS : StN g r) {side x : Int} (hs : zR side) (hx : 0 ≤ x ∧ x < 63) : ZC 2 mX4_isSeenByUnit [.inr 3, .inl side, .inl x] g (fun v g' => v = zB (anyF (seesU r side x) (r 192).toNat 0) ∧ g' = g) := by
  have h192 := hA.1.1.1 192 (by decide) (by decide)
  have h16 := hA.1.1.2
  have hX := st_x hS hx
  have hgx := hA.1.1.1 x (by omega) (by omega)
  have hff : farF r x = 1 ∨ farF r x = 2 := by unfold farF; split <;> omega
  refine ZC.of (by decide +kernel) (Nat.le_of_ble_eq_true rfl) ?_
  have loop : ∀ (n : Nat) (u : Int), 0 ≤ u → u + n = r 192 → ZW 2 mX4_isSeenByUnit 19 [some (.inr 3), some (.inl side), some (.inl x), some (.inl (farF r x)), some (.inl u)] [] g (fun v g' => v = zB (anyF (seesU r side x) n u) ∧ g' = g) := by
    intro n
    induction n with
    | zero =>
      intro u h0 hn
      refine ZW.iload dX4_isSeenByUnit_19 rfl ?_
      refine ZW.aload_n dX4_isSeenByUnit_21 rfl ?_
      refine ZW.getI (fz := 6) dX4_isSeenByUnit_22 fl_X4_61 ⟨_, rfl, rfl⟩ rfl rfl ?_
      rw [hS.2.2.1.1]
      refine ZW.icmp_ge (tgt := 61) dX4_isSeenByUnit_25 (by decide) (by first | omega | exact zB_R _) (by first | omega | exact zB_R _) (fun c25 => ?_) (fun c25 => ?_)
      · refine ZW.iconst dX4_isSeenByUnit_61 ?_
        refine ZW.iretz dX4_isSeenByUnit_62 rfl (by first | exact Or.inl rfl | exact Or.inr rfl | assumption | omega) ?_
        exact ⟨rfl, rfl⟩
      · exact absurd c25 (by omega)
    | succ n ih =>
      intro u h0 hn
      have hst := st_u hS h0 (by omega)
      have hU := hA.1.2.1 u h0 (by omega)
      have hss := stepsF_0 hU.2 hx
      have no : seesU r side x u = false → ZW 2 mX4_isSeenByUnit 55 [some (.inr 3), some (.inl side), some (.inl x), some (.inl (farF r x)), some (.inl u)] [] g (fun v g' => v = zB (anyF (seesU r side x) (n + 1) u) ∧ g' = g) := by
        intro hf
        refine ZW.iinc dX4_isSeenByUnit_55 rfl (by decide) rfl ?_
        refine ZW.goto (tgt := 19) dX4_isSeenByUnit_58 (by decide) ?_
        refine ZW.mono (ih (u + 1) (by omega) (by omega)) (fun v g' hh => ⟨?_, hh.2⟩)
        rw [hh.1, show anyF (seesU r side x) (n + 1) u = (seesU r side x u || anyF (seesU r side x) n (u + 1)) from rfl, hf, Bool.false_or]
      refine ZW.iload dX4_isSeenByUnit_19 rfl ?_
      refine ZW.aload_n dX4_isSeenByUnit_21 rfl ?_
      refine ZW.getI (fz := 6) dX4_isSeenByUnit_22 fl_X4_61 ⟨_, rfl, rfl⟩ rfl rfl ?_
      rw [hS.2.2.1.1]
      refine ZW.icmp_ge (tgt := 61) dX4_isSeenByUnit_25 (by decide) (by first | omega | exact zB_R _) (by first | omega | exact zB_R _) (fun c25 => ?_) (fun c25 => ?_)
      · exact absurd c25 (by omega)
      · refine ZW.aload_n dX4_isSeenByUnit_28 rfl ?_
        refine ZW.iload dX4_isSeenByUnit_29 rfl ?_
        refine ZW.iload_n dX4_isSeenByUnit_31 rfl ?_
        refine ZW.callV (as := [_, _]) dX4_isSeenByUnit_32 cv_X4_93 ⟨_, rfl⟩ rfl (by decide) (Nat.le_of_ble_eq_true rfl) rfl (c_X4_isUnitOf _ hA hS ⟨h0, by omega⟩ hs) (fun v1 g1 ⟨q1, q2⟩ => ?_)
        subst q1; subst q2
        refine ZW.if_eq (tgt := 55) dX4_isSeenByUnit_35 (by decide) (by first | omega | exact zB_R _) (fun c35 => ?_) (fun c35 => ?_)
        · have e := of_decide_eq_false (zB_eq c35)
          exact no (decide_eq_false (fun q => e ⟨q.1, q.2.1⟩))
        · have e := of_decide_eq_true (zB_ne c35)
          refine ZW.aload_n dX4_isSeenByUnit_38 rfl ?_
          refine ZW.getR dX4_isSeenByUnit_39 fl_X4_33 ⟨_, rfl, rfl⟩ ?_
          refine ZW.iload dX4_isSeenByUnit_42 rfl ?_
          refine ZW.iald dX4_isSeenByUnit_44 rfl (by decide) (by omega) rfl ?_
          rw [hst.2.2.1]
          refine ZW.iload_n dX4_isSeenByUnit_45 rfl ?_
          refine ZW.callS (as := [_, _]) dX4_isSeenByUnit_46 cs_X4_109 rfl (by decide) (Nat.le_of_ble_eq_true rfl) rfl (c_X0_stepsBetween _ hU.2 hx) (fun v1 g2 ⟨q1, q2⟩ => ?_)
          subst q1; subst q2
          refine ZW.iload_n dX4_isSeenByUnit_49 rfl ?_
          refine ZW.icmp_gt (tgt := 55) dX4_isSeenByUnit_50 (by decide) (by first | omega | exact zB_R _) (by first | omega | exact zB_R _) (fun c50 => ?_) (fun c50 => ?_)
          · exact no (decide_eq_false (fun q => by have := q.2.2; omega))
          · refine ZW.iconst dX4_isSeenByUnit_53 ?_
            refine ZW.iretz dX4_isSeenByUnit_54 rfl (by first | exact Or.inl rfl | exact Or.inr rfl | assumption | omega) ?_
            refine ⟨?_, rfl⟩
            rw [show anyF (seesU r side x) (n + 1) u = (seesU r side x u || anyF (seesU r side x) n (u + 1)) from rfl, show seesU r side x u = true from decide_eq_true ⟨e.1, e.2, by omega⟩]
            rfl
  refine ZW.aload_n dX4_isSeenByUnit_0 rfl ?_
  refine ZW.getR dX4_isSeenByUnit_1 fl_X4_9 ⟨_, rfl, rfl⟩ ?_
  refine ZW.iload_n dX4_isSeenByUnit_4 rfl ?_
  refine ZW.iald dX4_isSeenByUnit_5 rfl (by decide) (by omega) rfl ?_
  rw [hX.1]
  refine ZW.iconst dX4_isSeenByUnit_6 ?_
  refine ZW.icmp_ne (tgt := 14) dX4_isSeenByUnit_7 (by decide) (by first | omega | exact zB_R _) (by first | omega | exact zB_R _) (fun c7 => ?_) (fun c7 => ?_)
  · refine ZW.iconst dX4_isSeenByUnit_14 ?_
    refine ZW.istore_n dX4_isSeenByUnit_15 (by decide) rfl ?_
    refine ZW.iconst dX4_isSeenByUnit_16 ?_
    refine ZW.istore dX4_isSeenByUnit_17 (by decide) rfl ?_
    have hfar : farF r x = 2 := by unfold farF; rw [if_neg c7]
    rw [show (some (Sum.inl (2 : Int)) : Option ZV) = some (Sum.inl (farF r x)) by rw [hfar]]
    exact loop (r 192).toNat 0 (by omega) (by omega)
  · refine ZW.iconst dX4_isSeenByUnit_10 ?_
    refine ZW.goto (tgt := 15) dX4_isSeenByUnit_11 (by decide) ?_
    refine ZW.istore_n dX4_isSeenByUnit_15 (by decide) rfl ?_
    refine ZW.iconst dX4_isSeenByUnit_16 ?_
    refine ZW.istore dX4_isSeenByUnit_17 (by decide) rfl ?_
    have hfar : farF r x = 1 := by unfold farF; rw [if_pos c7]
    rw [show (some (Sum.inl (1 : Int)) : Option ZV) = some (Sum.inl (farF r x)) by rw [hfar]]
    exact loop (r 192).toNat 0 (by omega) (by omega)
def seesN (r : Int → Int) (side x : Int) : Bool := decide (r (126 + x) = side + 1) || anyF (fun d => decide (nextF x d ≠ -5 ∧ r (126 + nextF x d) = side + 1)) 6 0
theorem seesN_T {r : Int → Int} {side x : Int} (hx : 0 ≤ x ∧ x < 63) : anyF (seesT r side x) 63 0 = seesN r side x := by
  rw [Bool.eq_iff_iff]
  unfold seesN
  rw [anyF_iff, Bool.or_eq_true, anyF_iff, decide_eq_true_iff]
  constructor
  · rintro ⟨o, o0, o1, ho⟩
    have h := of_decide_eq_true ho
    rcases (near1 hx ⟨o0, by omega⟩).mp h.2 with q | ⟨d, d0, d1, q⟩
    · rw [q] at h; exact Or.inl h.1
    · exact Or.inr ⟨d, d0, by omega, decide_eq_true ⟨by omega, by rw [q]; exact h.1⟩⟩
  · rintro (h | ⟨d, d0, d1, h⟩)
    · exact ⟨x, hx.1, by omega, decide_eq_true ⟨h, (near1 hx hx).mpr (Or.inl rfl)⟩⟩
    · have h2 := of_decide_eq_true h
      have hr := (nextF_R (x := x) (d := d)).resolve_left h2.1
      exact ⟨nextF x d, hr.1, by omega, decide_eq_true ⟨h2.2, (near1 hx hr).mpr (Or.inr ⟨d, d0, by omega, rfl⟩)⟩⟩
theorem c_X4_isSeenByFort (g : ZH) {r : Int → Int} (hA : okA r) (hS : StN g r) (hb : BdN g) {side x : Int} (hs : 0 ≤ side ∧ side < 2) (hx : 0 ≤ x ∧ x < 63) : ZC 1 mX4_isSeenByFort [.inr 3, .inl side, .inl x] g (fun v g' => v = zB (seesN r side x) ∧ g' = g) := by
  have hX := st_x hS hx
  have hgx := hA.1.1.1 (126 + x) (by omega) (by omega)
  refine ZC.of (by decide +kernel) (Nat.le_of_ble_eq_true rfl) ?_
  have loop : ∀ (n : Nat) (d : Int) (o4 : Option ZV), 0 ≤ d → d + n = 6 → ZW 1 mX4_isSeenByFort 14 [some (.inr 3), some (.inl side), some (.inl x), some (.inl d), o4] [] g (fun v g' => v = zB (anyF (fun d => decide (nextF x d ≠ -5 ∧ r (126 + nextF x d) = side + 1)) n d) ∧ g' = g) := by
    intro n
    induction n with
    | zero =>
      intro d o4 h0 hn
      refine ZW.iload_n dX4_isSeenByFort_14 rfl ?_
      refine ZW.bipush dX4_isSeenByFort_15 rfl ?_
      refine ZW.icmp_ge (tgt := 63) dX4_isSeenByFort_17 (by decide) (by first | omega | exact zB_R _) (by first | omega | exact zB_R _) (fun c17 => ?_) (fun c17 => ?_)
      · refine ZW.iconst dX4_isSeenByFort_63 ?_
        refine ZW.iretz dX4_isSeenByFort_64 rfl (by first | exact Or.inl rfl | exact Or.inr rfl | assumption | omega) ?_
        exact ⟨rfl, rfl⟩
      · exact absurd c17 (by omega)
    | succ n ih =>
      intro d o4 h0 hn
      have h1 := hb x d hx.1 hx.2 h0 (by omega)
      have h2 := nbF_R x d
      have no : decide (nextF x d ≠ -5 ∧ r (126 + nextF x d) = side + 1) = false → ∀ o4 : Option ZV, ZW 1 mX4_isSeenByFort 57 [some (.inr 3), some (.inl side), some (.inl x), some (.inl d), o4] [] g (fun v g' => v = zB (anyF (fun d => decide (nextF x d ≠ -5 ∧ r (126 + nextF x d) = side + 1)) (n + 1) d) ∧ g' = g) := by
        intro hf o4
        refine ZW.iinc dX4_isSeenByFort_57 rfl (by decide) rfl ?_
        refine ZW.goto (tgt := 14) dX4_isSeenByFort_60 (by decide) ?_
        refine ZW.mono (ih (d + 1) o4 (by omega) (by omega)) (fun v g' hh => ⟨?_, hh.2⟩)
        rw [hh.1]
        show _ = zB (decide (nextF x d ≠ -5 ∧ r (126 + nextF x d) = side + 1) || _)
        rw [hf, Bool.false_or]
      refine ZW.iload_n dX4_isSeenByFort_14 rfl ?_
      refine ZW.bipush dX4_isSeenByFort_15 rfl ?_
      refine ZW.icmp_ge (tgt := 63) dX4_isSeenByFort_17 (by decide) (by first | omega | exact zB_R _) (by first | omega | exact zB_R _) (fun c17 => ?_) (fun c17 => ?_)
      · exact absurd c17 (by omega)
      · refine ZW.aload_n dX4_isSeenByFort_20 rfl ?_
        refine ZW.getR dX4_isSeenByFort_21 fl_X4_45 ⟨_, rfl, rfl⟩ ?_
        refine ZW.getR dX4_isSeenByFort_24 fl_X4_97 ⟨_, rfl, rfl⟩ ?_
        refine ZW.iload_n dX4_isSeenByFort_27 rfl ?_
        refine ZW.bipush dX4_isSeenByFort_28 rfl ?_
        refine ZW.imul dX4_isSeenByFort_30 ?_
        refine ZW.iload_n dX4_isSeenByFort_31 rfl ?_
        refine ZW.iadd dX4_isSeenByFort_32 ?_
        refine ZW.iald dX4_isSeenByFort_33 rfl (by decide) (by omega) rfl ?_
        rw [h1]
        refine ZW.istore dX4_isSeenByFort_34 (by decide) rfl ?_
        refine ZW.iload dX4_isSeenByFort_36 rfl ?_
        refine ZW.callS (as := [_]) dX4_isSeenByFort_38 cs_X4_100 rfl (by decide) (Nat.le_of_ble_eq_true rfl) rfl (c_X0_isHex _ (by omega)) (fun v1 g1 ⟨q1, q2⟩ => ?_)
        subst q1; subst q2
        rw [nbF_hex]
        refine ZW.if_eq (tgt := 57) dX4_isSeenByFort_41 (by decide) (by first | omega | exact zB_R _) (fun c41 => ?_) (fun c41 => ?_)
        · have e := of_decide_eq_false (zB_eq c41)
          exact no (decide_eq_false (fun q => e q.1)) _
        · have e := of_decide_eq_true (zB_ne c41)
          have hr := (nextF_R (x := x) (d := d)).resolve_left e
          have hnb : nbF x d = nextF x d := by unfold nbF; rw [if_neg e]
          have hf := (st_x hS hr).2.2.1
          have hgf := hA.1.1.1 (126 + nextF x d) (by omega) (by omega)
          rw [hnb]
          refine ZW.aload_n dX4_isSeenByFort_44 rfl ?_
          refine ZW.getR dX4_isSeenByFort_45 fl_X4_18 ⟨_, rfl, rfl⟩ ?_
          refine ZW.iload dX4_isSeenByFort_48 rfl ?_
          refine ZW.iald dX4_isSeenByFort_50 rfl (by decide) (by omega) rfl ?_
          rw [hf]
          refine ZW.iload_n dX4_isSeenByFort_51 rfl ?_
          refine ZW.icmp_ne (tgt := 57) dX4_isSeenByFort_52 (by decide) (by first | omega | exact zB_R _) (by first | omega | exact zB_R _) (fun c52 => ?_) (fun c52 => ?_)
          · exact no (decide_eq_false (fun q => by have := q.2; omega)) _
          · refine ZW.iconst dX4_isSeenByFort_55 ?_
            refine ZW.iretz dX4_isSeenByFort_56 rfl (by first | exact Or.inl rfl | exact Or.inr rfl | assumption | omega) ?_
            refine ⟨?_, rfl⟩
            show _ = zB (decide (nextF x d ≠ -5 ∧ r (126 + nextF x d) = side + 1) || _)
            rw [decide_eq_true (show nextF x d ≠ -5 ∧ r (126 + nextF x d) = side + 1 from ⟨e, by omega⟩)]
            rfl
  refine ZW.aload_n dX4_isSeenByFort_0 rfl ?_
  refine ZW.getR dX4_isSeenByFort_1 fl_X4_18 ⟨_, rfl, rfl⟩ ?_
  refine ZW.iload_n dX4_isSeenByFort_4 rfl ?_
  refine ZW.iald dX4_isSeenByFort_5 rfl (by decide) (by omega) rfl ?_
  rw [hX.2.2.1]
  refine ZW.iload_n dX4_isSeenByFort_6 rfl ?_
  refine ZW.icmp_ne (tgt := 12) dX4_isSeenByFort_7 (by decide) (by first | omega | exact zB_R _) (by first | omega | exact zB_R _) (fun c7 => ?_) (fun c7 => ?_)
  · refine ZW.iconst dX4_isSeenByFort_12 ?_
    refine ZW.istore_n dX4_isSeenByFort_13 (by decide) rfl ?_
    refine ZW.mono (loop 6 0 _ (by omega) (by omega)) (fun v g' hh => ⟨?_, hh.2⟩)
    rw [hh.1]
    unfold seesN
    rw [decide_eq_false (show ¬ r (126 + x) = side + 1 by omega), Bool.false_or]
  · refine ZW.iconst dX4_isSeenByFort_10 ?_
    refine ZW.iretz dX4_isSeenByFort_11 rfl (by first | exact Or.inl rfl | exact Or.inr rfl | assumption | omega) ?_
    refine ⟨?_, rfl⟩
    unfold seesN
    rw [decide_eq_true (show r (126 + x) = side + 1 by omega)]
    rfl
theorem c_X4_isSeen (g : ZH) {r : Int → Int} (hA : okA r) (hS : StN g r) (hb : BdN g) {side x : Int} (hs : 0 ≤ side ∧ side < 2) (hx : 0 ≤ x ∧ x < 63) : ZC 3 mX4_isSeen [.inr 3, .inl side, .inl x] g (fun v g' => v = zB (seesF r side x) ∧ g' = g) := by
  have hT := seesN_T (r := r) (side := side) hx
  refine ZC.of (by decide +kernel) (Nat.le_of_ble_eq_true rfl) ?_
  refine ZW.aload_n dX4_isSeen_0 rfl ?_
  refine ZW.iload_n dX4_isSeen_1 rfl ?_
  refine ZW.iload_n dX4_isSeen_2 rfl ?_
  refine ZW.callV (as := [_, _]) dX4_isSeen_3 cv_X4_103 ⟨_, rfl⟩ rfl (by decide) (Nat.le_of_ble_eq_true rfl) rfl (c_X4_isSeenByUnit _ hA hS (by omega) hx) (fun v1 g1 ⟨q1, q2⟩ => ?_)
  subst q1; subst q2
  refine ZW.if_ne (tgt := 18) dX4_isSeen_6 (by decide) (by first | omega | exact zB_R _) (fun c6 => ?_) (fun c6 => ?_)
  · have e := zB_ne c6
    refine ZW.iconst dX4_isSeen_18 ?_
    refine ZW.goto (tgt := 23) dX4_isSeen_19 (by decide) ?_
    refine ZW.iretz dX4_isSeen_23 rfl (by first | exact Or.inl rfl | exact Or.inr rfl | assumption | omega) ?_
    exact ⟨by unfold seesF; rw [e]; rfl, rfl⟩
  · have e := zB_eq c6
    refine ZW.aload_n dX4_isSeen_9 rfl ?_
    refine ZW.iload_n dX4_isSeen_10 rfl ?_
    refine ZW.iload_n dX4_isSeen_11 rfl ?_
    refine ZW.callV (as := [_, _]) dX4_isSeen_12 cv_X4_106 ⟨_, rfl⟩ rfl (by decide) (Nat.le_of_ble_eq_true rfl) rfl (c_X4_isSeenByFort _ hA hS hb hs hx) (fun v1 g2 ⟨q1, q2⟩ => ?_)
    subst q1; subst q2
    refine ZW.if_eq (tgt := 22) dX4_isSeen_15 (by decide) (by first | omega | exact zB_R _) (fun c15 => ?_) (fun c15 => ?_)
    · have e2 := zB_eq c15
      refine ZW.iconst dX4_isSeen_22 ?_
      refine ZW.iretz dX4_isSeen_23 rfl (by first | exact Or.inl rfl | exact Or.inr rfl | assumption | omega) ?_
      exact ⟨by unfold seesF; rw [e, hT, e2]; rfl, rfl⟩
    · have e2 := zB_ne c15
      refine ZW.iconst dX4_isSeen_18 ?_
      refine ZW.goto (tgt := 23) dX4_isSeen_19 (by decide) ?_
      refine ZW.iretz dX4_isSeen_23 rfl (by first | exact Or.inl rfl | exact Or.inr rfl | assumption | omega) ?_
      exact ⟨by unfold seesF; rw [e, hT, e2]; rfl, rfl⟩
theorem cntF_s (p : Int → Int) (n : Nat) (i : Int) : cntF p (n + 1) i = p i + cntF p n (i + 1) := rfl
theorem c_X4_seenCount (g : ZH) {r : Int → Int} (hA : okA r) (hS : StN g r) (hb : BdN g) {side : Int} (hs : 0 ≤ side ∧ side < 2) : ZC 4 mX4_seenCount [.inr 3, .inl side] g (fun v g' => v = seenF r side ∧ g' = g) := by
  refine ZC.of (by decide +kernel) (Nat.le_of_ble_eq_true rfl) ?_
  have loop : ∀ (n : Nat) (x acc : Int), 0 ≤ x → x + n = 63 → ZW 4 mX4_seenCount 4 [some (.inr 3), some (.inl side), some (.inl acc), some (.inl x)] [] g (fun v g' => v = acc + cntF (fun x => zB (seesF r side x)) n x ∧ g' = g) := by
    intro n
    induction n with
    | zero =>
      intro x acc h0 hn
      refine ZW.iload_n dX4_seenCount_4 rfl ?_
      refine ZW.bipush dX4_seenCount_5 rfl ?_
      refine ZW.icmp_ge (tgt := 33) dX4_seenCount_7 (by decide) (by first | omega | exact zB_R _) (by first | omega | exact zB_R _) (fun c7 => ?_) (fun c7 => ?_)
      · refine ZW.iload_n dX4_seenCount_33 rfl ?_
        refine ZW.ireti dX4_seenCount_34 rfl ?_
        exact ⟨by simp [cntF], rfl⟩
      · exact absurd c7 (by omega)
    | succ n ih =>
      intro x acc h0 hn
      refine ZW.iload_n dX4_seenCount_4 rfl ?_
      refine ZW.bipush dX4_seenCount_5 rfl ?_
      refine ZW.icmp_ge (tgt := 33) dX4_seenCount_7 (by decide) (by first | omega | exact zB_R _) (by first | omega | exact zB_R _) (fun c7 => ?_) (fun c7 => ?_)
      · exact absurd c7 (by omega)
      · refine ZW.iload_n dX4_seenCount_10 rfl ?_
        refine ZW.aload_n dX4_seenCount_11 rfl ?_
        refine ZW.iload_n dX4_seenCount_12 rfl ?_
        refine ZW.iload_n dX4_seenCount_13 rfl ?_
        refine ZW.callV (as := [_, _]) dX4_seenCount_14 cv_X4_112 ⟨_, rfl⟩ rfl (by decide) (Nat.le_of_ble_eq_true rfl) rfl (c_X4_isSeen _ hA hS hb hs ⟨h0, by omega⟩) (fun v1 g1 ⟨q1, q2⟩ => ?_)
        subst q1; subst q2
        refine ZW.if_eq (tgt := 24) dX4_seenCount_17 (by decide) (by first | omega | exact zB_R _) (fun c17 => ?_) (fun c17 => ?_)
        · have e := zB_eq c17
          refine ZW.iconst dX4_seenCount_24 ?_
          refine ZW.iadd dX4_seenCount_25 ?_
          refine ZW.istore_n dX4_seenCount_26 (by decide) rfl ?_
          refine ZW.iinc dX4_seenCount_27 rfl (by decide) rfl ?_
          refine ZW.goto (tgt := 4) dX4_seenCount_30 (by decide) ?_
          refine ZW.mono (ih (x + 1) _ (by omega) (by omega)) (fun v g' hh => ⟨?_, hh.2⟩)
          rw [hh.1, cntF_s, e, zB_f]; omega
        · have e := zB_ne c17
          refine ZW.iconst dX4_seenCount_20 ?_
          refine ZW.goto (tgt := 25) dX4_seenCount_21 (by decide) ?_
          refine ZW.iadd dX4_seenCount_25 ?_
          refine ZW.istore_n dX4_seenCount_26 (by decide) rfl ?_
          refine ZW.iinc dX4_seenCount_27 rfl (by decide) rfl ?_
          refine ZW.goto (tgt := 4) dX4_seenCount_30 (by decide) ?_
          refine ZW.mono (ih (x + 1) _ (by omega) (by omega)) (fun v g' hh => ⟨?_, hh.2⟩)
          rw [hh.1, cntF_s, e, zB_t]; omega
  refine ZW.iconst dX4_seenCount_0 ?_
  refine ZW.istore_n dX4_seenCount_1 (by decide) rfl ?_
  refine ZW.iconst dX4_seenCount_2 ?_
  refine ZW.istore_n dX4_seenCount_3 (by decide) rfl ?_
  refine ZW.mono (loop 63 0 0 (by omega) (by omega)) (fun v g' hh => ⟨?_, hh.2⟩)
  rw [hh.1, Int.zero_add]; rfl
theorem c_X4_unitCount (g : ZH) {r : Int → Int} (hA : okA r) (hS : StN g r) {side : Int} (hs : zR side) : ZC 2 mX4_unitCount [.inr 3, .inl side] g (fun v g' => v = unitsF r side (-5) ∧ g' = g) := by
  have h192 := hA.1.1.1 192 (by decide) (by decide)
  have h16 := hA.1.1.2
  refine ZC.of (by decide +kernel) (Nat.le_of_ble_eq_true rfl) ?_
  have loop : ∀ (n : Nat) (u acc : Int), 0 ≤ u → u + n = r 192 → ZW 2 mX4_unitCount 4 [some (.inr 3), some (.inl side), some (.inl acc), some (.inl u)] [] g (fun v g' => v = acc + cntF (uoW r side (-5)) n u ∧ g' = g) := by
    intro n
    induction n with
    | zero =>
      intro u acc h0 hn
      refine ZW.iload_n dX4_unitCount_4 rfl ?_
      refine ZW.aload_n dX4_unitCount_5 rfl ?_
      refine ZW.getI (fz := 6) dX4_unitCount_6 fl_X4_61 ⟨_, rfl, rfl⟩ rfl rfl ?_
      rw [hS.2.2.1.1]
      refine ZW.icmp_ge (tgt := 35) dX4_unitCount_9 (by decide) (by first | omega | exact zB_R _) (by first | omega | exact zB_R _) (fun c9 => ?_) (fun c9 => ?_)
      · refine ZW.iload_n dX4_unitCount_35 rfl ?_
        refine ZW.ireti dX4_unitCount_36 rfl ?_
        exact ⟨by simp [cntF], rfl⟩
      · exact absurd c9 (by omega)
    | succ n ih =>
      intro u acc h0 hn
      refine ZW.iload_n dX4_unitCount_4 rfl ?_
      refine ZW.aload_n dX4_unitCount_5 rfl ?_
      refine ZW.getI (fz := 6) dX4_unitCount_6 fl_X4_61 ⟨_, rfl, rfl⟩ rfl rfl ?_
      rw [hS.2.2.1.1]
      refine ZW.icmp_ge (tgt := 35) dX4_unitCount_9 (by decide) (by first | omega | exact zB_R _) (by first | omega | exact zB_R _) (fun c9 => ?_) (fun c9 => ?_)
      · exact absurd c9 (by omega)
      · refine ZW.iload_n dX4_unitCount_12 rfl ?_
        refine ZW.aload_n dX4_unitCount_13 rfl ?_
        refine ZW.iload_n dX4_unitCount_14 rfl ?_
        refine ZW.iload_n dX4_unitCount_15 rfl ?_
        refine ZW.callV (as := [_, _]) dX4_unitCount_16 cv_X4_93 ⟨_, rfl⟩ rfl (by decide) (Nat.le_of_ble_eq_true rfl) rfl (c_X4_isUnitOf _ hA hS ⟨h0, by omega⟩ hs) (fun v1 g1 ⟨q1, q2⟩ => ?_)
        subst q1; subst q2
        refine ZW.if_eq (tgt := 26) dX4_unitCount_19 (by decide) (by first | omega | exact zB_R _) (fun c19 => ?_) (fun c19 => ?_)
        · have e := of_decide_eq_false (zB_eq c19)
          refine ZW.iconst dX4_unitCount_26 ?_
          refine ZW.iadd dX4_unitCount_27 ?_
          refine ZW.istore_n dX4_unitCount_28 (by decide) rfl ?_
          refine ZW.iinc dX4_unitCount_29 rfl (by decide) rfl ?_
          refine ZW.goto (tgt := 4) dX4_unitCount_32 (by decide) ?_
          refine ZW.mono (ih (u + 1) _ (by omega) (by omega)) (fun v g' hh => ⟨?_, hh.2⟩)
          rw [hh.1, cntF_s, show uoW r side (-5) u = 0 by unfold uoW; rw [if_neg e]]; omega
        · have e := of_decide_eq_true (zB_ne c19)
          refine ZW.iconst dX4_unitCount_22 ?_
          refine ZW.goto (tgt := 27) dX4_unitCount_23 (by decide) ?_
          refine ZW.iadd dX4_unitCount_27 ?_
          refine ZW.istore_n dX4_unitCount_28 (by decide) rfl ?_
          refine ZW.iinc dX4_unitCount_29 rfl (by decide) rfl ?_
          refine ZW.goto (tgt := 4) dX4_unitCount_32 (by decide) ?_
          refine ZW.mono (ih (u + 1) _ (by omega) (by omega)) (fun v g' hh => ⟨?_, hh.2⟩)
          rw [hh.1, cntF_s, show uoW r side (-5) u = 1 by unfold uoW; rw [if_pos e]; rfl]; omega
  refine ZW.iconst dX4_unitCount_0 ?_
  refine ZW.istore_n dX4_unitCount_1 (by decide) rfl ?_
  refine ZW.iconst dX4_unitCount_2 ?_
  refine ZW.istore_n dX4_unitCount_3 (by decide) rfl ?_
  refine ZW.mono (loop (r 192).toNat 0 0 (by omega) (by omega)) (fun v g' hh => ⟨?_, hh.2⟩)
  rw [hh.1, Int.zero_add]; rfl
theorem c_X4_strengthOf (g : ZH) {r : Int → Int} (hA : okA r) (hS : StN g r) {side : Int} (hs : zR side) : ZC 2 mX4_strengthOf [.inr 3, .inl side] g (fun v g' => v = unitsF r side 1 ∧ g' = g) := by
  have h192 := hA.1.1.1 192 (by decide) (by decide)
  have h16 := hA.1.1.2
  refine ZC.of (by decide +kernel) (Nat.le_of_ble_eq_true rfl) ?_
  have loop : ∀ (n : Nat) (u acc : Int), 0 ≤ u → u + n = r 192 → ZW 2 mX4_strengthOf 4 [some (.inr 3), some (.inl side), some (.inl acc), some (.inl u)] [] g (fun v g' => v = acc + cntF (uoW r side 1) n u ∧ g' = g) := by
    intro n
    induction n with
    | zero =>
      intro u acc h0 hn
      refine ZW.iload_n dX4_strengthOf_4 rfl ?_
      refine ZW.aload_n dX4_strengthOf_5 rfl ?_
      refine ZW.getI (fz := 6) dX4_strengthOf_6 fl_X4_61 ⟨_, rfl, rfl⟩ rfl rfl ?_
      rw [hS.2.2.1.1]
      refine ZW.icmp_ge (tgt := 40) dX4_strengthOf_9 (by decide) (by first | omega | exact zB_R _) (by first | omega | exact zB_R _) (fun c9 => ?_) (fun c9 => ?_)
      · refine ZW.iload_n dX4_strengthOf_40 rfl ?_
        refine ZW.ireti dX4_strengthOf_41 rfl ?_
        exact ⟨by simp [cntF], rfl⟩
      · exact absurd c9 (by omega)
    | succ n ih =>
      intro u acc h0 hn
      have hst := (st_u hS h0 (by omega)).2.1
      refine ZW.iload_n dX4_strengthOf_4 rfl ?_
      refine ZW.aload_n dX4_strengthOf_5 rfl ?_
      refine ZW.getI (fz := 6) dX4_strengthOf_6 fl_X4_61 ⟨_, rfl, rfl⟩ rfl rfl ?_
      rw [hS.2.2.1.1]
      refine ZW.icmp_ge (tgt := 40) dX4_strengthOf_9 (by decide) (by first | omega | exact zB_R _) (by first | omega | exact zB_R _) (fun c9 => ?_) (fun c9 => ?_)
      · exact absurd c9 (by omega)
      · refine ZW.iload_n dX4_strengthOf_12 rfl ?_
        refine ZW.aload_n dX4_strengthOf_13 rfl ?_
        refine ZW.iload_n dX4_strengthOf_14 rfl ?_
        refine ZW.iload_n dX4_strengthOf_15 rfl ?_
        refine ZW.callV (as := [_, _]) dX4_strengthOf_16 cv_X4_93 ⟨_, rfl⟩ rfl (by decide) (Nat.le_of_ble_eq_true rfl) rfl (c_X4_isUnitOf _ hA hS ⟨h0, by omega⟩ hs) (fun v1 g1 ⟨q1, q2⟩ => ?_)
        subst q1; subst q2
        refine ZW.if_eq (tgt := 31) dX4_strengthOf_19 (by decide) (by first | omega | exact zB_R _) (fun c19 => ?_) (fun c19 => ?_)
        · have e := of_decide_eq_false (zB_eq c19)
          refine ZW.iconst dX4_strengthOf_31 ?_
          refine ZW.iadd dX4_strengthOf_32 ?_
          refine ZW.istore_n dX4_strengthOf_33 (by decide) rfl ?_
          refine ZW.iinc dX4_strengthOf_34 rfl (by decide) rfl ?_
          refine ZW.goto (tgt := 4) dX4_strengthOf_37 (by decide) ?_
          refine ZW.mono (ih (u + 1) _ (by omega) (by omega)) (fun v g' hh => ⟨?_, hh.2⟩)
          rw [hh.1, cntF_s, show uoW r side 1 u = 0 by unfold uoW; rw [if_neg e]]; omega
        · have e := of_decide_eq_true (zB_ne c19)
          refine ZW.aload_n dX4_strengthOf_22 rfl ?_
          refine ZW.getR dX4_strengthOf_23 fl_X4_30 ⟨_, rfl, rfl⟩ ?_
          refine ZW.iload_n dX4_strengthOf_26 rfl ?_
          refine ZW.iald dX4_strengthOf_27 rfl (by decide) (by omega) rfl ?_
          refine ZW.goto (tgt := 32) dX4_strengthOf_28 (by decide) ?_
          refine ZW.iadd dX4_strengthOf_32 ?_
          refine ZW.istore_n dX4_strengthOf_33 (by decide) rfl ?_
          refine ZW.iinc dX4_strengthOf_34 rfl (by decide) rfl ?_
          refine ZW.goto (tgt := 4) dX4_strengthOf_37 (by decide) ?_
          refine ZW.mono (ih (u + 1) _ (by omega) (by omega)) (fun v g' hh => ⟨?_, hh.2⟩)
          rw [hh.1, cntF_s, show uoW r side 1 u = ofF r u 1 by unfold uoW; rw [if_pos e]; rfl, hst]; omega
  refine ZW.iconst dX4_strengthOf_0 ?_
  refine ZW.istore_n dX4_strengthOf_1 (by decide) rfl ?_
  refine ZW.iconst dX4_strengthOf_2 ?_
  refine ZW.istore_n dX4_strengthOf_3 (by decide) rfl ?_
  refine ZW.mono (loop (r 192).toNat 0 0 (by omega) (by omega)) (fun v g' hh => ⟨?_, hh.2⟩)
  rw [hh.1, Int.zero_add]; rfl
theorem c_X4_fortCount (g : ZH) {r : Int → Int} (hA : okA r) (hS : StN g r) {side : Int} (hs : 0 ≤ side ∧ side < 2) : ZC 0 mX4_fortCount [.inr 3, .inl side] g (fun v g' => v = fortsF r side ∧ g' = g) := by
  refine ZC.of (by decide +kernel) (Nat.le_of_ble_eq_true rfl) ?_
  have loop : ∀ (n : Nat) (x acc : Int), 0 ≤ x → x + n = 63 → ZW 0 mX4_fortCount 4 [some (.inr 3), some (.inl side), some (.inl acc), some (.inl x)] [] g (fun v g' => v = acc + cntF (fun x => zB (decide (r (126 + x) = side + 1))) n x ∧ g' = g) := by
    intro n
    induction n with
    | zero =>
      intro x acc h0 hn
      refine ZW.iload_n dX4_fortCount_4 rfl ?_
      refine ZW.bipush dX4_fortCount_5 rfl ?_
      refine ZW.icmp_ge (tgt := 34) dX4_fortCount_7 (by decide) (by first | omega | exact zB_R _) (by first | omega | exact zB_R _) (fun c7 => ?_) (fun c7 => ?_)
      · refine ZW.iload_n dX4_fortCount_34 rfl ?_
        refine ZW.ireti dX4_fortCount_35 rfl ?_
        exact ⟨by simp [cntF], rfl⟩
      · exact absurd c7 (by omega)
    | succ n ih =>
      intro x acc h0 hn
      have hX := (st_x hS (x := x) ⟨h0, by omega⟩).2.2.1
      have hgf := hA.1.1.1 (126 + x) (by omega) (by omega)
      refine ZW.iload_n dX4_fortCount_4 rfl ?_
      refine ZW.bipush dX4_fortCount_5 rfl ?_
      refine ZW.icmp_ge (tgt := 34) dX4_fortCount_7 (by decide) (by first | omega | exact zB_R _) (by first | omega | exact zB_R _) (fun c7 => ?_) (fun c7 => ?_)
      · exact absurd c7 (by omega)
      · refine ZW.iload_n dX4_fortCount_10 rfl ?_
        refine ZW.aload_n dX4_fortCount_11 rfl ?_
        refine ZW.getR dX4_fortCount_12 fl_X4_18 ⟨_, rfl, rfl⟩ ?_
        refine ZW.iload_n dX4_fortCount_15 rfl ?_
        refine ZW.iald dX4_fortCount_16 rfl (by decide) (by omega) rfl ?_
        rw [hX]
        refine ZW.iload_n dX4_fortCount_17 rfl ?_
        refine ZW.icmp_ne (tgt := 25) dX4_fortCount_18 (by decide) (by first | omega | exact zB_R _) (by first | omega | exact zB_R _) (fun c18 => ?_) (fun c18 => ?_)
        · refine ZW.iconst dX4_fortCount_25 ?_
          refine ZW.iadd dX4_fortCount_26 ?_
          refine ZW.istore_n dX4_fortCount_27 (by decide) rfl ?_
          refine ZW.iinc dX4_fortCount_28 rfl (by decide) rfl ?_
          refine ZW.goto (tgt := 4) dX4_fortCount_31 (by decide) ?_
          refine ZW.mono (ih (x + 1) _ (by omega) (by omega)) (fun v g' hh => ⟨?_, hh.2⟩)
          rw [hh.1, cntF_s, decide_eq_false (show ¬ r (126 + x) = side + 1 by omega), zB_f]; omega
        · refine ZW.iconst dX4_fortCount_21 ?_
          refine ZW.goto (tgt := 26) dX4_fortCount_22 (by decide) ?_
          refine ZW.iadd dX4_fortCount_26 ?_
          refine ZW.istore_n dX4_fortCount_27 (by decide) rfl ?_
          refine ZW.iinc dX4_fortCount_28 rfl (by decide) rfl ?_
          refine ZW.goto (tgt := 4) dX4_fortCount_31 (by decide) ?_
          refine ZW.mono (ih (x + 1) _ (by omega) (by omega)) (fun v g' hh => ⟨?_, hh.2⟩)
          rw [hh.1, cntF_s, decide_eq_true (show r (126 + x) = side + 1 by omega), zB_t]; omega
  refine ZW.iconst dX4_fortCount_0 ?_
  refine ZW.istore_n dX4_fortCount_1 (by decide) rfl ?_
  refine ZW.iconst dX4_fortCount_2 ?_
  refine ZW.istore_n dX4_fortCount_3 (by decide) rfl ?_
  refine ZW.mono (loop 63 0 0 (by omega) (by omega)) (fun v g' hh => ⟨?_, hh.2⟩)
  rw [hh.1, Int.zero_add]; rfl
