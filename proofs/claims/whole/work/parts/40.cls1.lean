-- THE CLASS. A State's rows hold the abstract state r
def uoN (r : Int → Int) (x : Int) : Int := if unitOnF r x = -5 then -1 else unitOnF r x
def StF (o gr ri fo un ba si st he po at_ sv : Int → Int) (r : Int → Int) : Prop :=
  (∀ x, 0 ≤ x → x < 63 → gr x = r x ∧ ri x = r (63 + x) ∧ fo x = r (126 + x) - 1 ∧ un x = uoN r x) ∧ (ba 0 = r 189 ∧ ba 1 = r 190) ∧ (o 6 = r 192 ∧ o 13 = r 191) ∧ (∀ u, 0 ≤ u → u < r 192 → si u = ofF r u 0 ∧ st u = ofF r u 1 ∧ he u = ofF r u 2 ∧ sv u = ofF r u 5 ∧ (0 < ofF r u 1 → po u = ofF r u 3 ∧ at_ u = ofF r u 4))
abbrev StN (g : ZH) (r : Int → Int) : Prop := StF (g 3) (g 4) (g 5) (g 6) (g 7) (g 8) (g 9) (g 10) (g 11) (g 12) (g 13) (g 14) r
def nbF (x d : Int) : Int := if nextF x d = -5 then -1 else nextF x d
def BdN (g : ZH) : Prop := ∀ x d, 0 ≤ x → x < 63 → 0 ≤ d → d < 6 → g 2 (x * 6 + d) = nbF x d
theorem nbF_R (x d : Int) : -1 ≤ nbF x d ∧ nbF x d < 63 := by
  have h := nextF_R (x := x) (d := d)
  unfold nbF
  split <;> omega
theorem nbF_hex (x d : Int) : isHexB (nbF x d) = decide (nextF x d ≠ -5) := by
  have h := nextF_R (x := x) (d := d)
  unfold nbF isHexB
  split
  · next q => rw [q]; decide
  · next q => rw [decide_eq_true q, decide_eq_true (h.resolve_left q)]
def dirN (x o : Int) : Int := if dirF x o = -5 then -1 else dirF x o
theorem c_X0_directionTo (g : ZH) (hb : BdN g) {x o : Int} (hx : 0 ≤ x ∧ x < 63) (ho : 0 ≤ o ∧ o < 63) : ZC 0 mX0_directionTo [.inr 1, .inl x, .inl o] g (fun r g' => r = dirN x o ∧ g' = g) := by
  refine ZC.of (by decide +kernel) (Nat.le_of_ble_eq_true rfl) ?_
  have loop : ∀ (n : Nat) (d : Int), 0 ≤ d → d + n = 6 → dirF x o = dirG x o n d → ZW 0 mX0_directionTo 2 [some (.inr 1), some (.inl x), some (.inl o), some (.inl d)] [] g (fun r g' => r = dirN x o ∧ g' = g) := by
    intro n
    induction n with
    | zero =>
      intro d h0 hn he
      refine ZW.iload_n dX0_directionTo_2 rfl ?_
      refine ZW.bipush dX0_directionTo_3 rfl ?_
      refine ZW.icmp_ge (tgt := 31) dX0_directionTo_5 (by decide) (by first | omega | exact zB_R _) (by first | omega | exact zB_R _) (fun c5 => ?_) (fun c5 => ?_)
      · refine ZW.iconst dX0_directionTo_31 ?_
        refine ZW.ireti dX0_directionTo_32 rfl ?_
        exact ⟨by unfold dirN; rw [he]; rfl, rfl⟩
      · exact absurd c5 (by omega)
    | succ n ih =>
      intro d h0 hn he
      have h1 := hb x d hx.1 hx.2 h0 (by omega)
      have h2 := nbF_R x d
      refine ZW.iload_n dX0_directionTo_2 rfl ?_
      refine ZW.bipush dX0_directionTo_3 rfl ?_
      refine ZW.icmp_ge (tgt := 31) dX0_directionTo_5 (by decide) (by first | omega | exact zB_R _) (by first | omega | exact zB_R _) (fun c5 => ?_) (fun c5 => ?_)
      · exact absurd c5 (by omega)
      · refine ZW.aload_n dX0_directionTo_8 rfl ?_
        refine ZW.getR dX0_directionTo_9 fl_X0_9 ⟨_, rfl, rfl⟩ ?_
        refine ZW.iload_n dX0_directionTo_12 rfl ?_
        refine ZW.bipush dX0_directionTo_13 rfl ?_
        refine ZW.imul dX0_directionTo_15 ?_
        refine ZW.iload_n dX0_directionTo_16 rfl ?_
        refine ZW.iadd dX0_directionTo_17 ?_
        refine ZW.iald dX0_directionTo_18 rfl (by decide) (by omega) rfl ?_
        rw [h1]
        refine ZW.iload_n dX0_directionTo_19 rfl ?_
        refine ZW.icmp_ne (tgt := 25) dX0_directionTo_20 (by decide) (by first | omega | exact zB_R _) (by first | omega | exact zB_R _) (fun c20 => ?_) (fun c20 => ?_)
        · refine ZW.iinc dX0_directionTo_25 rfl (by decide) rfl ?_
          refine ZW.goto (tgt := 2) dX0_directionTo_28 (by decide) ?_
          refine ih (d + 1) (by omega) (by omega) ?_
          rw [he]
          refine if_neg (fun q => c20 ?_)
          unfold nbF
          rw [q, if_neg (by omega)]
        · refine ZW.iload_n dX0_directionTo_23 rfl ?_
          refine ZW.ireti dX0_directionTo_24 rfl ?_
          refine ⟨?_, rfl⟩
          have h3 : nextF x d = o := by
            unfold nbF at c20
            split at c20
            · omega
            · exact c20
          unfold dirN
          rw [he]
          unfold dirG
          rw [if_pos h3, if_neg (by omega)]
  refine ZW.iconst dX0_directionTo_0 ?_
  refine ZW.istore_n dX0_directionTo_1 (by decide) rfl ?_
  exact loop 6 0 (by omega) (by omega) rfl
theorem c_X0_neighbourCount (g : ZH) (hb : BdN g) {x : Int} (hx : 0 ≤ x ∧ x < 63) : ZC 1 mX0_neighbourCount [.inr 1, .inl x] g (fun r g' => r = besF x ∧ g' = g) := by
  refine ZC.of (by decide +kernel) (Nat.le_of_ble_eq_true rfl) ?_
  have loop : ∀ (n : Nat) (d acc : Int), 0 ≤ d → d + n = 6 → ZW 1 mX0_neighbourCount 4 [some (.inr 1), some (.inl x), some (.inl acc), some (.inl d)] [] g (fun r g' => r = acc + cntF (fun d => zB (decide (nextF x d ≠ -5))) n d ∧ g' = g) := by
    intro n
    induction n with
    | zero =>
      intro d acc h0 hn
      refine ZW.iload_n dX0_neighbourCount_4 rfl ?_
      refine ZW.bipush dX0_neighbourCount_5 rfl ?_
      refine ZW.icmp_ge (tgt := 41) dX0_neighbourCount_7 (by decide) (by first | omega | exact zB_R _) (by first | omega | exact zB_R _) (fun c7 => ?_) (fun c7 => ?_)
      · refine ZW.iload_n dX0_neighbourCount_41 rfl ?_
        refine ZW.ireti dX0_neighbourCount_42 rfl ?_
        exact ⟨by simp [cntF], rfl⟩
      · exact absurd c7 (by omega)
    | succ n ih =>
      intro d acc h0 hn
      have h1 := hb x d hx.1 hx.2 h0 (by omega)
      have h2 := nbF_R x d
      refine ZW.iload_n dX0_neighbourCount_4 rfl ?_
      refine ZW.bipush dX0_neighbourCount_5 rfl ?_
      refine ZW.icmp_ge (tgt := 41) dX0_neighbourCount_7 (by decide) (by first | omega | exact zB_R _) (by first | omega | exact zB_R _) (fun c7 => ?_) (fun c7 => ?_)
      · exact absurd c7 (by omega)
      · refine ZW.iload_n dX0_neighbourCount_10 rfl ?_
        refine ZW.aload_n dX0_neighbourCount_11 rfl ?_
        refine ZW.getR dX0_neighbourCount_12 fl_X0_9 ⟨_, rfl, rfl⟩ ?_
        refine ZW.iload_n dX0_neighbourCount_15 rfl ?_
        refine ZW.bipush dX0_neighbourCount_16 rfl ?_
        refine ZW.imul dX0_neighbourCount_18 ?_
        refine ZW.iload_n dX0_neighbourCount_19 rfl ?_
        refine ZW.iadd dX0_neighbourCount_20 ?_
        refine ZW.iald dX0_neighbourCount_21 rfl (by decide) (by omega) rfl ?_
        rw [h1]
        refine ZW.callS (as := [_]) dX0_neighbourCount_22 cs_X0_38 rfl (by decide) (Nat.le_of_ble_eq_true rfl) rfl (c_X0_isHex _ (by omega)) (fun r1 g1 ⟨q1, q2⟩ => ?_)
        subst q1; subst q2
        rw [nbF_hex]
        refine ZW.if_eq (tgt := 32) dX0_neighbourCount_25 (by decide) (by first | omega | exact zB_R _) (fun c25 => ?_) (fun c25 => ?_)
        · have e := zB_eq c25
          refine ZW.iconst dX0_neighbourCount_32 ?_
          refine ZW.iadd dX0_neighbourCount_33 ?_
          refine ZW.istore_n dX0_neighbourCount_34 (by decide) rfl ?_
          refine ZW.iinc dX0_neighbourCount_35 rfl (by decide) rfl ?_
          refine ZW.goto (tgt := 4) dX0_neighbourCount_38 (by decide) ?_
          refine ZW.mono (ih (d + 1) _ (by omega) (by omega)) (fun r g' hh => ⟨?_, hh.2⟩)
          rw [hh.1, show cntF (fun d => zB (decide (nextF x d ≠ -5))) (n + 1) d = zB (decide (nextF x d ≠ -5)) + cntF (fun d => zB (decide (nextF x d ≠ -5))) n (d + 1) from rfl, e, zB_f]
          omega
        · have e := zB_ne c25
          refine ZW.iconst dX0_neighbourCount_28 ?_
          refine ZW.goto (tgt := 33) dX0_neighbourCount_29 (by decide) ?_
          refine ZW.iadd dX0_neighbourCount_33 ?_
          refine ZW.istore_n dX0_neighbourCount_34 (by decide) rfl ?_
          refine ZW.iinc dX0_neighbourCount_35 rfl (by decide) rfl ?_
          refine ZW.goto (tgt := 4) dX0_neighbourCount_38 (by decide) ?_
          refine ZW.mono (ih (d + 1) _ (by omega) (by omega)) (fun r g' hh => ⟨?_, hh.2⟩)
          rw [hh.1, show cntF (fun d => zB (decide (nextF x d ≠ -5))) (n + 1) d = zB (decide (nextF x d ≠ -5)) + cntF (fun d => zB (decide (nextF x d ≠ -5))) n (d + 1) from rfl, e, zB_t]
          omega
  refine ZW.iconst dX0_neighbourCount_0 ?_
  refine ZW.istore_n dX0_neighbourCount_1 (by decide) rfl ?_
  refine ZW.iconst dX0_neighbourCount_2 ?_
  refine ZW.istore_n dX0_neighbourCount_3 (by decide) rfl ?_
  refine ZW.mono (loop 6 0 0 (by omega) (by omega)) (fun r g' hh => ⟨?_, hh.2⟩)
  rw [hh.1, Int.zero_add]; rfl
-- the State, asked
section CLS
theorem st_u {g : ZH} {r : Int → Int} (h : StN g r) {u : Int} (h0 : 0 ≤ u) (h1 : u < r 192) : g 9 u = ofF r u 0 ∧ g 10 u = ofF r u 1 ∧ g 11 u = ofF r u 2 ∧ g 14 u = ofF r u 5 ∧ (0 < ofF r u 1 → g 12 u = ofF r u 3 ∧ g 13 u = ofF r u 4) := h.2.2.2 u h0 h1
theorem st_x {g : ZH} {r : Int → Int} (h : StN g r) {x : Int} (hx : 0 ≤ x ∧ x < 63) : g 4 x = r x ∧ g 5 x = r (63 + x) ∧ g 6 x = r (126 + x) - 1 ∧ g 7 x = uoN r x := h.1 x hx.1 hx.2
theorem c_X4_sideInTurn (g : ZH) {r : Int → Int} (hA : okA r) (hS : StN g r) : ZC 0 mX4_sideInTurn [.inr 3] g (fun v g' => v = r 191 % 2 ∧ g' = g) := by
  have h1 := hA.1.1.1 191 (by decide) (by decide)
  have h2 := hS.2.2.1.2
  refine ZC.of (by decide +kernel) (Nat.le_of_ble_eq_true rfl) ?_
  refine ZW.aload_n dX4_sideInTurn_0 rfl ?_
  refine ZW.getI (fz := 13) dX4_sideInTurn_1 fl_X4_65 ⟨_, rfl, rfl⟩ rfl rfl ?_
  rw [h2]
  refine ZW.iconst dX4_sideInTurn_4 ?_
  refine ZW.irem dX4_sideInTurn_5 (by omega) ?_
  refine ZW.ireti dX4_sideInTurn_6 rfl ?_
  exact ⟨rfl, rfl⟩
theorem c_X4_isUnit (g : ZH) {r : Int → Int} (hA : okA r) (hS : StN g r) {u : Int} (hu : zR u) : ZC 0 mX4_isUnit [.inr 3, .inl u] g (fun v g' => v = zB (isUnitB r u) ∧ g' = g) := by
  have h1 := hA.1.1.1 192 (by decide) (by decide)
  have h16 := hA.1.1.2
  have h2 := hS.2.2.1.1
  refine ZC.of (by decide +kernel) (Nat.le_of_ble_eq_true rfl) ?_
  have no : ¬ (0 ≤ u ∧ u < r 192 ∧ 0 < ofF r u 1) → ZW 0 mX4_isUnit 31 [some (.inr 3), some (.inl u)] [] g (fun v g' => v = zB (isUnitB r u) ∧ g' = g) := by
    intro hno
    refine ZW.iconst dX4_isUnit_31 ?_
    refine ZW.iretz dX4_isUnit_32 rfl (by first | exact Or.inl rfl | exact Or.inr rfl | assumption | omega) ?_
    exact ⟨by unfold isUnitB; rw [decide_eq_false hno]; rfl, rfl⟩
  refine ZW.iload_n dX4_isUnit_0 rfl ?_
  refine ZW.if_lt (tgt := 31) dX4_isUnit_1 (by decide) (by first | omega | exact zB_R _) (fun c1 => ?_) (fun c1 => ?_)
  · exact no (by omega)
  · refine ZW.iload_n dX4_isUnit_4 rfl ?_
    refine ZW.aload_n dX4_isUnit_5 rfl ?_
    refine ZW.getI (fz := 6) dX4_isUnit_6 fl_X4_61 ⟨_, rfl, rfl⟩ rfl rfl ?_
    rw [h2]
    refine ZW.icmp_ge (tgt := 31) dX4_isUnit_9 (by decide) (by first | omega | exact zB_R _) (by first | omega | exact zB_R _) (fun c9 => ?_) (fun c9 => ?_)
    · exact no (by omega)
    · have hst := (st_u hS (u := u) (by omega) c9).2.1
      have hR := ofF_R hA.1.1 (u := u) (w := 1) (by omega) (by decide)
      refine ZW.iload_n dX4_isUnit_12 rfl ?_
      refine ZW.bipush dX4_isUnit_13 rfl ?_
      refine ZW.icmp_ge (tgt := 31) dX4_isUnit_15 (by decide) (by first | omega | exact zB_R _) (by first | omega | exact zB_R _) (fun c15 => ?_) (fun c15 => ?_)
      · exact absurd c15 (by omega)
      · refine ZW.aload_n dX4_isUnit_18 rfl ?_
        refine ZW.getR dX4_isUnit_19 fl_X4_30 ⟨_, rfl, rfl⟩ ?_
        refine ZW.iload_n dX4_isUnit_22 rfl ?_
        refine ZW.iald dX4_isUnit_23 rfl (by decide) (by omega) rfl ?_
        rw [hst]
        refine ZW.if_le (tgt := 31) dX4_isUnit_24 (by decide) (by first | omega | exact zB_R _) (fun c24 => ?_) (fun c24 => ?_)
        · exact no (by omega)
        · refine ZW.iconst dX4_isUnit_27 ?_
          refine ZW.goto (tgt := 32) dX4_isUnit_28 (by decide) ?_
          refine ZW.iretz dX4_isUnit_32 rfl (by first | exact Or.inl rfl | exact Or.inr rfl | assumption | omega) ?_
          exact ⟨by unfold isUnitB; rw [decide_eq_true ⟨by omega, by omega, by omega⟩]; rfl, rfl⟩
def unitB (r : Int → Int) (side u : Int) : Bool := decide (0 < ofF r u 1 ∧ ofF r u 0 = side)
theorem c_X4_isUnitOf (g : ZH) {r : Int → Int} (hA : okA r) (hS : StN g r) {u side : Int} (hu : 0 ≤ u ∧ u < r 192) (hs : zR side) : ZC 1 mX4_isUnitOf [.inr 3, .inl u, .inl side] g (fun v g' => v = zB (unitB r side u) ∧ g' = g) := by
  have h16 := hA.1.1.2
  have hst := st_u hS hu.1 hu.2
  have hR := ofU_R hA.1.1 (u := u) (w := 0) (by omega) (by decide)
  refine ZC.of (by decide +kernel) (Nat.le_of_ble_eq_true rfl) ?_
  refine ZW.aload_n dX4_isUnitOf_0 rfl ?_
  refine ZW.iload_n dX4_isUnitOf_1 rfl ?_
  refine ZW.callV (as := [_]) dX4_isUnitOf_2 cv_X4_68 ⟨_, rfl⟩ rfl (by decide) (Nat.le_of_ble_eq_true rfl) rfl (c_X4_isUnit _ hA hS (by omega)) (fun v1 g1 ⟨q1, q2⟩ => ?_)
  subst q1; subst q2
  refine ZW.if_eq (tgt := 22) dX4_isUnitOf_5 (by decide) (by first | omega | exact zB_R _) (fun c5 => ?_) (fun c5 => ?_)
  · have e := of_decide_eq_false (zB_eq c5)
    refine ZW.iconst dX4_isUnitOf_22 ?_
    refine ZW.iretz dX4_isUnitOf_23 rfl (by first | exact Or.inl rfl | exact Or.inr rfl | assumption | omega) ?_
    exact ⟨by unfold unitB; rw [decide_eq_false (by omega)]; rfl, rfl⟩
  · have e := of_decide_eq_true (zB_ne c5)
    refine ZW.aload_n dX4_isUnitOf_8 rfl ?_
    refine ZW.getR dX4_isUnitOf_9 fl_X4_27 ⟨_, rfl, rfl⟩ ?_
    refine ZW.iload_n dX4_isUnitOf_12 rfl ?_
    refine ZW.iald dX4_isUnitOf_13 rfl (by decide) (by omega) rfl ?_
    rw [hst.1]
    refine ZW.iload_n dX4_isUnitOf_14 rfl ?_
    refine ZW.icmp_ne (tgt := 22) dX4_isUnitOf_15 (by decide) (by first | omega | exact zB_R _) (by first | omega | exact zB_R _) (fun c15 => ?_) (fun c15 => ?_)
    · refine ZW.iconst dX4_isUnitOf_22 ?_
      refine ZW.iretz dX4_isUnitOf_23 rfl (by first | exact Or.inl rfl | exact Or.inr rfl | assumption | omega) ?_
      exact ⟨by unfold unitB; rw [decide_eq_false (fun q => c15 q.2)]; rfl, rfl⟩
    · refine ZW.iconst dX4_isUnitOf_18 ?_
      refine ZW.goto (tgt := 23) dX4_isUnitOf_19 (by decide) ?_
      refine ZW.iretz dX4_isUnitOf_23 rfl (by first | exact Or.inl rfl | exact Or.inr rfl | assumption | omega) ?_
      exact ⟨by unfold unitB; rw [decide_eq_true ⟨e.2.2, c15⟩]; rfl, rfl⟩
def sdF (r : Int → Int) (x : Int) : Int := if unitOnF r x = -5 then -1 else ofF r (unitOnF r x) 0
theorem sdF_R {r : Int → Int} (hA : okA r) (x : Int) : sdF r x = -1 ∨ sdF r x = 0 ∨ sdF r x = 1 := by
  unfold sdF
  split
  · exact Or.inl rfl
  · next q =>
    have h := (unitOnF_R hA.1.1 x).resolve_left q
    exact Or.inr (hA.1.2.1 _ h.1 h.2.2.1).1
theorem isOnB_sd {r : Int → Int} {x side : Int} (hs : side ≠ -1) : isOnB r x side = decide (sdF r x = side) := by
  unfold isOnB sdF
  split
  · next q => rw [decide_eq_false (fun z => z.1 q), decide_eq_false (fun z => hs z.symm)]
  · next q => simp [q]
theorem c_X4_sideOn (g : ZH) {r : Int → Int} (hA : okA r) (hS : StN g r) {x : Int} (hx : 0 ≤ x ∧ x < 63) : ZC 0 mX4_sideOn [.inr 3, .inl x] g (fun v g' => v = sdF r x ∧ g' = g) := by
  have hX := (st_x hS hx).2.2.2
  have hU := unitOnF_R hA.1.1 x
  have hR : -1 ≤ uoN r x ∧ uoN r x < 16 := by unfold uoN; split <;> omega
  refine ZC.of (by decide +kernel) (Nat.le_of_ble_eq_true rfl) ?_
  refine ZW.aload_n dX4_sideOn_0 rfl ?_
  refine ZW.getR dX4_sideOn_1 fl_X4_21 ⟨_, rfl, rfl⟩ ?_
  refine ZW.iload_n dX4_sideOn_4 rfl ?_
  refine ZW.iald dX4_sideOn_5 rfl (by decide) (by omega) rfl ?_
  rw [hX]
  refine ZW.istore_n dX4_sideOn_6 (by decide) rfl ?_
  refine ZW.iload_n dX4_sideOn_7 rfl ?_
  refine ZW.if_lt (tgt := 26) dX4_sideOn_8 (by decide) (by first | omega | exact zB_R _) (fun c8 => ?_) (fun c8 => ?_)
  · refine ZW.iconst dX4_sideOn_26 ?_
    refine ZW.ireti dX4_sideOn_27 rfl ?_
    refine ⟨?_, rfl⟩
    unfold uoN at c8
    unfold sdF
    split at c8
    · next q => rw [if_pos q]
    · next q => omega
  · refine ZW.iload_n dX4_sideOn_11 rfl ?_
    refine ZW.bipush dX4_sideOn_12 rfl ?_
    refine ZW.icmp_ge (tgt := 26) dX4_sideOn_14 (by decide) (by first | omega | exact zB_R _) (by first | omega | exact zB_R _) (fun c14 => ?_) (fun c14 => ?_)
    · exact absurd c14 (by omega)
    · have hq : unitOnF r x ≠ -5 := fun q => by unfold uoN at c8; rw [if_pos q] at c8; omega
      have hv : uoN r x = unitOnF r x := by unfold uoN; rw [if_neg hq]
      have hr := hU.resolve_left hq
      have hst := (st_u hS hr.1 hr.2.1).1
      refine ZW.aload_n dX4_sideOn_17 rfl ?_
      refine ZW.getR dX4_sideOn_18 fl_X4_27 ⟨_, rfl, rfl⟩ ?_
      refine ZW.iload_n dX4_sideOn_21 rfl ?_
      refine ZW.iald dX4_sideOn_22 rfl (by decide) (by omega) rfl ?_
      rw [hv, hst]
      refine ZW.goto (tgt := 27) dX4_sideOn_23 (by decide) ?_
      refine ZW.ireti dX4_sideOn_27 rfl ?_
      exact ⟨by unfold sdF; rw [if_neg hq], rfl⟩
theorem c_X4_hasFort (g : ZH) {r : Int → Int} (hA : okA r) (hS : StN g r) {x : Int} (hx : 0 ≤ x ∧ x < 63) : ZC 0 mX4_hasFort [.inr 3, .inl x] g (fun v g' => v = zB (decide (r (126 + x) ≠ 0)) ∧ g' = g) := by
  have hX := (st_x hS hx).2.2.1
  have hR := hA.1.1.1 (126 + x) (by omega) (by omega)
  refine ZC.of (by decide +kernel) (Nat.le_of_ble_eq_true rfl) ?_
  refine ZW.aload_n dX4_hasFort_0 rfl ?_
  refine ZW.getR dX4_hasFort_1 fl_X4_18 ⟨_, rfl, rfl⟩ ?_
  refine ZW.iload_n dX4_hasFort_4 rfl ?_
  refine ZW.iald dX4_hasFort_5 rfl (by decide) (by omega) rfl ?_
  rw [hX]
  refine ZW.iconst dX4_hasFort_6 ?_
  refine ZW.icmp_eq (tgt := 14) dX4_hasFort_7 (by decide) (by first | omega | exact zB_R _) (by first | omega | exact zB_R _) (fun c7 => ?_) (fun c7 => ?_)
  · refine ZW.iconst dX4_hasFort_14 ?_
    refine ZW.iretz dX4_hasFort_15 rfl (by first | exact Or.inl rfl | exact Or.inr rfl | assumption | omega) ?_
    exact ⟨by rw [decide_eq_false (fun q => by omega)]; rfl, rfl⟩
  · refine ZW.iconst dX4_hasFort_10 ?_
    refine ZW.goto (tgt := 15) dX4_hasFort_11 (by decide) ?_
    refine ZW.iretz dX4_hasFort_15 rfl (by first | exact Or.inl rfl | exact Or.inr rfl | assumption | omega) ?_
    exact ⟨by rw [decide_eq_true (show r (126 + x) ≠ 0 from fun q => by omega)]; rfl, rfl⟩
theorem c_X4_hasRiver (g : ZH) {r : Int → Int} (hA : okA r) (hS : StN g r) {x d : Int} (hx : 0 ≤ x ∧ x < 63) (hd : 0 ≤ d ∧ d < 6) : ZC 0 mX4_hasRiver [.inr 3, .inl x, .inl d] g (fun v g' => v = zB (rivB r x d) ∧ g' = g) := by
  have hX := (st_x hS hx).2.1
  have h1 := hA.1.1.1 (63 + x) (by omega) (by omega)
  have h2 := bit_R (v := r (63 + x)) (d := d) (by omega) hd
  refine ZC.of (by decide +kernel) (Nat.le_of_ble_eq_true rfl) ?_
  refine ZW.aload_n dX4_hasRiver_0 rfl ?_
  refine ZW.getR dX4_hasRiver_1 fl_X4_15 ⟨_, rfl, rfl⟩ ?_
  refine ZW.iload_n dX4_hasRiver_4 rfl ?_
  refine ZW.iald dX4_hasRiver_5 rfl (by decide) (by omega) rfl ?_
  rw [hX]
  refine ZW.iload_n dX4_hasRiver_6 rfl ?_
  refine ZW.ishr dX4_hasRiver_7 (iI_shr (by omega) hd) ?_
  refine ZW.iconst dX4_hasRiver_8 ?_
  refine ZW.iand dX4_hasRiver_9 (iI_and1 h2) ?_
  refine ZW.iconst dX4_hasRiver_10 ?_
  refine ZW.icmp_ne (tgt := 18) dX4_hasRiver_11 (by decide) (by first | omega | exact zB_R _) (by first | omega | exact zB_R _) (fun c11 => ?_) (fun c11 => ?_)
  · refine ZW.iconst dX4_hasRiver_18 ?_
    refine ZW.iretz dX4_hasRiver_19 rfl (by first | exact Or.inl rfl | exact Or.inr rfl | assumption | omega) ?_
    exact ⟨by simp [rivB, bitB, zB, c11], rfl⟩
  · refine ZW.iconst dX4_hasRiver_14 ?_
    refine ZW.goto (tgt := 19) dX4_hasRiver_15 (by decide) ?_
    refine ZW.iretz dX4_hasRiver_19 rfl (by first | exact Or.inl rfl | exact Or.inr rfl | assumption | omega) ?_
    exact ⟨by simp [rivB, bitB, zB, c11], rfl⟩
theorem c_X4_inZone (g : ZH) {r : Int → Int} (hA : okA r) (hS : StN g r) (hb : BdN g) {side x : Int} (hs : side = 0 ∨ side = 1) (hx : 0 ≤ x ∧ x < 63) : ZC 1 mX4_inZone [.inr 3, .inl side, .inl x] g (fun v g' => v = zB (zoneB r x side) ∧ g' = g) := by
  refine ZC.of (by decide +kernel) (Nat.le_of_ble_eq_true rfl) ?_
  have loop : ∀ (n : Nat) (d : Int) (o4 : Option ZV), 0 ≤ d → d + n = 6 → ZW 1 mX4_inZone 2 [some (.inr 3), some (.inl side), some (.inl x), some (.inl d), o4] [] g (fun v g' => v = zB (anyF (fun d => decide (nextF x d ≠ -5) && isOnB r (nextF x d) side) n d) ∧ g' = g) := by
    intro n
    induction n with
    | zero =>
      intro d o4 h0 hn
      refine ZW.iload_n dX4_inZone_2 rfl ?_
      refine ZW.bipush dX4_inZone_3 rfl ?_
      refine ZW.icmp_ge (tgt := 50) dX4_inZone_5 (by decide) (by first | omega | exact zB_R _) (by first | omega | exact zB_R _) (fun c5 => ?_) (fun c5 => ?_)
      · refine ZW.iconst dX4_inZone_50 ?_
        refine ZW.iretz dX4_inZone_51 rfl (by first | exact Or.inl rfl | exact Or.inr rfl | assumption | omega) ?_
        exact ⟨rfl, rfl⟩
      · exact absurd c5 (by omega)
    | succ n ih =>
      intro d o4 h0 hn
      have h1 := hb x d hx.1 hx.2 h0 (by omega)
      have h2 := nbF_R x d
      have hno : (decide (nextF x d ≠ -5) && isOnB r (nextF x d) side) = false → ∀ o4 : Option ZV, ZW 1 mX4_inZone 44 [some (.inr 3), some (.inl side), some (.inl x), some (.inl d), o4] [] g (fun v g' => v = zB (anyF (fun d => decide (nextF x d ≠ -5) && isOnB r (nextF x d) side) (n + 1) d) ∧ g' = g) := by
        intro hf o4
        refine ZW.iinc dX4_inZone_44 rfl (by decide) rfl ?_
        refine ZW.goto (tgt := 2) dX4_inZone_47 (by decide) ?_
        refine ZW.mono (ih (d + 1) o4 (by omega) (by omega)) (fun v g' hh => ⟨?_, hh.2⟩)
        rw [hh.1]
        show _ = zB ((decide (nextF x d ≠ -5) && isOnB r (nextF x d) side) || _)
        rw [hf, Bool.false_or]
      refine ZW.iload_n dX4_inZone_2 rfl ?_
      refine ZW.bipush dX4_inZone_3 rfl ?_
      refine ZW.icmp_ge (tgt := 50) dX4_inZone_5 (by decide) (by first | omega | exact zB_R _) (by first | omega | exact zB_R _) (fun c5 => ?_) (fun c5 => ?_)
      · exact absurd c5 (by omega)
      · refine ZW.aload_n dX4_inZone_8 rfl ?_
        refine ZW.getR dX4_inZone_9 fl_X4_45 ⟨_, rfl, rfl⟩ ?_
        refine ZW.getR dX4_inZone_12 fl_X4_97 ⟨_, rfl, rfl⟩ ?_
        refine ZW.iload_n dX4_inZone_15 rfl ?_
        refine ZW.bipush dX4_inZone_16 rfl ?_
        refine ZW.imul dX4_inZone_18 ?_
        refine ZW.iload_n dX4_inZone_19 rfl ?_
        refine ZW.iadd dX4_inZone_20 ?_
        refine ZW.iald dX4_inZone_21 rfl (by decide) (by omega) rfl ?_
        rw [h1]
        refine ZW.istore dX4_inZone_22 (by decide) rfl ?_
        refine ZW.iload dX4_inZone_24 rfl ?_
        refine ZW.callS (as := [_]) dX4_inZone_26 cs_X4_100 rfl (by decide) (Nat.le_of_ble_eq_true rfl) rfl (c_X0_isHex _ (by omega)) (fun v1 g1 ⟨q1, q2⟩ => ?_)
        subst q1; subst q2
        rw [nbF_hex]
        refine ZW.if_eq (tgt := 44) dX4_inZone_29 (by decide) (by first | omega | exact zB_R _) (fun c29 => ?_) (fun c29 => ?_)
        · have e := zB_eq c29
          exact hno (by rw [e]; rfl) _
        · have e := of_decide_eq_true (zB_ne c29)
          have hr := (nextF_R (x := x) (d := d)).resolve_left e
          have hnb : nbF x d = nextF x d := by unfold nbF; rw [if_neg e]
          have hsd := sdF_R hA (nextF x d)
          rw [hnb]
          refine ZW.aload_n dX4_inZone_32 rfl ?_
          refine ZW.iload dX4_inZone_33 rfl ?_
          refine ZW.callV (as := [_]) dX4_inZone_35 cv_X4_83 ⟨_, rfl⟩ rfl (by decide) (Nat.le_of_ble_eq_true rfl) rfl (c_X4_sideOn _ hA hS hr) (fun v1 g2 ⟨q1, q2⟩ => ?_)
          subst q1; subst q2
          refine ZW.iload_n dX4_inZone_38 rfl ?_
          refine ZW.icmp_ne (tgt := 44) dX4_inZone_39 (by decide) (by first | omega | exact zB_R _) (by first | omega | exact zB_R _) (fun c39 => ?_) (fun c39 => ?_)
          · exact hno (by rw [isOnB_sd (by omega), decide_eq_false c39]; simp) _
          · refine ZW.iconst dX4_inZone_42 ?_
            refine ZW.iretz dX4_inZone_43 rfl (by first | exact Or.inl rfl | exact Or.inr rfl | assumption | omega) ?_
            refine ⟨?_, rfl⟩
            show _ = zB ((decide (nextF x d ≠ -5) && isOnB r (nextF x d) side) || _)
            rw [isOnB_sd (by omega), decide_eq_true c39, decide_eq_true e]
            rfl
  refine ZW.iconst dX4_inZone_0 ?_
  refine ZW.istore_n dX4_inZone_1 (by decide) rfl ?_
  exact loop 6 0 _ (by omega) (by omega)
end CLS
