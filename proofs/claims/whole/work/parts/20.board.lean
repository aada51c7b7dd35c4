-- the board: directions, steps, distances
def zB (b : Bool) : Int := if b then 1 else 0
theorem zB_t : zB true = 1 := rfl
theorem zB_f : zB false = 0 := rfl
theorem zB_1 (b : Bool) : zB b = 0 ∨ zB b = 1 := by cases b <;> simp [zB]
theorem zB_ne {b : Bool} (h : zB b ≠ 0) : b = true := by cases b <;> simp_all [zB]
theorem zB_eq {b : Bool} (h : zB b = 0) : b = false := by cases b <;> simp_all [zB]
theorem zB_eq1 {b : Bool} (h : zB b = 1) : b = true := by cases b <;> simp_all [zB]
theorem zB_ne1 {b : Bool} (h : zB b ≠ 1) : b = false := by cases b <;> simp_all [zB]
theorem zB_R (b : Bool) : zR (zB b) := by cases b <;> simp [zB, zR]
def isHexB (x : Int) : Bool := decide (0 ≤ x ∧ x < 63)
theorem isHexB_t {x : Int} (h : isHexB x = true) : 0 ≤ x ∧ x < 63 := by simpa [isHexB] using h
theorem isHexB_f {x : Int} (h : isHexB x = false) : ¬ (0 ≤ x ∧ x < 63) := by simpa [isHexB] using h
def inB (v a b : Int) : Bool := decide (a ≤ v ∧ v ≤ b)
theorem c_X0_isHex (g : ZH) {x : Int} (hx : zR x) : ZC 0 mX0_isHex [.inl x] g (fun r g' => r = zB (isHexB x) ∧ g' = g) := by
  refine ZC.of (by decide +kernel) (Nat.le_of_ble_eq_true rfl) ?_
  refine ZW.iload_n dX0_isHex_0 rfl ?_
  refine ZW.if_lt (tgt := 14) dX0_isHex_1 (by decide) (by omega) (fun c1 => ?_) (fun c1 => ?_)
  · refine ZW.iconst dX0_isHex_14 ?_
    refine ZW.iretz dX0_isHex_15 rfl (by first | exact Or.inl rfl | exact Or.inr rfl | assumption | omega) ?_
    exact ⟨by simp [isHexB, zB]; omega, rfl⟩
  · refine ZW.iload_n dX0_isHex_4 rfl ?_
    refine ZW.bipush dX0_isHex_5 rfl ?_
    refine ZW.icmp_ge (tgt := 14) dX0_isHex_7 (by decide) (by omega) (by omega) (fun c7 => ?_) (fun c7 => ?_)
    · refine ZW.iconst dX0_isHex_14 ?_
      refine ZW.iretz dX0_isHex_15 rfl (by first | exact Or.inl rfl | exact Or.inr rfl | assumption | omega) ?_
      exact ⟨by simp [isHexB, zB]; omega, rfl⟩
    · refine ZW.iconst dX0_isHex_10 ?_
      refine ZW.goto (tgt := 15) dX0_isHex_11 (by decide) ?_
      refine ZW.iretz dX0_isHex_15 rfl (by first | exact Or.inl rfl | exact Or.inr rfl | assumption | omega) ?_
      exact ⟨by simp [isHexB, zB]; omega, rfl⟩
theorem c_X0_isDirection (g : ZH) {x : Int} (hx : zR x) : ZC 0 mX0_isDirection [.inl x] g (fun r g' => r = zB (inB x 0 5) ∧ g' = g) := by
  refine ZC.of (by decide +kernel) (Nat.le_of_ble_eq_true rfl) ?_
  refine ZW.iload_n dX0_isDirection_0 rfl ?_
  refine ZW.if_lt (tgt := 14) dX0_isDirection_1 (by decide) (by omega) (fun c1 => ?_) (fun c1 => ?_)
  · refine ZW.iconst dX0_isDirection_14 ?_
    refine ZW.iretz dX0_isDirection_15 rfl (by first | exact Or.inl rfl | exact Or.inr rfl | assumption | omega) ?_
    exact ⟨by simp [inB, zB]; omega, rfl⟩
  · refine ZW.iload_n dX0_isDirection_4 rfl ?_
    refine ZW.bipush dX0_isDirection_5 rfl ?_
    refine ZW.icmp_ge (tgt := 14) dX0_isDirection_7 (by decide) (by omega) (by omega) (fun c7 => ?_) (fun c7 => ?_)
    · refine ZW.iconst dX0_isDirection_14 ?_
      refine ZW.iretz dX0_isDirection_15 rfl (by first | exact Or.inl rfl | exact Or.inr rfl | assumption | omega) ?_
      exact ⟨by simp [inB, zB]; omega, rfl⟩
    · refine ZW.iconst dX0_isDirection_10 ?_
      refine ZW.goto (tgt := 15) dX0_isDirection_11 (by decide) ?_
      refine ZW.iretz dX0_isDirection_15 rfl (by first | exact Or.inl rfl | exact Or.inr rfl | assumption | omega) ?_
      exact ⟨by simp [inB, zB]; omega, rfl⟩
theorem c_X0_opposite (g : ZH) {x : Int} (hx : 0 ≤ x ∧ x < 6) : ZC 0 mX0_opposite [.inl x] g (fun r g' => r = (x + 3) % 6 ∧ g' = g) := by
  refine ZC.of (by decide +kernel) (Nat.le_of_ble_eq_true rfl) ?_
  refine ZW.iload_n dX0_opposite_0 rfl ?_
  refine ZW.iconst dX0_opposite_1 ?_
  refine ZW.iadd dX0_opposite_2 ?_
  refine ZW.bipush dX0_opposite_3 rfl ?_
  refine ZW.irem dX0_opposite_5 (by omega) ?_
  refine ZW.ireti dX0_opposite_6 rfl ?_
  exact ⟨rfl, rfl⟩
def slantF (x : Int) : Int := x % 9 - x / 9 / 2
theorem c_X0_slantOf (g : ZH) {x : Int} (hx : 0 ≤ x ∧ x < 63) : ZC 0 mX0_slantOf [.inl x] g (fun r g' => r = slantF x ∧ g' = g) := by
  refine ZC.of (by decide +kernel) (Nat.le_of_ble_eq_true rfl) ?_
  refine ZW.iload_n dX0_slantOf_0 rfl ?_
  refine ZW.bipush dX0_slantOf_1 rfl ?_
  refine ZW.irem dX0_slantOf_3 (by omega) ?_
  refine ZW.iload_n dX0_slantOf_4 rfl ?_
  refine ZW.bipush dX0_slantOf_5 rfl ?_
  refine ZW.idiv dX0_slantOf_7 (by omega) ?_
  refine ZW.iconst dX0_slantOf_8 ?_
  refine ZW.idiv dX0_slantOf_9 (by omega) ?_
  refine ZW.isub dX0_slantOf_10 ?_
  refine ZW.ireti dX0_slantOf_11 rfl ?_
  exact ⟨rfl, rfl⟩
def stepsF (a b : Int) : Int := maxF (absF (b / 9 - a / 9)) (maxF (absF (slantF b - slantF a)) (absF (b / 9 - a / 9 + (slantF b - slantF a))))
theorem c_X0_stepsBetween (g : ZH) {a b : Int} (ha : 0 ≤ a ∧ a < 63) (hb : 0 ≤ b ∧ b < 63) : ZC 1 mX0_stepsBetween [.inl a, .inl b] g (fun r g' => r = stepsF a b ∧ g' = g) := by
  have hsa : -3 ≤ slantF a ∧ slantF a < 9 := by unfold slantF; omega
  have hsb : -3 ≤ slantF b ∧ slantF b < 9 := by unfold slantF; omega
  refine ZC.of (by decide +kernel) (Nat.le_of_ble_eq_true rfl) ?_
  refine ZW.iload_n dX0_stepsBetween_0 rfl ?_
  refine ZW.bipush dX0_stepsBetween_1 rfl ?_
  refine ZW.idiv dX0_stepsBetween_3 (by omega) ?_
  refine ZW.iload_n dX0_stepsBetween_4 rfl ?_
  refine ZW.bipush dX0_stepsBetween_5 rfl ?_
  refine ZW.idiv dX0_stepsBetween_7 (by omega) ?_
  refine ZW.isub dX0_stepsBetween_8 ?_
  refine ZW.istore_n dX0_stepsBetween_9 (by decide) rfl ?_
  refine ZW.iload_n dX0_stepsBetween_10 rfl ?_
  refine ZW.callS (as := [_]) dX0_stepsBetween_11 cs_X0_26 rfl (by decide) (Nat.le_of_ble_eq_true rfl) rfl (c_X0_slantOf _ hb) (fun r1 g1 ⟨h1, h2⟩ => ?_)
  subst h1; subst h2
  refine ZW.iload_n dX0_stepsBetween_14 rfl ?_
  refine ZW.callS (as := [_]) dX0_stepsBetween_15 cs_X0_26 rfl (by decide) (Nat.le_of_ble_eq_true rfl) rfl (c_X0_slantOf _ ha) (fun r1 g1 ⟨h1, h2⟩ => ?_)
  subst h1; subst h2
  have q1 : 0 ≤ absF (slantF b - slantF a) ∧ absF (slantF b - slantF a) < 100 := by unfold absF; split <;> omega
  have q2 : 0 ≤ absF (b / 9 - a / 9 + (slantF b - slantF a)) ∧ absF (b / 9 - a / 9 + (slantF b - slantF a)) < 100 := by unfold absF; split <;> omega
  have q3 : 0 ≤ absF (b / 9 - a / 9) ∧ absF (b / 9 - a / 9) < 100 := by unfold absF; split <;> omega
  have q4 : 0 ≤ maxF (absF (slantF b - slantF a)) (absF (b / 9 - a / 9 + (slantF b - slantF a))) ∧ maxF (absF (slantF b - slantF a)) (absF (b / 9 - a / 9 + (slantF b - slantF a))) < 100 := by unfold maxF; split <;> omega
  refine ZW.isub dX0_stepsBetween_18 ?_
  refine ZW.istore_n dX0_stepsBetween_19 (by decide) rfl ?_
  refine ZW.iload_n dX0_stepsBetween_20 rfl ?_
  refine ZW.mabs dX0_stepsBetween_21 (mmW_3 102 rfl rfl) (mmW_2 219 rfl rfl) (mmW_1 12 rfl rfl) (mmW_2 220 rfl rfl) (by decide) (Nat.le_of_ble_eq_true rfl) (by omega) ?_
  refine ZW.iload_n dX0_stepsBetween_24 rfl ?_
  refine ZW.mabs dX0_stepsBetween_25 (mmW_3 102 rfl rfl) (mmW_2 219 rfl rfl) (mmW_1 12 rfl rfl) (mmW_2 220 rfl rfl) (by decide) (Nat.le_of_ble_eq_true rfl) (by omega) ?_
  refine ZW.iload_n dX0_stepsBetween_28 rfl ?_
  refine ZW.iload_n dX0_stepsBetween_29 rfl ?_
  refine ZW.iadd dX0_stepsBetween_30 ?_
  refine ZW.mabs dX0_stepsBetween_31 (mmW_3 102 rfl rfl) (mmW_2 219 rfl rfl) (mmW_1 12 rfl rfl) (mmW_2 220 rfl rfl) (by decide) (Nat.le_of_ble_eq_true rfl) (by omega) ?_
  refine ZW.mmax dX0_stepsBetween_34 (mmW_3 103 rfl rfl) (mmW_2 222 rfl rfl) (mmW_1 12 rfl rfl) (mmW_2 223 rfl rfl) (by decide) (Nat.le_of_ble_eq_true rfl) (by omega) (by omega) ?_
  refine ZW.mmax dX0_stepsBetween_37 (mmW_3 103 rfl rfl) (mmW_2 222 rfl rfl) (mmW_1 12 rfl rfl) (mmW_2 223 rfl rfl) (by decide) (Nat.le_of_ble_eq_true rfl) (by omega) (by omega) ?_
  refine ZW.ireti dX0_stepsBetween_40 rfl ?_
  exact ⟨rfl, rfl⟩
