-- the reference: its row s (the cell 101) is the abstract state
theorem c_X8_in (g : ZH) {v a b : Int} (hv : zR v) (ha : zR a) (hb : zR b) : ZC 0 mX8_in [.inl v, .inl a, .inl b] g (fun r g' => r = zB (inB v a b) ∧ g' = g) := by
  refine ZC.of (by decide +kernel) (Nat.le_of_ble_eq_true rfl) ?_
  refine ZW.iload_n dX8_in_0 rfl ?_
  refine ZW.iload_n dX8_in_1 rfl ?_
  refine ZW.icmp_lt (tgt := 14) dX8_in_2 (by decide) (by omega) (by omega) (fun c2 => ?_) (fun c2 => ?_)
  · refine ZW.iconst dX8_in_14 ?_
    refine ZW.iretz dX8_in_15 rfl (by first | exact Or.inl rfl | exact Or.inr rfl | assumption | omega) ?_
    exact ⟨by simp [inB, zB]; omega, rfl⟩
  · refine ZW.iload_n dX8_in_5 rfl ?_
    refine ZW.iload_n dX8_in_6 rfl ?_
    refine ZW.icmp_gt (tgt := 14) dX8_in_7 (by decide) (by omega) (by omega) (fun c7 => ?_) (fun c7 => ?_)
    · refine ZW.iconst dX8_in_14 ?_
      refine ZW.iretz dX8_in_15 rfl (by first | exact Or.inl rfl | exact Or.inr rfl | assumption | omega) ?_
      exact ⟨by simp [inB, zB]; omega, rfl⟩
    · refine ZW.iconst dX8_in_10 ?_
      refine ZW.goto (tgt := 15) dX8_in_11 (by decide) ?_
      refine ZW.iretz dX8_in_15 rfl (by first | exact Or.inl rfl | exact Or.inr rfl | assumption | omega) ?_
      exact ⟨by simp [inB, zB]; omega, rfl⟩
theorem isHexB_in (x : Int) : inB x 0 62 = isHexB x := by
  unfold inB isHexB
  congr 1
  apply propext
  omega
theorem c_X8_isHex (g : ZH) {x : Int} (hx : zR x) : ZC 1 mX8_isHex [.inl x] g (fun r g' => r = zB (isHexB x) ∧ g' = g) := by
  refine ZC.of (by decide +kernel) (Nat.le_of_ble_eq_true rfl) ?_
  refine ZW.iload_n dX8_isHex_0 rfl ?_
  refine ZW.iconst dX8_isHex_1 ?_
  refine ZW.bipush dX8_isHex_2 rfl ?_
  refine ZW.callS (as := [_, _, _]) dX8_isHex_4 cs_X8_48 rfl (by decide) (Nat.le_of_ble_eq_true rfl) rfl (c_X8_in _ hx (by decide) (by decide)) (fun r1 g1 ⟨h1, h2⟩ => ?_)
  subst h1; subst h2
  refine ZW.iretz dX8_isHex_7 rfl (by exact zB_1 _) ?_
  exact ⟨by rw [isHexB_in], rfl⟩
def ofF (r : Int → Int) (u w : Int) : Int := r (193 + 6 * u + w)
/-- every number of a state lies from 0 to 999, and no more than 16 units -/
def okB (r : Int → Int) : Prop := (∀ i, 0 ≤ i → i < 289 → 0 ≤ r i ∧ r i < 1000) ∧ r 192 ≤ 16
theorem ofF_R {r : Int → Int} (hk : okB r) {u w : Int} (hu : 0 ≤ u ∧ u < 16) (hw : 0 ≤ w ∧ w < 6) : 0 ≤ ofF r u w ∧ ofF r u w < 1000 := hk.1 _ (by omega) (by omega)
theorem c_X8_of (g : ZH) {u w : Int} (hu : 0 ≤ u ∧ u < 16) (hw : 0 ≤ w ∧ w < 6) : ZC 0 mX8_of [.inr 100, .inl u, .inl w] g (fun r g' => r = ofF (g 101) u w ∧ g' = g) := by
  refine ZC.of (by decide +kernel) (Nat.le_of_ble_eq_true rfl) ?_
  refine ZW.aload_n dX8_of_0 rfl ?_
  refine ZW.getR dX8_of_1 fl_X8_7 ⟨_, rfl, rfl⟩ ?_
  refine ZW.sipush dX8_of_4 rfl ?_
  refine ZW.bipush dX8_of_7 rfl ?_
  refine ZW.iload_n dX8_of_9 rfl ?_
  refine ZW.imul dX8_of_10 ?_
  refine ZW.iadd dX8_of_11 ?_
  refine ZW.iload_n dX8_of_12 rfl ?_
  refine ZW.iadd dX8_of_13 ?_
  refine ZW.iald dX8_of_14 rfl (by decide) (by omega) rfl ?_
  refine ZW.ireti dX8_of_15 rfl ?_
  exact ⟨rfl, rfl⟩
theorem c_X8_lay (g : ZH) {u w v : Int} (hu : 0 ≤ u ∧ u < 16) (hw : 0 ≤ w ∧ w < 6) : ZC 0 mX8_lay [.inr 100, .inl u, .inl w, .inl v] g (fun _ g' => g' = zSet g 101 (193 + 6 * u + w) v) := by
  refine ZC.of (by decide +kernel) (Nat.le_of_ble_eq_true rfl) ?_
  refine ZW.aload_n dX8_lay_0 rfl ?_
  refine ZW.getR dX8_lay_1 fl_X8_7 ⟨_, rfl, rfl⟩ ?_
  refine ZW.sipush dX8_lay_4 rfl ?_
  refine ZW.bipush dX8_lay_7 rfl ?_
  refine ZW.iload_n dX8_lay_9 rfl ?_
  refine ZW.imul dX8_lay_10 ?_
  refine ZW.iadd dX8_lay_11 ?_
  refine ZW.iload_n dX8_lay_12 rfl ?_
  refine ZW.iadd dX8_lay_13 ?_
  refine ZW.iload_n dX8_lay_14 rfl ?_
  refine ZW.iast dX8_lay_15 rfl (by decide) (by omega) ?_
  refine ZW.vret dX8_lay_16 rfl ?_
  exact rfl
def isUnitB (r : Int → Int) (u : Int) : Bool := decide (0 ≤ u ∧ u < r 192 ∧ 0 < ofF r u 1)
theorem c_X8_isUnit (g : ZH) (hk : okB (g 101)) {u : Int} (hu : zR u) : ZC 1 mX8_isUnit [.inr 100, .inl u] g (fun r g' => r = zB (isUnitB (g 101) u) ∧ g' = g) := by
  have h192 := hk.1 192 (by decide) (by decide)
  have h16 := hk.2
  refine ZC.of (by decide +kernel) (Nat.le_of_ble_eq_true rfl) ?_
  refine ZW.iload_n dX8_isUnit_0 rfl ?_
  refine ZW.iconst dX8_isUnit_1 ?_
  refine ZW.aload_n dX8_isUnit_2 rfl ?_
  refine ZW.getR dX8_isUnit_3 fl_X8_7 ⟨_, rfl, rfl⟩ ?_
  refine ZW.sipush dX8_isUnit_6 rfl ?_
  refine ZW.iald dX8_isUnit_9 rfl (by decide) (by omega) rfl ?_
  refine ZW.iconst dX8_isUnit_10 ?_
  refine ZW.isub dX8_isUnit_11 ?_
  refine ZW.callS (as := [_, _, _]) dX8_isUnit_12 cs_X8_48 rfl (by decide) (Nat.le_of_ble_eq_true rfl) rfl (c_X8_in _ hu (by decide) (by omega)) (fun r1 g1 ⟨h1, h2⟩ => ?_)
  subst h1; subst h2
  refine ZW.if_eq (tgt := 31) dX8_isUnit_15 (by decide) (by exact zB_R _) (fun c15 => ?_) (fun c15 => ?_)
  · refine ZW.iconst dX8_isUnit_31 ?_
    refine ZW.iretz dX8_isUnit_32 rfl (by first | exact Or.inl rfl | exact Or.inr rfl | assumption | omega) ?_
    have q := zB_eq c15
    simp [inB] at q
    exact ⟨by simp [isUnitB, zB]; omega, rfl⟩
  · have q := zB_ne c15
    simp [inB] at q
    refine ZW.aload_n dX8_isUnit_18 rfl ?_
    refine ZW.iload_n dX8_isUnit_19 rfl ?_
    refine ZW.iconst dX8_isUnit_20 ?_
    refine ZW.callV (as := [_, _]) dX8_isUnit_21 cv_X8_52 ⟨_, rfl⟩ rfl (by decide) (Nat.le_of_ble_eq_true rfl) rfl (c_X8_of _ (by omega) (by omega)) (fun r1 g1 ⟨h1, h2⟩ => ?_)
    subst h1; subst h2
    have q1 := ofF_R hk (u := u) (w := 1) (by omega) (by omega)
    refine ZW.if_le (tgt := 31) dX8_isUnit_24 (by decide) (by omega) (fun c24 => ?_) (fun c24 => ?_)
    · refine ZW.iconst dX8_isUnit_31 ?_
      refine ZW.iretz dX8_isUnit_32 rfl (by first | exact Or.inl rfl | exact Or.inr rfl | assumption | omega) ?_
      exact ⟨by simp [isUnitB, zB]; omega, rfl⟩
    · refine ZW.iconst dX8_isUnit_27 ?_
      refine ZW.goto (tgt := 32) dX8_isUnit_28 (by decide) ?_
      refine ZW.iretz dX8_isUnit_32 rfl (by first | exact Or.inl rfl | exact Or.inr rfl | assumption | omega) ?_
      exact ⟨by simp [isUnitB, zB]; omega, rfl⟩
-- steps on the board
def nRow (x d : Int) : Int := if d = 0 ∨ d = 3 then x / 9 else if d = 1 ∨ d = 2 then x / 9 - 1 else x / 9 + 1
def nCol (x d : Int) : Int := if d = 0 then x % 9 + 1 else if d = 3 then x % 9 - 1 else if d = 2 ∨ d = 4 then x % 9 + (x / 9 % 2 - 1) else x % 9 + x / 9 % 2
def nextF (x d : Int) : Int := if 0 ≤ nRow x d ∧ nRow x d ≤ 6 ∧ 0 ≤ nCol x d ∧ nCol x d ≤ 8 then 9 * nRow x d + nCol x d else -5
theorem nextF_R {x d : Int} : nextF x d = -5 ∨ (0 ≤ nextF x d ∧ nextF x d < 63) := by
  unfold nextF
  split <;> omega
theorem nextF_R' (x d : Int) : -5 ≤ nextF x d ∧ nextF x d < 63 := by
  rcases nextF_R (x := x) (d := d) with h | h <;> omega
theorem c_X8_next (g : ZH) {x d : Int} (hx : 0 ≤ x ∧ x < 63) (hd : 0 ≤ d ∧ d < 6) : ZC 1 mX8_next [.inl x, .inl d] g (fun r g' => r = nextF x d ∧ g' = g) := by
  refine ZC.of (by decide +kernel) (Nat.le_of_ble_eq_true rfl) ?_
  have tail : ∀ (ro co : Int), ro = nRow x d → co = nCol x d → ZW 1 mX8_next 109 [some (.inl x), some (.inl d), some (.inl ro), some (.inl co), some (.inl (x / 9 % 2))] [] g (fun r g' => r = nextF x d ∧ g' = g) := by
    intro ro co h1 h2
    have b1 : -1 ≤ ro ∧ ro ≤ 7 := by rw [h1]; unfold nRow; split <;> (try split) <;> omega
    have b2 : -1 ≤ co ∧ co ≤ 9 := by rw [h2]; unfold nCol; split <;> (try split) <;> (try split) <;> omega
    refine ZW.iload_n dX8_next_109 rfl ?_
    refine ZW.iconst dX8_next_110 ?_
    refine ZW.bipush dX8_next_111 rfl ?_
    refine ZW.callS (as := [_, _, _]) dX8_next_113 cs_X8_48 rfl (by decide) (Nat.le_of_ble_eq_true rfl) rfl (c_X8_in _ (by omega) (by decide) (by decide)) (fun r1 g1 ⟨h3, h4⟩ => ?_)
    subst h3; subst h4
    refine ZW.if_eq (tgt := 138) dX8_next_116 (by decide) (by exact zB_R _) (fun c116 => ?_) (fun c116 => ?_)
    · have q := zB_eq c116
      simp [inB] at q
      refine ZW.bipush dX8_next_138 rfl ?_
      refine ZW.ireti dX8_next_140 rfl ?_
      refine ⟨?_, rfl⟩
      unfold nextF
      rw [if_neg (by rw [← h1, ← h2]; omega)]
    · have q := zB_ne c116
      simp [inB] at q
      refine ZW.iload_n dX8_next_119 rfl ?_
      refine ZW.iconst dX8_next_120 ?_
      refine ZW.bipush dX8_next_121 rfl ?_
      refine ZW.callS (as := [_, _, _]) dX8_next_123 cs_X8_48 rfl (by decide) (Nat.le_of_ble_eq_true rfl) rfl (c_X8_in _ (by omega) (by decide) (by decide)) (fun r1 g1 ⟨h3, h4⟩ => ?_)
      subst h3; subst h4
      refine ZW.if_eq (tgt := 138) dX8_next_126 (by decide) (by exact zB_R _) (fun c126 => ?_) (fun c126 => ?_)
      · have q2 := zB_eq c126
        simp [inB] at q2
        refine ZW.bipush dX8_next_138 rfl ?_
        refine ZW.ireti dX8_next_140 rfl ?_
        refine ⟨?_, rfl⟩
        unfold nextF
        rw [if_neg (by rw [← h1, ← h2]; omega)]
      · have q2 := zB_ne c126
        simp [inB] at q2
        refine ZW.bipush dX8_next_129 rfl ?_
        refine ZW.iload_n dX8_next_131 rfl ?_
        refine ZW.imul dX8_next_132 ?_
        refine ZW.iload_n dX8_next_133 rfl ?_
        refine ZW.iadd dX8_next_134 ?_
        refine ZW.goto (tgt := 140) dX8_next_135 (by decide) ?_
        refine ZW.ireti dX8_next_140 rfl ?_
        refine ⟨?_, rfl⟩
        unfold nextF
        rw [if_pos (by rw [← h1, ← h2]; omega), ← h1, ← h2]
  refine ZW.iload_n dX8_next_0 rfl ?_
  refine ZW.bipush dX8_next_1 rfl ?_
  refine ZW.idiv dX8_next_3 (by omega) ?_
  refine ZW.istore_n dX8_next_4 (by decide) rfl ?_
  refine ZW.iload_n dX8_next_5 rfl ?_
  refine ZW.bipush dX8_next_6 rfl ?_
  refine ZW.irem dX8_next_8 (by omega) ?_
  refine ZW.istore_n dX8_next_9 (by decide) rfl ?_
  refine ZW.iload_n dX8_next_10 rfl ?_
  refine ZW.iconst dX8_next_11 ?_
  refine ZW.irem dX8_next_12 (by omega) ?_
  refine ZW.istore dX8_next_13 (by decide) rfl ?_
  refine ZW.iload_n dX8_next_15 rfl ?_
  rcases (show d = 0 ∨ d = 1 ∨ d = 2 ∨ d = 3 ∨ d = 4 ∨ d = 5 by omega) with rfl | rfl | rfl | rfl | rfl | rfl
  · refine ZW.tableIn (off := 36) (tgt := 52) dX8_next_16 (by omega) (by omega) rfl (by decide) ?_
    refine ZW.iinc dX8_next_52 rfl (by decide) rfl ?_
    refine ZW.goto (tgt := 109) dX8_next_55 (by decide) ?_
    exact tail _ _ (by simp [nRow]) (by simp [nCol])
  · refine ZW.tableIn (off := 42) (tgt := 58) dX8_next_16 (by omega) (by omega) rfl (by decide) ?_
    refine ZW.iinc dX8_next_58 rfl (by decide) rfl ?_
    refine ZW.iload_n dX8_next_61 rfl ?_
    refine ZW.iload dX8_next_62 rfl ?_
    refine ZW.iadd dX8_next_64 ?_
    refine ZW.istore_n dX8_next_65 (by decide) rfl ?_
    refine ZW.goto (tgt := 109) dX8_next_66 (by decide) ?_
    exact tail _ _ (by simp [nRow]; omega) (by simp [nCol])
  · refine ZW.tableIn (off := 53) (tgt := 69) dX8_next_16 (by omega) (by omega) rfl (by decide) ?_
    refine ZW.iinc dX8_next_69 rfl (by decide) rfl ?_
    refine ZW.iload_n dX8_next_72 rfl ?_
    refine ZW.iload dX8_next_73 rfl ?_
    refine ZW.iconst dX8_next_75 ?_
    refine ZW.isub dX8_next_76 ?_
    refine ZW.iadd dX8_next_77 ?_
    refine ZW.istore_n dX8_next_78 (by decide) rfl ?_
    refine ZW.goto (tgt := 109) dX8_next_79 (by decide) ?_
    exact tail _ _ (by simp [nRow]; omega) (by simp [nCol])
  · refine ZW.tableIn (off := 66) (tgt := 82) dX8_next_16 (by omega) (by omega) rfl (by decide) ?_
    refine ZW.iinc dX8_next_82 rfl (by decide) rfl ?_
    refine ZW.goto (tgt := 109) dX8_next_85 (by decide) ?_
    exact tail _ _ (by simp [nRow]) (by simp [nCol]; omega)
  · refine ZW.tableIn (off := 72) (tgt := 88) dX8_next_16 (by omega) (by omega) rfl (by decide) ?_
    refine ZW.iinc dX8_next_88 rfl (by decide) rfl ?_
    refine ZW.iload_n dX8_next_91 rfl ?_
    refine ZW.iload dX8_next_92 rfl ?_
    refine ZW.iconst dX8_next_94 ?_
    refine ZW.isub dX8_next_95 ?_
    refine ZW.iadd dX8_next_96 ?_
    refine ZW.istore_n dX8_next_97 (by decide) rfl ?_
    refine ZW.goto (tgt := 109) dX8_next_98 (by decide) ?_
    exact tail _ _ (by simp [nRow]) (by simp [nCol])
  · refine ZW.tableOut (tgt := 101) dX8_next_16 (by omega) (by omega) (by decide) ?_
    refine ZW.iinc dX8_next_101 rfl (by decide) rfl ?_
    refine ZW.iload_n dX8_next_104 rfl ?_
    refine ZW.iload dX8_next_105 rfl ?_
    refine ZW.iadd dX8_next_107 ?_
    refine ZW.istore_n dX8_next_108 (by decide) rfl ?_
    exact tail _ _ (by simp [nRow]) (by simp [nCol])
