-- the class reads a text
theorem c_X3_isIn (g : ZH) {c a b : Int} (hc : zR c) (ha : zR a) (hb : zR b) : ZC 0 mX3_isIn [.inl c, .inl a, .inl b] g (fun v g' => v = zB (inB c a b) ∧ g' = g) := by
  refine ZC.of (by decide +kernel) (Nat.le_of_ble_eq_true rfl) ?_
  have no : ¬ (a ≤ c ∧ c ≤ b) → ZW 0 mX3_isIn 14 [some (.inl c), some (.inl a), some (.inl b)] [] g (fun v g' => v = zB (inB c a b) ∧ g' = g) := by
    intro hno
    refine ZW.iconst dX3_isIn_14 ?_
    refine ZW.iretz dX3_isIn_15 rfl (by first | exact Or.inl rfl | exact Or.inr rfl | assumption | omega) ?_
    exact ⟨by unfold inB; rw [decide_eq_false hno]; rfl, rfl⟩
  refine ZW.iload_n dX3_isIn_0 rfl ?_
  refine ZW.iload_n dX3_isIn_1 rfl ?_
  refine ZW.icmp_lt (tgt := 14) dX3_isIn_2 (by decide) (by first | omega | exact zB_R _) (by first | omega | exact zB_R _) (fun c2 => ?_) (fun c2 => ?_)
  · exact no (by omega)
  · refine ZW.iload_n dX3_isIn_5 rfl ?_
    refine ZW.iload_n dX3_isIn_6 rfl ?_
    refine ZW.icmp_gt (tgt := 14) dX3_isIn_7 (by decide) (by first | omega | exact zB_R _) (by first | omega | exact zB_R _) (fun c7 => ?_) (fun c7 => ?_)
    · exact no (by omega)
    · refine ZW.iconst dX3_isIn_10 ?_
      refine ZW.goto (tgt := 15) dX3_isIn_11 (by decide) ?_
      refine ZW.iretz dX3_isIn_15 rfl (by first | exact Or.inl rfl | exact Or.inr rfl | assumption | omega) ?_
      exact ⟨by unfold inB; rw [decide_eq_true ⟨by omega, by omega⟩]; rfl, rfl⟩
theorem c_X3_readUnit (g : ZH) {u : Int} : ZC 0 mX3_readUnit [.inr 89, .inl u] g (fun v g' => v = 2 ∧ g' = zSet g 89 6 u) := by
  refine ZC.of (by decide +kernel) (Nat.le_of_ble_eq_true rfl) ?_
  refine ZW.aload_n dX3_readUnit_0 rfl ?_
  refine ZW.iload_n dX3_readUnit_1 rfl ?_
  refine ZW.puti (fz := 6) dX3_readUnit_2 fp_X3_62 ⟨_, rfl, rfl⟩ rfl ?_
  refine ZW.iconst dX3_readUnit_5 ?_
  refine ZW.ireti dX3_readUnit_6 rfl ?_
  exact ⟨rfl, rfl⟩
theorem c_X3_readSign (g : ZH) {c : Int} (hc : 0 ≤ c ∧ c < 65536) : ZC 0 mX3_readSign [.inr 89, .inl c] g (fun v g' => v = (if c = 62 ∨ c = 33 then 3 else -1) ∧ g' = zSet g 89 7 c) := by
  refine ZC.of (by decide +kernel) (Nat.le_of_ble_eq_true rfl) ?_
  refine ZW.aload_n dX3_readSign_0 rfl ?_
  refine ZW.iload_n dX3_readSign_1 rfl ?_
  refine ZW.putc (fz := 7) dX3_readSign_2 fp_X3_55 ⟨_, rfl, rfl⟩ rfl (by omega) ?_
  refine ZW.iload_n dX3_readSign_5 rfl ?_
  refine ZW.bipush dX3_readSign_6 rfl ?_
  refine ZW.icmp_eq (tgt := 17) dX3_readSign_8 (by decide) (by first | omega | exact zB_R _) (by first | omega | exact zB_R _) (fun c8 => ?_) (fun c8 => ?_)
  · refine ZW.iconst dX3_readSign_17 ?_
    refine ZW.goto (tgt := 22) dX3_readSign_18 (by decide) ?_
    refine ZW.ireti dX3_readSign_22 rfl ?_
    exact ⟨by rw [if_pos (Or.inl c8)], rfl⟩
  · refine ZW.iload_n dX3_readSign_11 rfl ?_
    refine ZW.bipush dX3_readSign_12 rfl ?_
    refine ZW.icmp_ne (tgt := 21) dX3_readSign_14 (by decide) (by first | omega | exact zB_R _) (by first | omega | exact zB_R _) (fun c14 => ?_) (fun c14 => ?_)
    · refine ZW.iconst dX3_readSign_21 ?_
      refine ZW.ireti dX3_readSign_22 rfl ?_
      exact ⟨by rw [if_neg (by omega)], rfl⟩
    · refine ZW.iconst dX3_readSign_17 ?_
      refine ZW.goto (tgt := 22) dX3_readSign_18 (by decide) ?_
      refine ZW.ireti dX3_readSign_22 rfl ?_
      exact ⟨by rw [if_pos (by omega)], rfl⟩
theorem c_X3_readColumn (g : ZH) {c : Int} (hc : 0 ≤ c ∧ c < 65536) : ZC 1 mX3_readColumn [.inr 89, .inl c] g (fun v g' => v = (if 97 ≤ c ∧ c ≤ 105 then 4 else -1) ∧ g' = zSet g 89 8 (c - 97)) := by
  refine ZC.of (by decide +kernel) (Nat.le_of_ble_eq_true rfl) ?_
  refine ZW.aload_n dX3_readColumn_0 rfl ?_
  refine ZW.iload_n dX3_readColumn_1 rfl ?_
  refine ZW.bipush dX3_readColumn_2 rfl ?_
  refine ZW.isub dX3_readColumn_4 ?_
  refine ZW.puti (fz := 8) dX3_readColumn_5 fp_X3_65 ⟨_, rfl, rfl⟩ rfl ?_
  refine ZW.iload_n dX3_readColumn_8 rfl ?_
  refine ZW.bipush dX3_readColumn_9 rfl ?_
  refine ZW.bipush dX3_readColumn_11 rfl ?_
  refine ZW.callS (as := [_, _, _]) dX3_readColumn_13 cs_X3_38 rfl (by decide) (Nat.le_of_ble_eq_true rfl) rfl (c_X3_isIn _ (by omega) (by omega) (by omega)) (fun v1 g1 ⟨q1, q2⟩ => ?_)
  subst q1; subst q2
  refine ZW.if_eq (tgt := 23) dX3_readColumn_16 (by decide) (by first | omega | exact zB_R _) (fun c16 => ?_) (fun c16 => ?_)
  · have e := of_decide_eq_false (zB_eq c16)
    refine ZW.iconst dX3_readColumn_23 ?_
    refine ZW.ireti dX3_readColumn_24 rfl ?_
    exact ⟨by rw [if_neg e], rfl⟩
  · have e := of_decide_eq_true (zB_ne c16)
    refine ZW.iconst dX3_readColumn_19 ?_
    refine ZW.goto (tgt := 24) dX3_readColumn_20 (by decide) ?_
    refine ZW.ireti dX3_readColumn_24 rfl ?_
    exact ⟨by rw [if_pos e], rfl⟩
def adN (g : ZH) (x : Int) : ZH := zSet (zSet (zSet (zSet g 91 (g 89 2) (g 89 7)) 92 (g 89 2) (g 89 6)) 93 (g 89 2) x) 89 2 (g 89 2 + 1)
theorem c_X3_addOrder (g : ZH) {x : Int} (hk : 0 ≤ g 89 2 ∧ g 89 2 < 30) (hS : 0 ≤ g 89 7 ∧ g 89 7 < 65536) : ZC 0 mX3_addOrder [.inr 89, .inl x] g (fun v g' => v = 5 ∧ g' = adN g x) := by
  refine ZC.of (by decide +kernel) (Nat.le_of_ble_eq_true rfl) ?_
  refine ZW.aload_n dX3_addOrder_0 rfl ?_
  refine ZW.getI (fz := 2) dX3_addOrder_1 fl_X3_27 ⟨_, rfl, rfl⟩ rfl rfl ?_
  refine ZW.bipush dX3_addOrder_4 rfl ?_
  refine ZW.icmp_ge (tgt := 55) dX3_addOrder_6 (by decide) (by first | omega | exact zB_R _) (by first | omega | exact zB_R _) (fun c6 => ?_) (fun c6 => ?_)
  · exact absurd c6 (by omega)
  · refine ZW.aload_n dX3_addOrder_9 rfl ?_
    refine ZW.getR dX3_addOrder_10 fl_X3_13 ⟨_, rfl, rfl⟩ ?_
    refine ZW.aload_n dX3_addOrder_13 rfl ?_
    refine ZW.getI (fz := 2) dX3_addOrder_14 fl_X3_27 ⟨_, rfl, rfl⟩ rfl rfl ?_
    refine ZW.aload_n dX3_addOrder_17 rfl ?_
    refine ZW.getI (fz := 7) dX3_addOrder_18 fl_X3_55 ⟨_, rfl, rfl⟩ rfl rfl ?_
    refine ZW.cast dX3_addOrder_21 rfl (by decide) (by omega) (by omega) ?_
    rw [show zSet g 91 (g 89 2) (g 89 7) = zSet g 91 (g 89 2) (g 89 7) from rfl]
    refine ZW.aload_n dX3_addOrder_22 rfl ?_
    refine ZW.getR dX3_addOrder_23 fl_X3_16 ⟨_, rfl, rfl⟩ ?_
    refine ZW.aload_n dX3_addOrder_26 rfl ?_
    refine ZW.getI (fz := 2) dX3_addOrder_27 fl_X3_27 ⟨_, rfl, rfl⟩ rfl rfl ?_
    refine ZW.aload_n dX3_addOrder_30 rfl ?_
    refine ZW.getI (fz := 6) dX3_addOrder_31 fl_X3_62 ⟨_, rfl, rfl⟩ rfl rfl ?_
    rw [show (zSet g 91 (g 89 2) (g 89 7)) 89 = g 89 from rfl]
    refine ZW.iast dX3_addOrder_34 rfl (by decide) (by omega) ?_
    refine ZW.aload_n dX3_addOrder_35 rfl ?_
    refine ZW.getR dX3_addOrder_36 fl_X3_20 ⟨_, rfl, rfl⟩ ?_
    refine ZW.aload_n dX3_addOrder_39 rfl ?_
    refine ZW.getI (fz := 2) dX3_addOrder_40 fl_X3_27 ⟨_, rfl, rfl⟩ rfl rfl ?_
    rw [show (zSet (zSet g 91 (g 89 2) (g 89 7)) 92 (g 89 2) (g 89 6)) 89 = g 89 from rfl]
    refine ZW.iload_n dX3_addOrder_43 rfl ?_
    refine ZW.iast dX3_addOrder_44 rfl (by decide) (by omega) ?_
    refine ZW.aload_n dX3_addOrder_45 rfl ?_
    refine ZW.dup dX3_addOrder_46 ?_
    refine ZW.getI (fz := 2) dX3_addOrder_47 fl_X3_27 ⟨_, rfl, rfl⟩ rfl rfl ?_
    refine ZW.iconst dX3_addOrder_50 ?_
    refine ZW.iadd dX3_addOrder_51 ?_
    refine ZW.puti (fz := 2) dX3_addOrder_52 fp_X3_27 ⟨_, rfl, rfl⟩ rfl ?_
    refine ZW.iconst dX3_addOrder_55 ?_
    refine ZW.ireti dX3_addOrder_56 rfl ?_
    exact ⟨rfl, rfl⟩
theorem c_X3_readRow (g : ZH) {c : Int} (hc : 0 ≤ c ∧ c < 65536) (hk : 0 ≤ g 89 2 ∧ g 89 2 < 30) (hS : 0 ≤ g 89 7 ∧ g 89 7 < 65536) : ZC 1 mX3_readRow [.inr 89, .inl c] g (fun v g' => (49 ≤ c ∧ c ≤ 55 → v = 5 ∧ g' = adN g ((c - 49) * 9 + g 89 8)) ∧ (¬ (49 ≤ c ∧ c ≤ 55) → v = -1 ∧ g' = g)) := by
  refine ZC.of (by decide +kernel) (Nat.le_of_ble_eq_true rfl) ?_
  refine ZW.iload_n dX3_readRow_0 rfl ?_
  refine ZW.bipush dX3_readRow_1 rfl ?_
  refine ZW.isub dX3_readRow_3 ?_
  refine ZW.istore_n dX3_readRow_4 (by decide) rfl ?_
  refine ZW.iload_n dX3_readRow_5 rfl ?_
  refine ZW.bipush dX3_readRow_6 rfl ?_
  refine ZW.bipush dX3_readRow_8 rfl ?_
  refine ZW.callS (as := [_, _, _]) dX3_readRow_10 cs_X3_38 rfl (by decide) (Nat.le_of_ble_eq_true rfl) rfl (c_X3_isIn _ (by omega) (by omega) (by omega)) (fun v1 g1 ⟨q1, q2⟩ => ?_)
  subst q1; subst q2
  refine ZW.if_eq (tgt := 32) dX3_readRow_13 (by decide) (by first | omega | exact zB_R _) (fun c13 => ?_) (fun c13 => ?_)
  · have e := of_decide_eq_false (zB_eq c13)
    refine ZW.iconst dX3_readRow_32 ?_
    refine ZW.ireti dX3_readRow_33 rfl ?_
    exact ⟨fun q => absurd q e, fun _ => ⟨rfl, rfl⟩⟩
  · have e := of_decide_eq_true (zB_ne c13)
    refine ZW.aload_n dX3_readRow_16 rfl ?_
    refine ZW.iload_n dX3_readRow_17 rfl ?_
    refine ZW.bipush dX3_readRow_18 rfl ?_
    refine ZW.imul dX3_readRow_20 ?_
    refine ZW.aload_n dX3_readRow_21 rfl ?_
    refine ZW.getI (fz := 8) dX3_readRow_22 fl_X3_65 ⟨_, rfl, rfl⟩ rfl rfl ?_
    refine ZW.iadd dX3_readRow_25 ?_
    refine ZW.callV (as := [_]) dX3_readRow_26 cv_X3_59 ⟨_, rfl⟩ rfl (by decide) (Nat.le_of_ble_eq_true rfl) rfl (c_X3_addOrder _ hk hS) (fun v1 g1 ⟨q1, q2⟩ => ?_)
    subst q1; subst q2
    refine ZW.goto (tgt := 33) dX3_readRow_29 (by decide) ?_
    refine ZW.ireti dX3_readRow_33 rfl ?_
    exact ⟨fun _ => ⟨rfl, rfl⟩, fun q => absurd e q⟩
def frP (g g' : ZH) (c v : Int) : Prop := (c = 46 → v = 5 ∧ g' = adN (zSet g 89 7 46) 0) ∧ (48 ≤ c ∧ c ≤ 57 → v = (if c = 49 then 1 else 2) ∧ g' = zSet g 89 6 (c - 48)) ∧ (c ≠ 46 ∧ ¬ (48 ≤ c ∧ c ≤ 57) → v = -1 ∧ g' = g)
theorem c_X3_readFirst (g : ZH) {c : Int} (hc : 0 ≤ c ∧ c < 65536) (hk : 0 ≤ g 89 2 ∧ g 89 2 < 30) : ZC 1 mX3_readFirst [.inr 89, .inl c] g (fun v g' => frP g g' c v) := by
  refine ZC.of (by decide +kernel) (Nat.le_of_ble_eq_true rfl) ?_
  refine ZW.iload_n dX3_readFirst_0 rfl ?_
  refine ZW.bipush dX3_readFirst_1 rfl ?_
  refine ZW.icmp_ne (tgt := 18) dX3_readFirst_3 (by decide) (by first | omega | exact zB_R _) (by first | omega | exact zB_R _) (fun c3 => ?_) (fun c3 => ?_)
  · refine ZW.iload_n dX3_readFirst_18 rfl ?_
    refine ZW.bipush dX3_readFirst_19 rfl ?_
    refine ZW.bipush dX3_readFirst_21 rfl ?_
    refine ZW.callS (as := [_, _, _]) dX3_readFirst_23 cs_X3_38 rfl (by decide) (Nat.le_of_ble_eq_true rfl) rfl (c_X3_isIn _ (by omega) (by omega) (by omega)) (fun v1 g1 ⟨q1, q2⟩ => ?_)
    subst q1; subst q2
    refine ZW.if_ne (tgt := 31) dX3_readFirst_26 (by decide) (by first | omega | exact zB_R _) (fun c26 => ?_) (fun c26 => ?_)
    · have e := of_decide_eq_true (zB_ne c26)
      refine ZW.aload_n dX3_readFirst_31 rfl ?_
      refine ZW.iload_n dX3_readFirst_32 rfl ?_
      refine ZW.bipush dX3_readFirst_33 rfl ?_
      refine ZW.isub dX3_readFirst_35 ?_
      refine ZW.callV (as := [_]) dX3_readFirst_36 cv_X3_42 ⟨_, rfl⟩ rfl (by decide) (Nat.le_of_ble_eq_true rfl) rfl (c_X3_readUnit _) (fun v1 g2 ⟨q1, q2⟩ => ?_)
      subst q1
      refine ZW.istore_n dX3_readFirst_39 (by decide) rfl ?_
      refine ZW.iload_n dX3_readFirst_40 rfl ?_
      refine ZW.bipush dX3_readFirst_41 rfl ?_
      refine ZW.icmp_ne (tgt := 50) dX3_readFirst_43 (by decide) (by first | omega | exact zB_R _) (by first | omega | exact zB_R _) (fun c43 => ?_) (fun c43 => ?_)
      · refine ZW.iload_n dX3_readFirst_50 rfl ?_
        refine ZW.ireti dX3_readFirst_51 rfl ?_
        exact ⟨fun q => absurd q c3, fun _ => ⟨by rw [if_neg c43], q2⟩, fun q => absurd e q.2⟩
      · refine ZW.iconst dX3_readFirst_46 ?_
        refine ZW.goto (tgt := 51) dX3_readFirst_47 (by decide) ?_
        refine ZW.ireti dX3_readFirst_51 rfl ?_
        exact ⟨fun q => absurd q c3, fun _ => ⟨by rw [if_pos c43], q2⟩, fun q => absurd e q.2⟩
    · have e := of_decide_eq_false (zB_eq c26)
      refine ZW.iconst dX3_readFirst_29 ?_
      refine ZW.ireti dX3_readFirst_30 rfl ?_
      exact ⟨fun q => absurd q c3, fun q => absurd q e, fun _ => ⟨rfl, rfl⟩⟩
  · refine ZW.aload_n dX3_readFirst_6 rfl ?_
    refine ZW.bipush dX3_readFirst_7 rfl ?_
    refine ZW.putc (fz := 7) dX3_readFirst_9 fp_X3_55 ⟨_, rfl, rfl⟩ rfl (by omega) ?_
    refine ZW.aload_n dX3_readFirst_12 rfl ?_
    refine ZW.iconst dX3_readFirst_13 ?_
    refine ZW.callV (as := [_]) dX3_readFirst_14 cv_X3_59 ⟨_, rfl⟩ rfl (by decide) (Nat.le_of_ble_eq_true rfl) rfl (c_X3_addOrder _ hk (by rw [zSet_same, zUp_same]; decide)) (fun v1 g2 ⟨q1, q2⟩ => ?_)
    subst q1
    refine ZW.ireti dX3_readFirst_17 rfl ?_
    exact ⟨fun _ => ⟨rfl, q2⟩, fun q => by omega, fun q => absurd c3 q.1⟩
theorem c_X3_stage0 (g : ZH) {c : Int} (hc : 0 ≤ c ∧ c < 65536) (hk : 0 ≤ g 89 2 ∧ g 89 2 < 30) : ZC 2 mX3_stageAfter [.inr 89, .inl 0, .inl c] g (fun v g' => frP g g' c v) := by
  refine ZC.of (by decide +kernel) (Nat.le_of_ble_eq_true rfl) ?_
  refine ZW.iload_n dX3_stageAfter_0 rfl ?_
  refine ZW.tableIn (off := 35) (tgt := 36) dX3_stageAfter_1 (by omega) (by omega) rfl (by decide) ?_
  refine ZW.aload_n dX3_stageAfter_36 rfl ?_
  refine ZW.iload_n dX3_stageAfter_37 rfl ?_
  refine ZW.callV (as := [_]) dX3_stageAfter_38 cv_X3_34 ⟨_, rfl⟩ rfl (by decide) (Nat.le_of_ble_eq_true rfl) rfl (c_X3_readFirst _ hc hk) (fun v1 g1 q1 => ?_)
  refine ZW.ireti dX3_stageAfter_41 rfl ?_
  exact q1
theorem c_X3_stage1 (g : ZH) {c : Int} (hc : 0 ≤ c ∧ c < 65536) : ZC 2 mX3_stageAfter [.inr 89, .inl 1, .inl c] g (fun v g' => (48 ≤ c ∧ c ≤ 53 → v = 2 ∧ g' = zSet g 89 6 (10 + c - 48)) ∧ (¬ (48 ≤ c ∧ c ≤ 53) → v = (if c = 62 ∨ c = 33 then 3 else -1) ∧ g' = zSet g 89 7 c)) := by
  refine ZC.of (by decide +kernel) (Nat.le_of_ble_eq_true rfl) ?_
  refine ZW.iload_n dX3_stageAfter_0 rfl ?_
  refine ZW.tableIn (off := 41) (tgt := 42) dX3_stageAfter_1 (by omega) (by omega) rfl (by decide) ?_
  refine ZW.iload_n dX3_stageAfter_42 rfl ?_
  refine ZW.bipush dX3_stageAfter_43 rfl ?_
  refine ZW.bipush dX3_stageAfter_45 rfl ?_
  refine ZW.callS (as := [_, _, _]) dX3_stageAfter_47 cs_X3_38 rfl (by decide) (Nat.le_of_ble_eq_true rfl) rfl (c_X3_isIn _ (by omega) (by omega) (by omega)) (fun v1 g1 ⟨q1, q2⟩ => ?_)
  subst q1; subst q2
  refine ZW.if_eq (tgt := 67) dX3_stageAfter_50 (by decide) (by first | omega | exact zB_R _) (fun c50 => ?_) (fun c50 => ?_)
  · have e := of_decide_eq_false (zB_eq c50)
    refine ZW.aload_n dX3_stageAfter_67 rfl ?_
    refine ZW.iload_n dX3_stageAfter_68 rfl ?_
    refine ZW.callV (as := [_]) dX3_stageAfter_69 cv_X3_46 ⟨_, rfl⟩ rfl (by decide) (Nat.le_of_ble_eq_true rfl) rfl (c_X3_readSign _ hc) (fun v1 g2 q1 => ?_)
    refine ZW.ireti dX3_stageAfter_72 rfl ?_
    exact ⟨fun q => absurd q e, fun _ => q1⟩
  · have e := of_decide_eq_true (zB_ne c50)
    refine ZW.aload_n dX3_stageAfter_53 rfl ?_
    refine ZW.bipush dX3_stageAfter_54 rfl ?_
    refine ZW.iload_n dX3_stageAfter_56 rfl ?_
    refine ZW.iadd dX3_stageAfter_57 ?_
    refine ZW.bipush dX3_stageAfter_58 rfl ?_
    refine ZW.isub dX3_stageAfter_60 ?_
    refine ZW.callV (as := [_]) dX3_stageAfter_61 cv_X3_42 ⟨_, rfl⟩ rfl (by decide) (Nat.le_of_ble_eq_true rfl) rfl (c_X3_readUnit _) (fun v1 g2 q1 => ?_)
    refine ZW.goto (tgt := 72) dX3_stageAfter_64 (by decide) ?_
    refine ZW.ireti dX3_stageAfter_72 rfl ?_
    exact ⟨fun _ => q1, fun q => absurd e q⟩
theorem c_X3_stage2 (g : ZH) {c : Int} (hc : 0 ≤ c ∧ c < 65536) : ZC 2 mX3_stageAfter [.inr 89, .inl 2, .inl c] g (fun v g' => v = (if c = 62 ∨ c = 33 then 3 else -1) ∧ g' = zSet g 89 7 c) := by
  refine ZC.of (by decide +kernel) (Nat.le_of_ble_eq_true rfl) ?_
  refine ZW.iload_n dX3_stageAfter_0 rfl ?_
  refine ZW.tableIn (off := 72) (tgt := 73) dX3_stageAfter_1 (by omega) (by omega) rfl (by decide) ?_
  refine ZW.aload_n dX3_stageAfter_73 rfl ?_
  refine ZW.iload_n dX3_stageAfter_74 rfl ?_
  refine ZW.callV (as := [_]) dX3_stageAfter_75 cv_X3_46 ⟨_, rfl⟩ rfl (by decide) (Nat.le_of_ble_eq_true rfl) rfl (c_X3_readSign _ hc) (fun v1 g2 q1 => ?_)
  refine ZW.ireti dX3_stageAfter_78 rfl ?_
  exact q1
theorem c_X3_stage3 (g : ZH) {c : Int} (hc : 0 ≤ c ∧ c < 65536) : ZC 2 mX3_stageAfter [.inr 89, .inl 3, .inl c] g (fun v g' => v = (if 97 ≤ c ∧ c ≤ 105 then 4 else -1) ∧ g' = zSet g 89 8 (c - 97)) := by
  refine ZC.of (by decide +kernel) (Nat.le_of_ble_eq_true rfl) ?_
  refine ZW.iload_n dX3_stageAfter_0 rfl ?_
  refine ZW.tableIn (off := 78) (tgt := 79) dX3_stageAfter_1 (by omega) (by omega) rfl (by decide) ?_
  refine ZW.aload_n dX3_stageAfter_79 rfl ?_
  refine ZW.iload_n dX3_stageAfter_80 rfl ?_
  refine ZW.callV (as := [_]) dX3_stageAfter_81 cv_X3_49 ⟨_, rfl⟩ rfl (by decide) (Nat.le_of_ble_eq_true rfl) rfl (c_X3_readColumn _ hc) (fun v1 g2 q1 => ?_)
  refine ZW.ireti dX3_stageAfter_84 rfl ?_
  exact q1
theorem c_X3_stage4 (g : ZH) {c : Int} (hc : 0 ≤ c ∧ c < 65536) (hk : 0 ≤ g 89 2 ∧ g 89 2 < 30) (hS : 0 ≤ g 89 7 ∧ g 89 7 < 65536) : ZC 2 mX3_stageAfter [.inr 89, .inl 4, .inl c] g (fun v g' => (49 ≤ c ∧ c ≤ 55 → v = 5 ∧ g' = adN g ((c - 49) * 9 + g 89 8)) ∧ (¬ (49 ≤ c ∧ c ≤ 55) → v = -1 ∧ g' = g)) := by
  refine ZC.of (by decide +kernel) (Nat.le_of_ble_eq_true rfl) ?_
  refine ZW.iload_n dX3_stageAfter_0 rfl ?_
  refine ZW.tableIn (off := 84) (tgt := 85) dX3_stageAfter_1 (by omega) (by omega) rfl (by decide) ?_
  refine ZW.aload_n dX3_stageAfter_85 rfl ?_
  refine ZW.iload_n dX3_stageAfter_86 rfl ?_
  refine ZW.callV (as := [_]) dX3_stageAfter_87 cv_X3_52 ⟨_, rfl⟩ rfl (by decide) (Nat.le_of_ble_eq_true rfl) rfl (c_X3_readRow _ hc hk hS) (fun v1 g2 q1 => ?_)
  refine ZW.ireti dX3_stageAfter_90 rfl ?_
  exact q1
theorem c_X3_stage5 (g : ZH) {c : Int} (hc : 0 ≤ c ∧ c < 65536) : ZC 2 mX3_stageAfter [.inr 89, .inl 5, .inl c] g (fun v g' => v = (if c = 59 then 0 else -1) ∧ g' = g) := by
  refine ZC.of (by decide +kernel) (Nat.le_of_ble_eq_true rfl) ?_
  refine ZW.iload_n dX3_stageAfter_0 rfl ?_
  refine ZW.tableOut (tgt := 91) dX3_stageAfter_1 (by omega) (by omega) (by decide) ?_
  refine ZW.iload_n dX3_stageAfter_91 rfl ?_
  refine ZW.bipush dX3_stageAfter_92 rfl ?_
  refine ZW.icmp_ne (tgt := 101) dX3_stageAfter_94 (by decide) (by first | omega | exact zB_R _) (by first | omega | exact zB_R _) (fun c94 => ?_) (fun c94 => ?_)
  · refine ZW.iconst dX3_stageAfter_101 ?_
    refine ZW.ireti dX3_stageAfter_102 rfl ?_
    exact ⟨by rw [if_neg c94], rfl⟩
  · refine ZW.iconst dX3_stageAfter_97 ?_
    refine ZW.goto (tgt := 102) dX3_stageAfter_98 (by decide) ?_
    refine ZW.ireti dX3_stageAfter_102 rfl ?_
    exact ⟨by rw [if_pos c94], rfl⟩
-- the orders that stand in the class's rows
def rowC (g : ZH) (l : List ZO) : Prop := ∀ (j : Nat) (o : ZO), l[j]? = some o → g 91 (j : Int) = (if o.1 = 0 then 62 else if o.1 = 1 then 33 else 46) ∧ (o.1 ≠ 2 → g 92 (j : Int) = o.2.1 ∧ g 93 (j : Int) = o.2.2)
def OR (g g1 : ZH) (k U S C : Int) (l : List ZO) : Prop := zFr [89, 91, 92, 93] g g1 ∧ g1 89 1 = g 89 1 ∧ g1 89 2 = k ∧ g1 89 6 = U ∧ g1 89 7 = S ∧ g1 89 8 = C ∧ (l.length : Int) = k ∧ rowC g1 l
theorem OR.f {g g1 : ZH} {k U S C : Int} {l : List ZO} (h : OR g g1 k U S C l) : zFr [89, 91, 92, 93] g g1 := h.1
theorem OR.u {g g1 : ZH} {k U S C : Int} {l : List ZO} (h : OR g g1 k U S C l) (v : Int) : OR g (zSet g1 89 6 v) k v S C l := by
  obtain ⟨h1, h2, h3, h4, h5, h6, h7, h8⟩ := h
  refine ⟨h1.set (by decide) _ _, ?_⟩
  rw [zSet_same, zUp_ne _ _ (by decide), zUp_ne _ _ (by decide), zUp_same, zUp_ne _ _ (by decide), zUp_ne _ _ (by decide)]
  exact ⟨h2, h3, rfl, h5, h6, h7, h8⟩
theorem OR.s {g g1 : ZH} {k U S C : Int} {l : List ZO} (h : OR g g1 k U S C l) (v : Int) : OR g (zSet g1 89 7 v) k U v C l := by
  obtain ⟨h1, h2, h3, h4, h5, h6, h7, h8⟩ := h
  refine ⟨h1.set (by decide) _ _, ?_⟩
  rw [zSet_same, zUp_ne _ _ (by decide), zUp_ne _ _ (by decide), zUp_ne _ _ (by decide), zUp_same, zUp_ne _ _ (by decide)]
  exact ⟨h2, h3, h4, rfl, h6, h7, h8⟩
theorem OR.c {g g1 : ZH} {k U S C : Int} {l : List ZO} (h : OR g g1 k U S C l) (v : Int) : OR g (zSet g1 89 8 v) k U S v l := by
  obtain ⟨h1, h2, h3, h4, h5, h6, h7, h8⟩ := h
  refine ⟨h1.set (by decide) _ _, ?_⟩
  rw [zSet_same, zUp_ne _ _ (by decide), zUp_ne _ _ (by decide), zUp_ne _ _ (by decide), zUp_ne _ _ (by decide), zUp_same]
  exact ⟨h2, h3, h4, h5, rfl, h7, h8⟩
theorem OR.add {g g1 : ZH} {k U S C x : Int} {l : List ZO} (h : OR g g1 k U S C l) {o : ZO} (hS : S = (if o.1 = 0 then 62 else if o.1 = 1 then 33 else 46)) (ho : o.1 ≠ 2 → U = o.2.1 ∧ x = o.2.2) : OR g (adN g1 x) (k + 1) U S C (l ++ [o]) := by
  obtain ⟨h1, h2, h3, h4, h5, h6, h7, h8⟩ := h
  unfold adN
  rw [h3, h4, h5]
  refine ⟨(((h1.set (by decide) _ _).set (by decide) _ _).set (by decide) _ _).set (by decide) _ _, ?_⟩
  rw [zSet_same, zUp_ne _ _ (by decide), zUp_same, zUp_ne _ _ (by decide), zUp_ne _ _ (by decide), zUp_ne _ _ (by decide)]
  refine ⟨h2, rfl, h4, h5, h6, by simp; omega, fun j o2 hj => ?_⟩
  show zUp (g1 91) k S j = _ ∧ (_ → zUp (g1 92) k U j = _ ∧ zUp (g1 93) k x j = _)
  rw [List.getElem?_append] at hj
  split at hj
  · next hlt =>
    rw [zUp_ne _ _ (by omega), zUp_ne _ _ (by omega), zUp_ne _ _ (by omega)]
    exact h8 j o2 hj
  · next hge =>
    have hjk : j = l.length := by
      have h1 := (List.getElem?_eq_some_iff.mp hj).1
      simp at h1
      omega
    subst hjk
    rw [Nat.sub_self] at hj
    have e : o = o2 := Option.some.inj hj
    subst e
    rw [h7, zUp_same, zUp_same, zUp_same]
    exact ⟨hS, ho⟩
