-- the reference: text, history, snapshot
def rI0 (g : ZH) : Prop := rI g
def typV (L : Int) : Int := if L = 60 then -3 else L + 1
/-- all but the text stays -/
def rTx (g g' : ZH) : Prop := (∀ k, k < 100 → g' k = g k) ∧ g' 104 = g 104 ∧ g' 100 6 = g 100 6 ∧ rH g g' ∧ g' 101 = g 101
theorem c_X8_type (g : ZH) (hI : rI g) {v : Int} (hv : zR v) : ZC 0 mX8_type [.inr 100, .inl v] g (fun r g' => r = typV (g 100 8) ∧ rTx g g' ∧ g' 100 8 = (if g 100 8 = 60 then 60 else g 100 8 + 1) ∧ g' 105 = (if g 100 8 = 60 then g 105 else zUp (g 105) (g 100 8) v)) := by
  have ht := hI.2.2.1
  have t1 := ht.1
  have t2 := ht.2.1
  refine ZC.of (by decide +kernel) (Nat.le_of_ble_eq_true rfl) ?_
  have s0 := rSame.t0 g
  refine ZW.aload_n dX8_type_0 rfl ?_
  refine ZW.iconst dX8_type_1 ?_
  refine ZW.puti (fz := 0) dX8_type_2 fp_X8_44 ⟨_, rfl, rfl⟩ rfl ?_
  obtain ⟨g0, hg0⟩ : ∃ z, z = zSet g 100 0 0 := ⟨_, rfl⟩
  rw [← hg0] at s0 ⊢
  have e8 : g0 100 8 = g 100 8 := s0.1.2.2.2.2
  have e5 : g0 105 = g 105 := s0.1.2.2.1
  refine ZW.aload_n dX8_type_5 rfl ?_
  refine ZW.getI (fz := 8) dX8_type_6 fl_X8_166 ⟨_, rfl, rfl⟩ rfl rfl ?_
  rw [e8]
  refine ZW.bipush dX8_type_9 rfl ?_
  refine ZW.icmp_ne (tgt := 17) dX8_type_11 (by decide) (by first | omega | exact zB_R _) (by first | omega | exact zB_R _) (fun c11 => ?_) (fun c11 => ?_)
  · refine ZW.aload_n dX8_type_17 rfl ?_
    refine ZW.getR dX8_type_18 fl_X8_22 ⟨_, rfl, rfl⟩ ?_
    refine ZW.aload_n dX8_type_21 rfl ?_
    refine ZW.getI (fz := 8) dX8_type_22 fl_X8_166 ⟨_, rfl, rfl⟩ rfl rfl ?_
    rw [e8]
    refine ZW.iload_n dX8_type_25 rfl ?_
    refine ZW.iast dX8_type_26 rfl (by decide) (by omega) ?_
    have e8b : (zSet g0 105 (g 100 8) v) 100 8 = g 100 8 := by rw [zSet_ne _ _ _ (by decide)]; exact e8
    refine ZW.aload_n dX8_type_27 rfl ?_
    refine ZW.dup dX8_type_28 ?_
    refine ZW.getI (fz := 8) dX8_type_29 fl_X8_166 ⟨_, rfl, rfl⟩ rfl rfl ?_
    rw [e8b]
    refine ZW.iconst dX8_type_32 ?_
    refine ZW.iadd dX8_type_33 ?_
    refine ZW.puti (fz := 8) dX8_type_34 fp_X8_166 ⟨_, rfl, rfl⟩ rfl ?_
    refine ZW.aload_n dX8_type_37 rfl ?_
    refine ZW.getI (fz := 8) dX8_type_38 fl_X8_166 ⟨_, rfl, rfl⟩ rfl rfl ?_
    refine ZW.ireti dX8_type_41 rfl ?_
    refine ⟨?_, ⟨fun k hk => ?_, ?_, ?_, ⟨?_, ?_⟩, ?_⟩, ?_, ?_⟩
    · rw [zSet_same, zUp_same]; unfold typV; rw [if_neg c11]
    · rw [zSet_ne _ _ _ (by omega), zSet_ne _ _ _ (by omega)]; exact s0.1.1 k hk
    · rw [zSet_ne _ _ _ (by decide), zSet_ne _ _ _ (by decide)]; exact s0.1.2.1
    · rw [zSet_same, zUp_ne _ _ (by decide), zSet_ne _ _ _ (by decide)]; exact s0.1.2.2.2.1
    · rw [zSet_ne _ _ _ (by decide), zSet_ne _ _ _ (by decide)]; exact s0.2.1.1
    · rw [zSet_same, zUp_ne _ _ (by decide), zSet_ne _ _ _ (by decide)]; exact s0.2.1.2
    · rw [zSet_ne _ _ _ (by decide), zSet_ne _ _ _ (by decide)]; exact s0.2.2
    · rw [zSet_same, zUp_same, if_neg c11]
    · rw [zSet_ne _ _ _ (by decide), zSet_same, if_neg c11, e5]
  · refine ZW.bipush dX8_type_14 rfl ?_
    refine ZW.ireti dX8_type_16 rfl ?_
    refine ⟨by unfold typV; rw [if_pos c11], ⟨s0.1.1, s0.1.2.1, s0.1.2.2.2.1, s0.2.1, s0.2.2⟩, ?_, ?_⟩
    · rw [if_pos c11, e8, c11]
    · rw [if_pos c11, e5]
theorem c_X8_clearText (g : ZH) : ZC 0 mX8_clearText [.inr 100] g (fun r g' => r = g 100 8 ∧ rTx g g' ∧ g' 100 8 = 0 ∧ g' 105 = g 105) := by
  refine ZC.of (by decide +kernel) (Nat.le_of_ble_eq_true rfl) ?_
  have s0 := rSame.t0 g
  refine ZW.aload_n dX8_clearText_0 rfl ?_
  refine ZW.iconst dX8_clearText_1 ?_
  refine ZW.puti (fz := 0) dX8_clearText_2 fp_X8_44 ⟨_, rfl, rfl⟩ rfl ?_
  obtain ⟨g0, hg0⟩ : ∃ z, z = zSet g 100 0 0 := ⟨_, rfl⟩
  rw [← hg0] at s0 ⊢
  refine ZW.aload_n dX8_clearText_5 rfl ?_
  refine ZW.getI (fz := 8) dX8_clearText_6 fl_X8_166 ⟨_, rfl, rfl⟩ rfl rfl ?_
  refine ZW.istore_n dX8_clearText_9 (by decide) rfl ?_
  refine ZW.aload_n dX8_clearText_10 rfl ?_
  refine ZW.iconst dX8_clearText_11 ?_
  refine ZW.puti (fz := 8) dX8_clearText_12 fp_X8_166 ⟨_, rfl, rfl⟩ rfl ?_
  refine ZW.iload_n dX8_clearText_15 rfl ?_
  refine ZW.ireti dX8_clearText_16 rfl ?_
  refine ⟨s0.1.2.2.2.2, ⟨fun k hk => ?_, ?_, ?_, ⟨?_, ?_⟩, ?_⟩, ?_, ?_⟩
  · rw [zSet_ne _ _ _ (by omega)]; exact s0.1.1 k hk
  · rw [zSet_ne _ _ _ (by decide)]; exact s0.1.2.1
  · rw [zSet_same, zUp_ne _ _ (by decide)]; exact s0.1.2.2.2.1
  · rw [zSet_ne _ _ _ (by decide)]; exact s0.2.1.1
  · rw [zSet_same, zUp_ne _ _ (by decide)]; exact s0.2.1.2
  · rw [zSet_ne _ _ _ (by decide)]; exact s0.2.2
  · rw [zSet_same, zUp_same]
  · rw [zSet_ne _ _ _ (by decide)]; exact s0.1.2.2.1
theorem c_X8_undo (g : ZH) (hI : rI g) : ZC 0 mX8_undo [.inr 100] g (fun r g' => r = (if g 100 4 = 0 then -5 else g 100 4 - 1) ∧ rA g g' ∧ g' 103 = g 103 ∧ (g 100 4 = 0 → g' 100 4 = 0 ∧ g' 101 = g 101) ∧ (g 100 4 ≠ 0 → g' 100 4 = g 100 4 - 1 ∧ g' 101 = zPart (hN g 0) (g 101) 289)) := by
  have hn := hI.2.1
  refine ZC.of (by decide +kernel) (Nat.le_of_ble_eq_true rfl) ?_
  have s0 := rSame.t0 g
  refine ZW.aload_n dX8_undo_0 rfl ?_
  refine ZW.iconst dX8_undo_1 ?_
  refine ZW.puti (fz := 0) dX8_undo_2 fp_X8_44 ⟨_, rfl, rfl⟩ rfl ?_
  obtain ⟨g0, hg0⟩ : ∃ z, z = zSet g 100 0 0 := ⟨_, rfl⟩
  rw [← hg0] at s0 ⊢
  have e4 : g0 100 4 = g 100 4 := s0.2.1.2
  have e101 : g0 101 = g 101 := s0.2.2
  have e103 : g0 103 = g 103 := s0.2.1.1
  refine ZW.aload_n dX8_undo_5 rfl ?_
  refine ZW.getI (fz := 4) dX8_undo_6 fl_X8_56 ⟨_, rfl, rfl⟩ rfl rfl ?_
  rw [e4]
  refine ZW.if_ne (tgt := 15) dX8_undo_9 (by decide) (by first | omega | exact zB_R _) (fun c9 => ?_) (fun c9 => ?_)
  · refine ZW.aload_n dX8_undo_15 rfl ?_
    refine ZW.dup dX8_undo_16 ?_
    refine ZW.getI (fz := 4) dX8_undo_17 fl_X8_56 ⟨_, rfl, rfl⟩ rfl rfl ?_
    rw [e4]
    refine ZW.iconst dX8_undo_20 ?_
    refine ZW.isub dX8_undo_21 ?_
    refine ZW.puti (fz := 4) dX8_undo_22 fp_X8_56 ⟨_, rfl, rfl⟩ rfl ?_
    refine ZW.iconst dX8_undo_25 ?_
    refine ZW.istore_n dX8_undo_26 (by decide) rfl ?_
    obtain ⟨g1, hg1⟩ : ∃ z, z = zSet g0 100 4 (g 100 4 - 1) := ⟨_, rfl⟩
    rw [← hg1]
    have a4 : g1 100 4 = g 100 4 - 1 := by rw [hg1, zSet_same, zUp_same]
    have a101 : g1 101 = g 101 := by rw [hg1, zSet_ne _ _ _ (by decide)]; exact e101
    have a103 : g1 103 = g 103 := by rw [hg1, zSet_ne _ _ _ (by decide)]; exact e103
    have loop : ∀ (n : Nat) (x : Int), 0 ≤ x → x + n = 289 → ZW 0 mX8_undo 27 [some (.inr 100), some (.inl x)] [] (zRow g1 101 (zPart (hN g 0) (g 101) x)) (fun r g' => r = (if g 100 4 = 0 then -5 else g 100 4 - 1) ∧ rA g g' ∧ g' 103 = g 103 ∧ (g 100 4 = 0 → g' 100 4 = 0 ∧ g' 101 = g 101) ∧ (g 100 4 ≠ 0 → g' 100 4 = g 100 4 - 1 ∧ g' 101 = zPart (hN g 0) (g 101) 289)) := by
      intro n
      induction n with
      | zero =>
        intro x h0 hnx
        have hx : x = 289 := by omega
        subst hx
        refine ZW.iload_n dX8_undo_27 rfl ?_
        refine ZW.sipush dX8_undo_28 rfl ?_
        refine ZW.icmp_ge (tgt := 61) dX8_undo_31 (by decide) (by first | omega | exact zB_R _) (by first | omega | exact zB_R _) (fun c31 => ?_) (fun c31 => ?_)
        · refine ZW.aload_n dX8_undo_61 rfl ?_
          refine ZW.getI (fz := 4) dX8_undo_62 fl_X8_56 ⟨_, rfl, rfl⟩ rfl rfl ?_
          refine ZW.ireti dX8_undo_65 rfl ?_
          refine ⟨?_, ⟨fun k hk => ?_, ?_, ?_, ?_, ?_⟩, ?_, fun q => absurd q c9, fun _ => ⟨?_, ?_⟩⟩
          · rw [if_neg c9, zRow_ne _ _ (by decide)]; exact a4
          · rw [zRow_ne _ _ (by omega), hg1, zSet_ne _ _ _ (by omega)]; exact s0.1.1 k hk
          · rw [zRow_ne _ _ (by decide), hg1, zSet_ne _ _ _ (by decide)]; exact s0.1.2.1
          · rw [zRow_ne _ _ (by decide), hg1, zSet_ne _ _ _ (by decide)]; exact s0.1.2.2.1
          · rw [zRow_ne _ _ (by decide), hg1, zSet_same, zUp_ne _ _ (by decide)]; exact s0.1.2.2.2.1
          · rw [zRow_ne _ _ (by decide), hg1, zSet_same, zUp_ne _ _ (by decide)]; exact s0.1.2.2.2.2
          · rw [zRow_ne _ _ (by decide)]; exact a103
          · rw [zRow_ne _ _ (by decide)]; exact a4
          · rw [zRow_same]
        · exact absurd c31 (by omega)
      | succ n ih =>
        intro x h0 hnx
        have b4 : (zRow g1 101 (zPart (hN g 0) (g 101) x)) 100 4 = g 100 4 - 1 := by rw [zRow_ne _ _ (by decide)]; exact a4
        refine ZW.iload_n dX8_undo_27 rfl ?_
        refine ZW.sipush dX8_undo_28 rfl ?_
        refine ZW.icmp_ge (tgt := 61) dX8_undo_31 (by decide) (by first | omega | exact zB_R _) (by first | omega | exact zB_R _) (fun c31 => ?_) (fun c31 => ?_)
        · exact absurd c31 (by omega)
        · refine ZW.aload_n dX8_undo_34 rfl ?_
          refine ZW.getR dX8_undo_35 fl_X8_7 ⟨_, rfl, rfl⟩ ?_
          refine ZW.iload_n dX8_undo_38 rfl ?_
          refine ZW.aload_n dX8_undo_39 rfl ?_
          refine ZW.getR dX8_undo_40 fl_X8_16 ⟨_, rfl, rfl⟩ ?_
          refine ZW.sipush dX8_undo_43 rfl ?_
          refine ZW.aload_n dX8_undo_46 rfl ?_
          refine ZW.getI (fz := 4) dX8_undo_47 fl_X8_56 ⟨_, rfl, rfl⟩ rfl rfl ?_
          rw [b4]
          refine ZW.imul dX8_undo_50 ?_
          refine ZW.iload_n dX8_undo_51 rfl ?_
          refine ZW.iadd dX8_undo_52 ?_
          refine ZW.iald dX8_undo_53 rfl (by decide) (by omega) rfl ?_
          rw [zRow_ne _ _ (show (103 : Nat) ≠ 101 by decide), a103, show g 103 (289 * (g 100 4 - 1) + x) = hN g 0 x by unfold hN; congr 1; omega]
          refine ZW.iast dX8_undo_54 rfl (by decide) (by omega) ?_
          refine ZW.iinc dX8_undo_55 rfl (by decide) rfl ?_
          refine ZW.goto (tgt := 27) dX8_undo_58 (by decide) ?_
          rw [zSet_up, zPart_up _ _ h0]
          exact ih (x + 1) (by omega) (by omega)
    have h1 := loop 289 0 (by omega) (by omega)
    rw [zPart_0, ← a101, zRow_self] at h1
    rw [a101] at h1
    exact h1
  · refine ZW.bipush dX8_undo_12 rfl ?_
    refine ZW.ireti dX8_undo_14 rfl ?_
    exact ⟨by rw [if_pos c9], s0.1, e103, fun _ => ⟨by rw [e4]; exact c9, e101⟩, fun q => absurd c9 q⟩
theorem c_X8_keep (g : ZH) (hI : rI g) : ZC 0 mX8_keep [.inr 100] g (fun r g' => r = g 101 191 ∧ (∀ k, k < 100 → g' k = g k) ∧ g' 105 = g 105 ∧ g' 100 8 = g 100 8 ∧ rH g g' ∧ g' 101 = g 101 ∧ g' 100 6 = 1 ∧ ∀ i, 0 ≤ i → i < 289 → g' 104 i = g 101 i) := by
  refine ZC.of (by decide +kernel) (Nat.le_of_ble_eq_true rfl) ?_
  have s0 := rSame.t0 g
  refine ZW.aload_n dX8_keep_0 rfl ?_
  refine ZW.iconst dX8_keep_1 ?_
  refine ZW.puti (fz := 0) dX8_keep_2 fp_X8_44 ⟨_, rfl, rfl⟩ rfl ?_
  refine ZW.iconst dX8_keep_5 ?_
  refine ZW.istore_n dX8_keep_6 (by decide) rfl ?_
  obtain ⟨g0, hg0⟩ : ∃ z, z = zSet g 100 0 0 := ⟨_, rfl⟩
  rw [← hg0] at s0 ⊢
  have e101 : g0 101 = g 101 := s0.2.2
  have loop : ∀ (n : Nat) (x : Int), 0 ≤ x → x + n = 289 → ZW 0 mX8_keep 7 [some (.inr 100), some (.inl x)] [] (zRow g0 104 (zPart (g 101) (g0 104) x)) (fun r g' => r = g 101 191 ∧ (∀ k, k < 100 → g' k = g k) ∧ g' 105 = g 105 ∧ g' 100 8 = g 100 8 ∧ rH g g' ∧ g' 101 = g 101 ∧ g' 100 6 = 1 ∧ ∀ i, 0 ≤ i → i < 289 → g' 104 i = g 101 i) := by
    intro n
    induction n with
    | zero =>
      intro x h0 hn
      have hx : x = 289 := by omega
      subst hx
      refine ZW.iload_n dX8_keep_7 rfl ?_
      refine ZW.sipush dX8_keep_8 rfl ?_
      refine ZW.icmp_ge (tgt := 32) dX8_keep_11 (by decide) (by first | omega | exact zB_R _) (by first | omega | exact zB_R _) (fun c11 => ?_) (fun c11 => ?_)
      · refine ZW.aload_n dX8_keep_32 rfl ?_
        refine ZW.iconst dX8_keep_33 ?_
        refine ZW.putz (fz := 6) dX8_keep_34 fp_X8_200 ⟨_, rfl, rfl⟩ rfl (by first | exact Or.inl rfl | exact Or.inr rfl | assumption | omega) ?_
        refine ZW.aload_n dX8_keep_37 rfl ?_
        refine ZW.getR dX8_keep_38 fl_X8_7 ⟨_, rfl, rfl⟩ ?_
        refine ZW.sipush dX8_keep_41 rfl ?_
        refine ZW.iald dX8_keep_44 rfl (by decide) (by omega) rfl ?_
        refine ZW.ireti dX8_keep_45 rfl ?_
        refine ⟨?_, fun k hk => ?_, ?_, ?_, ⟨?_, ?_⟩, ?_, ?_, fun i i0 i1 => ?_⟩
        · rw [zSet_ne _ _ _ (by decide), zRow_ne _ _ (by decide), e101]
        · rw [zSet_ne _ _ _ (by omega), zRow_ne _ _ (by omega)]; exact s0.1.1 k hk
        · rw [zSet_ne _ _ _ (by decide), zRow_ne _ _ (by decide)]; exact s0.1.2.2.1
        · rw [zSet_same, zUp_ne _ _ (by decide), zRow_ne _ _ (by decide)]; exact s0.1.2.2.2.2
        · rw [zSet_ne _ _ _ (by decide), zRow_ne _ _ (by decide)]; exact s0.2.1.1
        · rw [zSet_same, zUp_ne _ _ (by decide), zRow_ne _ _ (by decide)]; exact s0.2.1.2
        · rw [zSet_ne _ _ _ (by decide), zRow_ne _ _ (by decide)]; exact e101
        · rw [zSet_same, zUp_same]
        · rw [zSet_ne _ _ _ (by decide), zRow_same]
          unfold zPart
          rw [if_pos ⟨i0, i1⟩]
      · exact absurd c11 (by omega)
    | succ n ih =>
      intro x h0 hn
      refine ZW.iload_n dX8_keep_7 rfl ?_
      refine ZW.sipush dX8_keep_8 rfl ?_
      refine ZW.icmp_ge (tgt := 32) dX8_keep_11 (by decide) (by first | omega | exact zB_R _) (by first | omega | exact zB_R _) (fun c11 => ?_) (fun c11 => ?_)
      · exact absurd c11 (by omega)
      · refine ZW.aload_n dX8_keep_14 rfl ?_
        refine ZW.getR dX8_keep_15 fl_X8_19 ⟨_, rfl, rfl⟩ ?_
        refine ZW.iload_n dX8_keep_18 rfl ?_
        refine ZW.aload_n dX8_keep_19 rfl ?_
        refine ZW.getR dX8_keep_20 fl_X8_7 ⟨_, rfl, rfl⟩ ?_
        refine ZW.iload_n dX8_keep_23 rfl ?_
        refine ZW.iald dX8_keep_24 rfl (by decide) (by omega) rfl ?_
        rw [zRow_ne _ _ (show (101 : Nat) ≠ 104 by decide), e101]
        refine ZW.iast dX8_keep_25 rfl (by decide) (by omega) ?_
        refine ZW.iinc dX8_keep_26 rfl (by decide) rfl ?_
        refine ZW.goto (tgt := 7) dX8_keep_29 (by decide) ?_
        rw [zSet_up, zPart_up _ _ h0]
        exact ih (x + 1) (by omega) (by omega)
  have h1 := loop 289 0 (by omega) (by omega)
  rw [zPart_0, zRow_self] at h1
  exact h1
def resV (g : ZH) : Int := if g 100 6 = 0 then -5 else g 104 191
theorem c_X8_restore (g : ZH) (hI : rI g) (h104 : g 100 6 = 1 → 0 ≤ g 104 191) : ZC 1 mX8_restore [.inr 100] g (fun r g' => actP g g' (resV g) (zPart (g 104) (g 101) 289) r) := by
  have h6 := hI.2.2.2
  refine ZC.of (by decide +kernel) (Nat.le_of_ble_eq_true rfl) ?_
  have s0 := rSame.t0 g
  refine ZW.aload_n dX8_restore_0 rfl ?_
  refine ZW.iconst dX8_restore_1 ?_
  refine ZW.puti (fz := 0) dX8_restore_2 fp_X8_44 ⟨_, rfl, rfl⟩ rfl ?_
  obtain ⟨g0, hg0⟩ : ∃ z, z = zSet g 100 0 0 := ⟨_, rfl⟩
  rw [← hg0] at s0 ⊢
  have e6 : g0 100 6 = g 100 6 := s0.1.2.2.2.1
  refine ZW.aload_n dX8_restore_5 rfl ?_
  refine ZW.getI (fz := 6) dX8_restore_6 fl_X8_200 ⟨_, rfl, rfl⟩ rfl rfl ?_
  rw [e6]
  refine ZW.if_ne (tgt := 15) dX8_restore_9 (by decide) (by first | omega | exact zB_R _) (fun c9 => ?_) (fun c9 => ?_)
  · refine ZW.aload_n dX8_restore_15 rfl ?_
    refine ZW.callVv (as := []) dX8_restore_16 cv_X8_127 ⟨_, rfl⟩ rfl (by decide) (Nat.le_of_ble_eq_true rfl) rfl (fun _ _ hz _ => hz) (c_X8_records _ (by rw [s0.2.1.2]; exact hI.2.1)) (fun g1 q3 => ?_)
    have d3 := s0.done (recP.done q3)
    rw [s0.2.2] at d3
    have e101 := d3.2.2
    have e104 : g1 104 = g 104 := d3.1.2.1
    have hV : resV g = g 104 191 := by unfold resV; rw [if_neg c9]
    have loop : ∀ (n : Nat) (x : Int), 0 ≤ x → x + n = 289 → ZW 1 mX8_restore 21 [some (.inr 100), some (.inl x)] [] (zRow g1 101 (zPart (g 104) (g 101) x)) (fun r g' => actP g g' (resV g) (zPart (g 104) (g 101) 289) r) := by
      intro n
      induction n with
      | zero =>
        intro x h0 hnx
        have hx : x = 289 := by omega
        subst hx
        refine ZW.iload_n dX8_restore_21 rfl ?_
        refine ZW.sipush dX8_restore_22 rfl ?_
        refine ZW.icmp_ge (tgt := 46) dX8_restore_25 (by decide) (by first | omega | exact zB_R _) (by first | omega | exact zB_R _) (fun c25 => ?_) (fun c25 => ?_)
        · refine ZW.aload_n dX8_restore_46 rfl ?_
          refine ZW.getR dX8_restore_47 fl_X8_7 ⟨_, rfl, rfl⟩ ?_
          refine ZW.sipush dX8_restore_50 rfl ?_
          refine ZW.iald dX8_restore_53 rfl (by decide) (by omega) rfl ?_
          refine ZW.ireti dX8_restore_54 rfl ?_
          refine actP.yes ?_ (by rw [hV]; exact h104 (by omega)) (d3.row (ks := []) (zFr.rf _ _) (by decide))
          rw [hV, zRow_same]
          unfold zPart
          rw [if_pos (by decide)]
        · exact absurd c25 (by omega)
      | succ n ih =>
        intro x h0 hnx
        refine ZW.iload_n dX8_restore_21 rfl ?_
        refine ZW.sipush dX8_restore_22 rfl ?_
        refine ZW.icmp_ge (tgt := 46) dX8_restore_25 (by decide) (by first | omega | exact zB_R _) (by first | omega | exact zB_R _) (fun c25 => ?_) (fun c25 => ?_)
        · exact absurd c25 (by omega)
        · refine ZW.aload_n dX8_restore_28 rfl ?_
          refine ZW.getR dX8_restore_29 fl_X8_7 ⟨_, rfl, rfl⟩ ?_
          refine ZW.iload_n dX8_restore_32 rfl ?_
          refine ZW.aload_n dX8_restore_33 rfl ?_
          refine ZW.getR dX8_restore_34 fl_X8_19 ⟨_, rfl, rfl⟩ ?_
          refine ZW.iload_n dX8_restore_37 rfl ?_
          refine ZW.iald dX8_restore_38 rfl (by decide) (by omega) rfl ?_
          rw [zRow_ne _ _ (show (104 : Nat) ≠ 101 by decide), e104]
          refine ZW.iast dX8_restore_39 rfl (by decide) (by omega) ?_
          refine ZW.iinc dX8_restore_40 rfl (by decide) rfl ?_
          refine ZW.goto (tgt := 21) dX8_restore_43 (by decide) ?_
          rw [zSet_up, zPart_up _ _ h0]
          exact ih (x + 1) (by omega) (by omega)
    refine ZW.iconst dX8_restore_19 ?_
    refine ZW.istore_n dX8_restore_20 (by decide) rfl ?_
    have h1 := loop 289 0 (by omega) (by omega)
    rw [zPart_0, ← e101, zRow_self] at h1
    rw [e101] at h1
    exact h1
  · refine ZW.bipush dX8_restore_12 rfl ?_
    refine ZW.ireti dX8_restore_14 rfl ?_
    exact actP.neg (by unfold resV; rw [if_pos c9]) (by decide) s0
-- what is told
def hexV (r : Int → Int) (x w : Int) : Int :=
  if isHexB x then (if w = 0 then r x else if w = 1 then r (63 + x) else if w = 2 then (if r (126 + x) = 0 then -5 else r (126 + x) - 1) else if w = 3 then unitOnF r x else if w = 4 ∨ w = 5 then zB (zoneB r x (w - 4)) else if w = 6 ∨ w = 7 then zB (seesF r (w - 6) x) else if w = 8 then besF x else -2) else -1
set_option maxHeartbeats 1000000 in
theorem c_X8_hex (g : ZH) (hI : rI g) {x w : Int} (hx : zR x) (hw : zR w) : ZC 4 mX8_hex [.inr 100, .inl x, .inl w] g (fun r g' => r = hexV (g 101) x w ∧ rSame g g') := by
  obtain ⟨hB, hU⟩ := rows hI
  refine ZC.of (by decide +kernel) (Nat.le_of_ble_eq_true rfl) ?_
  have s0 := rSame.t0 g
  refine ZW.aload_n dX8_hex_0 rfl ?_
  refine ZW.iconst dX8_hex_1 ?_
  refine ZW.puti (fz := 0) dX8_hex_2 fp_X8_44 ⟨_, rfl, rfl⟩ rfl ?_
  refine ZW.iload_n dX8_hex_5 rfl ?_
  obtain ⟨g0, hg0⟩ : ∃ z, z = zSet g 100 0 0 := ⟨_, rfl⟩
  rw [← hg0] at s0 ⊢
  have e0 : g0 101 = g 101 := s0.2.2
  refine ZW.callS (as := [_]) dX8_hex_6 cs_X8_124 rfl (by decide) (Nat.le_of_ble_eq_true rfl) rfl (c_X8_isHex _ hx) (fun r1 g1 ⟨q1, q2⟩ => ?_)
  subst q1; subst q2
  refine ZW.if_ne (tgt := 14) dX8_hex_9 (by decide) (by first | omega | exact zB_R _) (fun c9 => ?_) (fun c9 => ?_)
  · have e := zB_ne c9
    have hxr := isHexB_t e
    have hgf := hB.1 (126 + x) (by omega) (by omega)
    have zone : (w = 4 ∨ w = 5) → ZW 4 mX8_hex 118 [some (.inr 100), some (.inl x), some (.inl w)] [] g1 (fun r g' => r = hexV (g 101) x w ∧ rSame g g') := by
      intro hw2
      have hV : hexV (g 101) x w = zB (zoneB (g 101) x (w - 4)) := by
        unfold hexV; rw [e, if_pos rfl, if_neg (by omega), if_neg (by omega), if_neg (by omega), if_neg (by omega), if_pos hw2]
      rw [hV]
      refine ZW.aload_n dX8_hex_118 rfl ?_
      refine ZW.iload_n dX8_hex_119 rfl ?_
      refine ZW.iload_n dX8_hex_120 rfl ?_
      refine ZW.iconst dX8_hex_121 ?_
      refine ZW.isub dX8_hex_122 ?_
      refine ZW.callV (as := [_, _]) dX8_hex_123 cv_X8_70 ⟨_, rfl⟩ rfl (by decide) (Nat.le_of_ble_eq_true rfl) rfl (c_X8_isInZone _ (e0 ▸ hB) hxr (by omega)) (fun r1 g2 ⟨q1, q2⟩ => ?_)
      subst q1; subst q2
      rw [e0]
      refine ZW.if_eq (tgt := 133) dX8_hex_126 (by decide) (by first | omega | exact zB_R _) (fun c126 => ?_) (fun c126 => ?_)
      · have e2 := zB_eq c126
        refine ZW.iconst dX8_hex_133 ?_
        refine ZW.ireti dX8_hex_134 rfl ?_
        exact ⟨by rw [e2]; rfl, s0⟩
      · have e2 := zB_ne c126
        refine ZW.iconst dX8_hex_129 ?_
        refine ZW.goto (tgt := 134) dX8_hex_130 (by decide) ?_
        refine ZW.ireti dX8_hex_134 rfl ?_
        exact ⟨by rw [e2]; rfl, s0⟩
    have sees : (w = 6 ∨ w = 7) → ZW 4 mX8_hex 135 [some (.inr 100), some (.inl x), some (.inl w)] [] g1 (fun r g' => r = hexV (g 101) x w ∧ rSame g g') := by
      intro hw2
      have hV : hexV (g 101) x w = zB (seesF (g 101) (w - 6) x) := by
        unfold hexV; rw [e, if_pos rfl, if_neg (by omega), if_neg (by omega), if_neg (by omega), if_neg (by omega), if_neg (by omega), if_pos hw2]
      rw [hV]
      refine ZW.aload_n dX8_hex_135 rfl ?_
      refine ZW.iload_n dX8_hex_136 rfl ?_
      refine ZW.bipush dX8_hex_137 rfl ?_
      refine ZW.isub dX8_hex_139 ?_
      refine ZW.iload_n dX8_hex_140 rfl ?_
      refine ZW.callV (as := [_, _]) dX8_hex_141 cv_X8_203 ⟨_, rfl⟩ rfl (by decide) (Nat.le_of_ble_eq_true rfl) rfl (c_X8_sees _ (e0 ▸ hB) (e0 ▸ hU) (by omega) hxr) (fun r1 g2 ⟨q1, f2⟩ => ?_)
      subst q1
      rw [e0]
      have s2 := s0.tr (rSame.fr f2 (by decide))
      refine ZW.if_eq (tgt := 151) dX8_hex_144 (by decide) (by first | omega | exact zB_R _) (fun c144 => ?_) (fun c144 => ?_)
      · have e2 := zB_eq c144
        refine ZW.iconst dX8_hex_151 ?_
        refine ZW.ireti dX8_hex_152 rfl ?_
        exact ⟨by rw [e2]; rfl, s2⟩
      · have e2 := zB_ne c144
        refine ZW.iconst dX8_hex_147 ?_
        refine ZW.goto (tgt := 152) dX8_hex_148 (by decide) ?_
        refine ZW.ireti dX8_hex_152 rfl ?_
        exact ⟨by rw [e2]; rfl, s2⟩
    refine ZW.iload_n dX8_hex_14 rfl ?_
    by_cases hw8 : w < 0 ∨ 8 < w
    · refine ZW.tableOut (tgt := 159) dX8_hex_15 (by omega) (by omega) (by decide) ?_
      refine ZW.bipush dX8_hex_159 rfl ?_
      refine ZW.ireti dX8_hex_161 rfl ?_
      refine ⟨?_, s0⟩
      unfold hexV; rw [e, if_pos rfl, if_neg (by omega), if_neg (by omega), if_neg (by omega), if_neg (by omega), if_neg (by omega), if_neg (by omega), if_neg (by omega)]
    · rcases (show w = 0 ∨ w = 1 ∨ w = 2 ∨ w = 3 ∨ w = 4 ∨ w = 5 ∨ w = 6 ∨ w = 7 ∨ w = 8 by omega) with rfl | rfl | rfl | rfl | rfl | rfl | rfl | rfl | rfl
      · refine ZW.tableIn (off := 49) (tgt := 64) dX8_hex_15 (by omega) (by omega) rfl (by decide) ?_
        refine ZW.aload_n dX8_hex_64 rfl ?_
        refine ZW.getR dX8_hex_65 fl_X8_7 ⟨_, rfl, rfl⟩ ?_
        refine ZW.iconst dX8_hex_68 ?_
        refine ZW.iload_n dX8_hex_69 rfl ?_
        refine ZW.iadd dX8_hex_70 (ZW.top (Int.zero_add x) ?_)
        refine ZW.iald dX8_hex_71 rfl (by decide) (by omega) rfl ?_
        refine ZW.ireti dX8_hex_72 rfl ?_
        exact ⟨by rw [e0]; unfold hexV; rw [e]; rfl, s0⟩
      · refine ZW.tableIn (off := 58) (tgt := 73) dX8_hex_15 (by omega) (by omega) rfl (by decide) ?_
        refine ZW.aload_n dX8_hex_73 rfl ?_
        refine ZW.getR dX8_hex_74 fl_X8_7 ⟨_, rfl, rfl⟩ ?_
        refine ZW.bipush dX8_hex_77 rfl ?_
        refine ZW.iload_n dX8_hex_79 rfl ?_
        refine ZW.iadd dX8_hex_80 ?_
        refine ZW.iald dX8_hex_81 rfl (by decide) (by omega) rfl ?_
        refine ZW.ireti dX8_hex_82 rfl ?_
        exact ⟨by rw [e0]; unfold hexV; rw [e]; rfl, s0⟩
      · refine ZW.tableIn (off := 68) (tgt := 83) dX8_hex_15 (by omega) (by omega) rfl (by decide) ?_
        have hV : hexV (g 101) x 2 = (if g 101 (126 + x) = 0 then -5 else g 101 (126 + x) - 1) := by unfold hexV; rw [e]; rfl
        rw [hV]
        refine ZW.aload_n dX8_hex_83 rfl ?_
        refine ZW.getR dX8_hex_84 fl_X8_7 ⟨_, rfl, rfl⟩ ?_
        refine ZW.bipush dX8_hex_87 rfl ?_
        refine ZW.iload_n dX8_hex_89 rfl ?_
        refine ZW.iadd dX8_hex_90 ?_
        refine ZW.iald dX8_hex_91 rfl (by decide) (by omega) rfl ?_
        rw [e0]
        refine ZW.if_ne (tgt := 100) dX8_hex_92 (by decide) (by first | omega | exact zB_R _) (fun c92 => ?_) (fun c92 => ?_)
        · refine ZW.aload_n dX8_hex_100 rfl ?_
          refine ZW.getR dX8_hex_101 fl_X8_7 ⟨_, rfl, rfl⟩ ?_
          refine ZW.bipush dX8_hex_104 rfl ?_
          refine ZW.iload_n dX8_hex_106 rfl ?_
          refine ZW.iadd dX8_hex_107 ?_
          refine ZW.iald dX8_hex_108 rfl (by decide) (by omega) rfl ?_
          refine ZW.iconst dX8_hex_109 ?_
          refine ZW.isub dX8_hex_110 ?_
          refine ZW.ireti dX8_hex_111 rfl ?_
          exact ⟨by rw [e0, if_neg c92], s0⟩
        · refine ZW.bipush dX8_hex_95 rfl ?_
          refine ZW.goto (tgt := 111) dX8_hex_97 (by decide) ?_
          refine ZW.ireti dX8_hex_111 rfl ?_
          exact ⟨by rw [if_pos c92], s0⟩
      · refine ZW.tableIn (off := 97) (tgt := 112) dX8_hex_15 (by omega) (by omega) rfl (by decide) ?_
        refine ZW.aload_n dX8_hex_112 rfl ?_
        refine ZW.iload_n dX8_hex_113 rfl ?_
        refine ZW.callV (as := [_]) dX8_hex_114 cv_X8_62 ⟨_, rfl⟩ rfl (by decide) (Nat.le_of_ble_eq_true rfl) rfl (c_X8_unitOn _ (e0 ▸ hB) hx) (fun r1 g2 ⟨q1, q2⟩ => ?_)
        subst q1; subst q2
        refine ZW.ireti dX8_hex_117 rfl ?_
        exact ⟨by rw [e0]; unfold hexV; rw [e]; rfl, s0⟩
      · refine ZW.tableIn (off := 103) (tgt := 118) dX8_hex_15 (by omega) (by omega) rfl (by decide) ?_
        exact zone (Or.inl rfl)
      · refine ZW.tableIn (off := 103) (tgt := 118) dX8_hex_15 (by omega) (by omega) rfl (by decide) ?_
        exact zone (Or.inr rfl)
      · refine ZW.tableIn (off := 120) (tgt := 135) dX8_hex_15 (by omega) (by omega) rfl (by decide) ?_
        exact sees (Or.inl rfl)
      · refine ZW.tableIn (off := 120) (tgt := 135) dX8_hex_15 (by omega) (by omega) rfl (by decide) ?_
        exact sees (Or.inr rfl)
      · refine ZW.tableIn (off := 138) (tgt := 153) dX8_hex_15 (by omega) (by omega) rfl (by decide) ?_
        refine ZW.aload_n dX8_hex_153 rfl ?_
        refine ZW.iload_n dX8_hex_154 rfl ?_
        refine ZW.callV (as := [_]) dX8_hex_155 cv_X8_206 ⟨_, rfl⟩ rfl (by decide) (Nat.le_of_ble_eq_true rfl) rfl (c_X8_besides _ hxr) (fun r1 g2 ⟨q1, q2⟩ => ?_)
        subst q1; subst q2
        refine ZW.ireti dX8_hex_158 rfl ?_
        exact ⟨by unfold hexV; rw [e]; rfl, s0⟩
  · have e := zB_eq c9
    refine ZW.iconst dX8_hex_12 ?_
    refine ZW.ireti dX8_hex_13 rfl ?_
    exact ⟨by unfold hexV; rw [e]; rfl, s0⟩
def bsdV (x d : Int) : Int := if isHexB x then (if inB d 0 5 then nextF x d else -2) else -1
theorem c_X8_beside (g : ZH) {x d : Int} (hx : zR x) (hd : zR d) : ZC 2 mX8_beside [.inr 100, .inl x, .inl d] g (fun r g' => r = bsdV x d ∧ rSame g g') := by
  refine ZC.of (by decide +kernel) (Nat.le_of_ble_eq_true rfl) ?_
  have s0 := rSame.t0 g
  refine ZW.aload_n dX8_beside_0 rfl ?_
  refine ZW.iconst dX8_beside_1 ?_
  refine ZW.puti (fz := 0) dX8_beside_2 fp_X8_44 ⟨_, rfl, rfl⟩ rfl ?_
  refine ZW.iload_n dX8_beside_5 rfl ?_
  refine ZW.callS (as := [_]) dX8_beside_6 cs_X8_124 rfl (by decide) (Nat.le_of_ble_eq_true rfl) rfl (c_X8_isHex _ hx) (fun r1 g1 ⟨q1, q2⟩ => ?_)
  subst q1
  rw [← q2] at s0
  refine ZW.if_ne (tgt := 14) dX8_beside_9 (by decide) (by first | omega | exact zB_R _) (fun c9 => ?_) (fun c9 => ?_)
  · have e := zB_ne c9
    refine ZW.iload_n dX8_beside_14 rfl ?_
    refine ZW.iconst dX8_beside_15 ?_
    refine ZW.iconst dX8_beside_16 ?_
    refine ZW.callS (as := [_, _, _]) dX8_beside_17 cs_X8_48 rfl (by decide) (Nat.le_of_ble_eq_true rfl) rfl (c_X8_in _ hd (by decide) (by decide)) (fun r1 g2 ⟨q1, q3⟩ => ?_)
    subst q1; subst q3
    refine ZW.if_eq (tgt := 31) dX8_beside_20 (by decide) (by first | omega | exact zB_R _) (fun c20 => ?_) (fun c20 => ?_)
    · have e2 := zB_eq c20
      refine ZW.bipush dX8_beside_31 rfl ?_
      refine ZW.ireti dX8_beside_33 rfl ?_
      exact ⟨by unfold bsdV; rw [e, e2]; rfl, s0⟩
    · have e2 := zB_ne c20
      have hdr := of_decide_eq_true e2
      refine ZW.iload_n dX8_beside_23 rfl ?_
      refine ZW.iload_n dX8_beside_24 rfl ?_
      refine ZW.callS (as := [_, _]) dX8_beside_25 cs_X8_59 rfl (by decide) (Nat.le_of_ble_eq_true rfl) rfl (c_X8_next _ (isHexB_t e) (by omega)) (fun r1 g3 ⟨q1, q3⟩ => ?_)
      subst q1; subst q3
      refine ZW.goto (tgt := 33) dX8_beside_28 (by decide) ?_
      refine ZW.ireti dX8_beside_33 rfl ?_
      exact ⟨by unfold bsdV; rw [e, e2]; rfl, s0⟩
  · have e := zB_eq c9
    refine ZW.iconst dX8_beside_12 ?_
    refine ZW.ireti dX8_beside_13 rfl ?_
    exact ⟨by unfold bsdV; rw [e]; rfl, s0⟩
def dstV (a b : Int) : Int := if isHexB a && isHexB b then stepsF a b else -1
theorem c_X8_distance (g : ZH) {a b : Int} (ha : zR a) (hb : zR b) : ZC 3 mX8_distance [.inr 100, .inl a, .inl b] g (fun r g' => r = dstV a b ∧ rSame g g') := by
  refine ZC.of (by decide +kernel) (Nat.le_of_ble_eq_true rfl) ?_
  have s0 := rSame.t0 g
  refine ZW.aload_n dX8_distance_0 rfl ?_
  refine ZW.iconst dX8_distance_1 ?_
  refine ZW.puti (fz := 0) dX8_distance_2 fp_X8_44 ⟨_, rfl, rfl⟩ rfl ?_
  refine ZW.iload_n dX8_distance_5 rfl ?_
  refine ZW.callS (as := [_]) dX8_distance_6 cs_X8_124 rfl (by decide) (Nat.le_of_ble_eq_true rfl) rfl (c_X8_isHex _ ha) (fun r1 g1 ⟨q1, q2⟩ => ?_)
  subst q1
  rw [← q2] at s0
  refine ZW.if_eq (tgt := 19) dX8_distance_9 (by decide) (by first | omega | exact zB_R _) (fun c9 => ?_) (fun c9 => ?_)
  · have e := zB_eq c9
    refine ZW.iconst dX8_distance_19 ?_
    refine ZW.ireti dX8_distance_20 rfl ?_
    exact ⟨by unfold dstV; rw [e]; rfl, s0⟩
  · have e := zB_ne c9
    refine ZW.iload_n dX8_distance_12 rfl ?_
    refine ZW.callS (as := [_]) dX8_distance_13 cs_X8_124 rfl (by decide) (Nat.le_of_ble_eq_true rfl) rfl (c_X8_isHex _ hb) (fun r1 g2 ⟨q1, q3⟩ => ?_)
    subst q1; subst q3
    refine ZW.if_ne (tgt := 21) dX8_distance_16 (by decide) (by first | omega | exact zB_R _) (fun c16 => ?_) (fun c16 => ?_)
    · have e2 := zB_ne c16
      have hbr := isHexB_t e2
      refine ZW.aload_n dX8_distance_21 rfl ?_
      refine ZW.iload_n dX8_distance_22 rfl ?_
      refine ZW.callVv (as := [_]) dX8_distance_23 cv_X8_101 ⟨_, rfl⟩ rfl (by decide) (Nat.le_of_ble_eq_true rfl) rfl (fun _ _ hz _ => hz) (c_X8_laysDistances _ (isHexB_t e)) (fun g3 ⟨f3, d3⟩ => ?_)
      refine ZW.aload_n dX8_distance_26 rfl ?_
      refine ZW.getR dX8_distance_27 fl_X8_32 ⟨_, rfl, rfl⟩ ?_
      refine ZW.iload_n dX8_distance_30 rfl ?_
      refine ZW.iald dX8_distance_31 rfl (by decide) (by omega) rfl ?_
      refine ZW.ireti dX8_distance_32 rfl ?_
      exact ⟨by rw [d3 b hbr.1 hbr.2]; unfold dstV; rw [e, e2]; rfl, s0.tr (rSame.fr f3 (by decide))⟩
    · have e2 := zB_eq c16
      refine ZW.iconst dX8_distance_19 ?_
      refine ZW.ireti dX8_distance_20 rfl ?_
      exact ⟨by unfold dstV; rw [e, e2]; rfl, s0⟩
