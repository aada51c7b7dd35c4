-- the constructors
def stW (ca : Nat → ClassId) (b h : Nat) (q : Nat → Nat) (fr un : Nat → Int32) : va_W := [(h, .inr (4, [.ref b, .ref (q 1), .ref (q 2), .ref (q 3), .ref (q 4), .ref (q 5), .int 0, .ref (q 6), .ref (q 7), .ref (q 8), .ref (q 9), .ref (q 10), .ref (q 11), .int 0])), (q 1, .inl (ca 0, 63, .inl (fun _ => 0))), (q 2, .inl (ca 0, 63, .inl (fun _ => 0))), (q 3, .inl (ca 0, 63, .inl fr)), (q 4, .inl (ca 0, 63, .inl un)), (q 5, .inl (ca 0, 2, .inl (upd (upd (fun _ => 0) 0 27) 1 35))), (q 6, .inl (ca 0, 16, .inl (fun _ => 0))), (q 7, .inl (ca 0, 16, .inl (fun _ => 0))), (q 8, .inl (ca 0, 16, .inl (fun _ => 0))), (q 9, .inl (ca 0, 16, .inl (fun _ => 0))), (q 10, .inl (ca 0, 16, .inl (fun _ => 0))), (q 11, .inl (ca 0, 16, .inl (fun _ => 0)))]
def kSt (ca : Nat → ClassId) (b h : Nat) (u : va_W) : Prop := ∃ (q : Nat → Nat) (fr un : Nat → Int32), (∀ i, i < 63 → fr i = -1) ∧ (∀ i, i < 63 → un i = -1) ∧ u = stW ca b h q fr un
theorem k_X4_init {D : va_G} {ca : Nat → ClassId} {tb : Nat → Nat} (h0 b : Nat) : KC D ca tb 1 11 350 mX4_init [.inr h0, .inr b] [(h0, .inr (4, [.null, .null, .null, .null, .null, .null, .int 0, .null, .null, .null, .null, .null, .null, .int 0]))] (kQv D ca (kSt ca b h0)) := by
  refine KC.of (by decide +kernel) (Nat.le_of_ble_eq_true rfl) ?_
  refine KW.aload_n dX4_init_0 rfl ?_
  refine KW.objInit dX4_init_1 (mmW_1 51 rfl rfl) (mmW_1 20 rfl rfl) (mmW_1 21 rfl rfl) (by decide) (Nat.le_of_ble_eq_true rfl) ?_
  refine KW.aload_n dX4_init_4 rfl ?_
  refine KW.bipush (v := 63) dX4_init_5 rfl ?_
  refine KW.newarray (ti := 0) (N := 63) dX4_init_7 rfl (mmW_1 45 rfl rfl) rfl (fun _ _ h => h) rfl (by decide) (by decide) (Nat.le_of_ble_eq_true rfl) (Nat.le_of_ble_eq_true rfl) (Nat.le_of_ble_eq_true rfl) (fun q1 => ?_)
  refine KW.putF (q0 := 0) (ws' := [(h0, .inr (4, [.null, .ref q1, .null, .null, .null, .null, .int 0, .null, .null, .null, .null, .null, .null, .int 0])), (q1, .inl (ca 0, 63, .inl (fun _ => 0)))]) dX4_init_9 ff_X4_9 rfl rfl (by simp) rfl ?_
  refine KW.aload_n dX4_init_12 rfl ?_
  refine KW.bipush (v := 63) dX4_init_13 rfl ?_
  refine KW.newarray (ti := 0) (N := 63) dX4_init_15 rfl (mmW_1 45 rfl rfl) rfl (fun _ _ h => h) rfl (by decide) (by decide) (Nat.le_of_ble_eq_true rfl) (Nat.le_of_ble_eq_true rfl) (Nat.le_of_ble_eq_true rfl) (fun q2 => ?_)
  refine KW.putF (q0 := 0) (ws' := [(h0, .inr (4, [.null, .ref q1, .ref q2, .null, .null, .null, .int 0, .null, .null, .null, .null, .null, .null, .int 0])), (q1, .inl (ca 0, 63, .inl (fun _ => 0))), (q2, .inl (ca 0, 63, .inl (fun _ => 0)))]) dX4_init_17 ff_X4_15 rfl rfl (by simp) rfl ?_
  refine KW.aload_n dX4_init_20 rfl ?_
  refine KW.bipush (v := 63) dX4_init_21 rfl ?_
  refine KW.newarray (ti := 0) (N := 63) dX4_init_23 rfl (mmW_1 45 rfl rfl) rfl (fun _ _ h => h) rfl (by decide) (by decide) (Nat.le_of_ble_eq_true rfl) (Nat.le_of_ble_eq_true rfl) (Nat.le_of_ble_eq_true rfl) (fun q3 => ?_)
  refine KW.putF (q0 := 0) (ws' := [(h0, .inr (4, [.null, .ref q1, .ref q2, .ref q3, .null, .null, .int 0, .null, .null, .null, .null, .null, .null, .int 0])), (q1, .inl (ca 0, 63, .inl (fun _ => 0))), (q2, .inl (ca 0, 63, .inl (fun _ => 0))), (q3, .inl (ca 0, 63, .inl (fun _ => 0)))]) dX4_init_25 ff_X4_18 rfl rfl (by simp) rfl ?_
  refine KW.aload_n dX4_init_28 rfl ?_
  refine KW.bipush (v := 63) dX4_init_29 rfl ?_
  refine KW.newarray (ti := 0) (N := 63) dX4_init_31 rfl (mmW_1 45 rfl rfl) rfl (fun _ _ h => h) rfl (by decide) (by decide) (Nat.le_of_ble_eq_true rfl) (Nat.le_of_ble_eq_true rfl) (Nat.le_of_ble_eq_true rfl) (fun q4 => ?_)
  refine KW.putF (q0 := 0) (ws' := [(h0, .inr (4, [.null, .ref q1, .ref q2, .ref q3, .ref q4, .null, .int 0, .null, .null, .null, .null, .null, .null, .int 0])), (q1, .inl (ca 0, 63, .inl (fun _ => 0))), (q2, .inl (ca 0, 63, .inl (fun _ => 0))), (q3, .inl (ca 0, 63, .inl (fun _ => 0))), (q4, .inl (ca 0, 63, .inl (fun _ => 0)))]) dX4_init_33 ff_X4_21 rfl rfl (by simp) rfl ?_
  refine KW.aload_n dX4_init_36 rfl ?_
  refine KW.iconst (v := 2) dX4_init_37 rfl ?_
  refine KW.newarray (ti := 0) (N := 2) dX4_init_38 rfl (mmW_1 45 rfl rfl) rfl (fun _ _ h => h) rfl (by decide) (by decide) (Nat.le_of_ble_eq_true rfl) (Nat.le_of_ble_eq_true rfl) (Nat.le_of_ble_eq_true rfl) (fun q5 => ?_)
  refine KW.dup dX4_init_40 ?_
  refine KW.iconst (v := 0) dX4_init_41 rfl ?_
  refine KW.bipush (v := 27) dX4_init_42 rfl ?_
  refine KW.iast (q0 := 5) (ws' := [(h0, .inr (4, [.null, .ref q1, .ref q2, .ref q3, .ref q4, .null, .int 0, .null, .null, .null, .null, .null, .null, .int 0])), (q1, .inl (ca 0, 63, .inl (fun _ => 0))), (q2, .inl (ca 0, 63, .inl (fun _ => 0))), (q3, .inl (ca 0, 63, .inl (fun _ => 0))), (q4, .inl (ca 0, 63, .inl (fun _ => 0))), (q5, .inl (ca 0, 2, .inl (upd (fun _ => 0) 0 27)))]) dX4_init_44 rfl (by rw [vp_in_iff]; decide) rfl ?_
  refine KW.dup dX4_init_45 ?_
  refine KW.iconst (v := 1) dX4_init_46 rfl ?_
  refine KW.bipush (v := 35) dX4_init_47 rfl ?_
  refine KW.iast (q0 := 5) (ws' := [(h0, .inr (4, [.null, .ref q1, .ref q2, .ref q3, .ref q4, .null, .int 0, .null, .null, .null, .null, .null, .null, .int 0])), (q1, .inl (ca 0, 63, .inl (fun _ => 0))), (q2, .inl (ca 0, 63, .inl (fun _ => 0))), (q3, .inl (ca 0, 63, .inl (fun _ => 0))), (q4, .inl (ca 0, 63, .inl (fun _ => 0))), (q5, .inl (ca 0, 2, .inl (upd (upd (fun _ => 0) 0 27) 1 35)))]) dX4_init_49 rfl (by rw [vp_in_iff]; decide) rfl ?_
  refine KW.putF (q0 := 0) (ws' := [(h0, .inr (4, [.null, .ref q1, .ref q2, .ref q3, .ref q4, .ref q5, .int 0, .null, .null, .null, .null, .null, .null, .int 0])), (q1, .inl (ca 0, 63, .inl (fun _ => 0))), (q2, .inl (ca 0, 63, .inl (fun _ => 0))), (q3, .inl (ca 0, 63, .inl (fun _ => 0))), (q4, .inl (ca 0, 63, .inl (fun _ => 0))), (q5, .inl (ca 0, 2, .inl (upd (upd (fun _ => 0) 0 27) 1 35)))]) dX4_init_50 ff_X4_24 rfl rfl (by simp) rfl ?_
  refine KW.aload_n dX4_init_53 rfl ?_
  refine KW.bipush (v := 16) dX4_init_54 rfl ?_
  refine KW.newarray (ti := 0) (N := 16) dX4_init_56 rfl (mmW_1 45 rfl rfl) rfl (fun _ _ h => h) rfl (by decide) (by decide) (Nat.le_of_ble_eq_true rfl) (Nat.le_of_ble_eq_true rfl) (Nat.le_of_ble_eq_true rfl) (fun q6 => ?_)
  refine KW.putF (q0 := 0) (ws' := [(h0, .inr (4, [.null, .ref q1, .ref q2, .ref q3, .ref q4, .ref q5, .int 0, .ref q6, .null, .null, .null, .null, .null, .int 0])), (q1, .inl (ca 0, 63, .inl (fun _ => 0))), (q2, .inl (ca 0, 63, .inl (fun _ => 0))), (q3, .inl (ca 0, 63, .inl (fun _ => 0))), (q4, .inl (ca 0, 63, .inl (fun _ => 0))), (q5, .inl (ca 0, 2, .inl (upd (upd (fun _ => 0) 0 27) 1 35))), (q6, .inl (ca 0, 16, .inl (fun _ => 0)))]) dX4_init_58 ff_X4_27 rfl rfl (by simp) rfl ?_
  refine KW.aload_n dX4_init_61 rfl ?_
  refine KW.bipush (v := 16) dX4_init_62 rfl ?_
  refine KW.newarray (ti := 0) (N := 16) dX4_init_64 rfl (mmW_1 45 rfl rfl) rfl (fun _ _ h => h) rfl (by decide) (by decide) (Nat.le_of_ble_eq_true rfl) (Nat.le_of_ble_eq_true rfl) (Nat.le_of_ble_eq_true rfl) (fun q7 => ?_)
  refine KW.putF (q0 := 0) (ws' := [(h0, .inr (4, [.null, .ref q1, .ref q2, .ref q3, .ref q4, .ref q5, .int 0, .ref q6, .ref q7, .null, .null, .null, .null, .int 0])), (q1, .inl (ca 0, 63, .inl (fun _ => 0))), (q2, .inl (ca 0, 63, .inl (fun _ => 0))), (q3, .inl (ca 0, 63, .inl (fun _ => 0))), (q4, .inl (ca 0, 63, .inl (fun _ => 0))), (q5, .inl (ca 0, 2, .inl (upd (upd (fun _ => 0) 0 27) 1 35))), (q6, .inl (ca 0, 16, .inl (fun _ => 0))), (q7, .inl (ca 0, 16, .inl (fun _ => 0)))]) dX4_init_66 ff_X4_30 rfl rfl (by simp) rfl ?_
  refine KW.aload_n dX4_init_69 rfl ?_
  refine KW.bipush (v := 16) dX4_init_70 rfl ?_
  refine KW.newarray (ti := 0) (N := 16) dX4_init_72 rfl (mmW_1 45 rfl rfl) rfl (fun _ _ h => h) rfl (by decide) (by decide) (Nat.le_of_ble_eq_true rfl) (Nat.le_of_ble_eq_true rfl) (Nat.le_of_ble_eq_true rfl) (fun q8 => ?_)
  refine KW.putF (q0 := 0) (ws' := [(h0, .inr (4, [.null, .ref q1, .ref q2, .ref q3, .ref q4, .ref q5, .int 0, .ref q6, .ref q7, .ref q8, .null, .null, .null, .int 0])), (q1, .inl (ca 0, 63, .inl (fun _ => 0))), (q2, .inl (ca 0, 63, .inl (fun _ => 0))), (q3, .inl (ca 0, 63, .inl (fun _ => 0))), (q4, .inl (ca 0, 63, .inl (fun _ => 0))), (q5, .inl (ca 0, 2, .inl (upd (upd (fun _ => 0) 0 27) 1 35))), (q6, .inl (ca 0, 16, .inl (fun _ => 0))), (q7, .inl (ca 0, 16, .inl (fun _ => 0))), (q8, .inl (ca 0, 16, .inl (fun _ => 0)))]) dX4_init_74 ff_X4_33 rfl rfl (by simp) rfl ?_
  refine KW.aload_n dX4_init_77 rfl ?_
  refine KW.bipush (v := 16) dX4_init_78 rfl ?_
  refine KW.newarray (ti := 0) (N := 16) dX4_init_80 rfl (mmW_1 45 rfl rfl) rfl (fun _ _ h => h) rfl (by decide) (by decide) (Nat.le_of_ble_eq_true rfl) (Nat.le_of_ble_eq_true rfl) (Nat.le_of_ble_eq_true rfl) (fun q9 => ?_)
  refine KW.putF (q0 := 0) (ws' := [(h0, .inr (4, [.null, .ref q1, .ref q2, .ref q3, .ref q4, .ref q5, .int 0, .ref q6, .ref q7, .ref q8, .ref q9, .null, .null, .int 0])), (q1, .inl (ca 0, 63, .inl (fun _ => 0))), (q2, .inl (ca 0, 63, .inl (fun _ => 0))), (q3, .inl (ca 0, 63, .inl (fun _ => 0))), (q4, .inl (ca 0, 63, .inl (fun _ => 0))), (q5, .inl (ca 0, 2, .inl (upd (upd (fun _ => 0) 0 27) 1 35))), (q6, .inl (ca 0, 16, .inl (fun _ => 0))), (q7, .inl (ca 0, 16, .inl (fun _ => 0))), (q8, .inl (ca 0, 16, .inl (fun _ => 0))), (q9, .inl (ca 0, 16, .inl (fun _ => 0)))]) dX4_init_82 ff_X4_36 rfl rfl (by simp) rfl ?_
  refine KW.aload_n dX4_init_85 rfl ?_
  refine KW.bipush (v := 16) dX4_init_86 rfl ?_
  refine KW.newarray (ti := 0) (N := 16) dX4_init_88 rfl (mmW_1 45 rfl rfl) rfl (fun _ _ h => h) rfl (by decide) (by decide) (Nat.le_of_ble_eq_true rfl) (Nat.le_of_ble_eq_true rfl) (Nat.le_of_ble_eq_true rfl) (fun q10 => ?_)
  refine KW.putF (q0 := 0) (ws' := [(h0, .inr (4, [.null, .ref q1, .ref q2, .ref q3, .ref q4, .ref q5, .int 0, .ref q6, .ref q7, .ref q8, .ref q9, .ref q10, .null, .int 0])), (q1, .inl (ca 0, 63, .inl (fun _ => 0))), (q2, .inl (ca 0, 63, .inl (fun _ => 0))), (q3, .inl (ca 0, 63, .inl (fun _ => 0))), (q4, .inl (ca 0, 63, .inl (fun _ => 0))), (q5, .inl (ca 0, 2, .inl (upd (upd (fun _ => 0) 0 27) 1 35))), (q6, .inl (ca 0, 16, .inl (fun _ => 0))), (q7, .inl (ca 0, 16, .inl (fun _ => 0))), (q8, .inl (ca 0, 16, .inl (fun _ => 0))), (q9, .inl (ca 0, 16, .inl (fun _ => 0))), (q10, .inl (ca 0, 16, .inl (fun _ => 0)))]) dX4_init_90 ff_X4_39 rfl rfl (by simp) rfl ?_
  refine KW.aload_n dX4_init_93 rfl ?_
  refine KW.bipush (v := 16) dX4_init_94 rfl ?_
  refine KW.newarray (ti := 0) (N := 16) dX4_init_96 rfl (mmW_1 45 rfl rfl) rfl (fun _ _ h => h) rfl (by decide) (by decide) (Nat.le_of_ble_eq_true rfl) (Nat.le_of_ble_eq_true rfl) (Nat.le_of_ble_eq_true rfl) (fun q11 => ?_)
  refine KW.putF (q0 := 0) (ws' := [(h0, .inr (4, [.null, .ref q1, .ref q2, .ref q3, .ref q4, .ref q5, .int 0, .ref q6, .ref q7, .ref q8, .ref q9, .ref q10, .ref q11, .int 0])), (q1, .inl (ca 0, 63, .inl (fun _ => 0))), (q2, .inl (ca 0, 63, .inl (fun _ => 0))), (q3, .inl (ca 0, 63, .inl (fun _ => 0))), (q4, .inl (ca 0, 63, .inl (fun _ => 0))), (q5, .inl (ca 0, 2, .inl (upd (upd (fun _ => 0) 0 27) 1 35))), (q6, .inl (ca 0, 16, .inl (fun _ => 0))), (q7, .inl (ca 0, 16, .inl (fun _ => 0))), (q8, .inl (ca 0, 16, .inl (fun _ => 0))), (q9, .inl (ca 0, 16, .inl (fun _ => 0))), (q10, .inl (ca 0, 16, .inl (fun _ => 0))), (q11, .inl (ca 0, 16, .inl (fun _ => 0)))]) dX4_init_98 ff_X4_42 rfl rfl (by simp) rfl ?_
  refine KW.aload_n dX4_init_101 rfl ?_
  refine KW.aload_n dX4_init_102 rfl ?_
  refine KW.putF (q0 := 0) (ws' := [(h0, .inr (4, [.ref b, .ref q1, .ref q2, .ref q3, .ref q4, .ref q5, .int 0, .ref q6, .ref q7, .ref q8, .ref q9, .ref q10, .ref q11, .int 0])), (q1, .inl (ca 0, 63, .inl (fun _ => 0))), (q2, .inl (ca 0, 63, .inl (fun _ => 0))), (q3, .inl (ca 0, 63, .inl (fun _ => 0))), (q4, .inl (ca 0, 63, .inl (fun _ => 0))), (q5, .inl (ca 0, 2, .inl (upd (upd (fun _ => 0) 0 27) 1 35))), (q6, .inl (ca 0, 16, .inl (fun _ => 0))), (q7, .inl (ca 0, 16, .inl (fun _ => 0))), (q8, .inl (ca 0, 16, .inl (fun _ => 0))), (q9, .inl (ca 0, 16, .inl (fun _ => 0))), (q10, .inl (ca 0, 16, .inl (fun _ => 0))), (q11, .inl (ca 0, 16, .inl (fun _ => 0)))]) dX4_init_103 ff_X4_45 rfl rfl (by simp) rfl ?_
  refine KW.aload_n dX4_init_106 rfl ?_
  refine KW.getR (q0 := 0) dX4_init_107 fl_X4_18 rfl rfl ?_
  refine KW.iconst (v := -1) dX4_init_110 rfl ?_
  refine KW.callSf (as := [_, _]) 3 [0, 1, 2, 4, 5, 6, 7, 8, 9, 10, 11] [(h0, .inr (4, [.ref b, .ref q1, .ref q2, .ref q3, .ref q4, .ref q5, .int 0, .ref q6, .ref q7, .ref q8, .ref q9, .ref q10, .ref q11, .int 0])), (q1, .inl (ca 0, 63, .inl (fun _ => 0))), (q2, .inl (ca 0, 63, .inl (fun _ => 0))), (q4, .inl (ca 0, 63, .inl (fun _ => 0))), (q5, .inl (ca 0, 2, .inl (upd (upd (fun _ => 0) 0 27) 1 35))), (q6, .inl (ca 0, 16, .inl (fun _ => 0))), (q7, .inl (ca 0, 16, .inl (fun _ => 0))), (q8, .inl (ca 0, 16, .inl (fun _ => 0))), (q9, .inl (ca 0, 16, .inl (fun _ => 0))), (q10, .inl (ca 0, 16, .inl (fun _ => 0))), (q11, .inl (ca 0, 16, .inl (fun _ => 0)))] rfl rfl rfl (by decide) dX4_init_111 cs_X4_49 rfl (by decide) (Nat.le_of_ble_eq_true rfl) rfl (k_fill q3 63 (-1) _ (by decide)) ⟨(Nat.le_of_ble_eq_true rfl), (Nat.le_of_ble_eq_true rfl)⟩ (fun w0 hw => ?_)
  obtain ⟨fr, rfl, hfr⟩ := hw
  refine KW.aload_n dX4_init_114 rfl ?_
  refine KW.getR (q0 := 0) dX4_init_115 fl_X4_21 rfl rfl ?_
  refine KW.iconst (v := -1) dX4_init_118 rfl ?_
  refine KW.callSf (as := [_, _]) 3 [0, 1, 2, 4, 5, 6, 7, 8, 9, 10, 11] [(h0, .inr (4, [.ref b, .ref q1, .ref q2, .ref q3, .ref q4, .ref q5, .int 0, .ref q6, .ref q7, .ref q8, .ref q9, .ref q10, .ref q11, .int 0])), (q1, .inl (ca 0, 63, .inl (fun _ => 0))), (q2, .inl (ca 0, 63, .inl (fun _ => 0))), (q5, .inl (ca 0, 2, .inl (upd (upd (fun _ => 0) 0 27) 1 35))), (q6, .inl (ca 0, 16, .inl (fun _ => 0))), (q7, .inl (ca 0, 16, .inl (fun _ => 0))), (q8, .inl (ca 0, 16, .inl (fun _ => 0))), (q9, .inl (ca 0, 16, .inl (fun _ => 0))), (q10, .inl (ca 0, 16, .inl (fun _ => 0))), (q11, .inl (ca 0, 16, .inl (fun _ => 0))), (q3, .inl (ca 0, 63, .inl fr))] rfl rfl rfl (by decide) dX4_init_119 cs_X4_49 rfl (by decide) (Nat.le_of_ble_eq_true rfl) rfl (k_fill q4 63 (-1) _ (by decide)) ⟨(Nat.le_of_ble_eq_true rfl), (Nat.le_of_ble_eq_true rfl)⟩ (fun w1 hw => ?_)
  obtain ⟨un, rfl, hun⟩ := hw
  refine KW.perm (ws' := stW ca b h0 (fun j => ([h0, q1, q2, q3, q4, q5, q6, q7, q8, q9, q10, q11] : List Nat).getD j 0) fr un) [0, 1, 2, 10, 11, 3, 4, 5, 6, 7, 8, 9] rfl rfl ?_
  exact KW.vret dX4_init_122 rfl ⟨rfl, rfl⟩ ⟨(fun j => ([h0, q1, q2, q3, q4, q5, q6, q7, q8, q9, q10, q11] : List Nat).getD j 0), fr, un, hfr, hun, rfl⟩
def kOr (ca : Nat → ClassId) (h0 : Nat) (u : va_W) : Prop := ∃ (q1 q2 q3 q4 : Nat), u = [(h0, .inr (3, [.ref q1, .int 0, .int 0, .ref q2, .ref q3, .ref q4, .int 0, .int 0, .int 0])), (q1, .inl (ca 1, 60, .inl (fun _ => 0))), (q2, .inl (ca 1, 30, .inl (fun _ => 0))), (q3, .inl (ca 0, 30, .inl (fun _ => 0))), (q4, .inl (ca 0, 30, .inl (fun _ => 0)))]
theorem k_X3_init {D : va_G} {ca : Nat → ClassId} {tb : Nat → Nat} (h0 : Nat) : KC D ca tb 1 4 150 mX3_init [.inr h0] [(h0, .inr (3, [.null, .int 0, .int 0, .null, .null, .null, .int 0, .int 0, .int 0]))] (kQv D ca (kOr ca h0)) := by
  refine KC.of (by decide +kernel) (Nat.le_of_ble_eq_true rfl) ?_
  refine KW.aload_n dX3_init_0 rfl ?_
  refine KW.objInit dX3_init_1 (mmW_1 146 rfl rfl) (mmW_1 20 rfl rfl) (mmW_1 21 rfl rfl) (by decide) (Nat.le_of_ble_eq_true rfl) ?_
  refine KW.aload_n dX3_init_4 rfl ?_
  refine KW.bipush (v := 60) dX3_init_5 rfl ?_
  refine KW.newarray (ti := 1) (N := 60) dX3_init_7 rfl (mmW_1 180 rfl rfl) rfl (fun _ _ h => h) rfl (by decide) (by decide) (Nat.le_of_ble_eq_true rfl) (Nat.le_of_ble_eq_true rfl) (Nat.le_of_ble_eq_true rfl) (fun q1 => ?_)
  refine KW.putF (q0 := 0) (ws' := [(h0, .inr (3, [.ref q1, .int 0, .int 0, .null, .null, .null, .int 0, .int 0, .int 0])), (q1, .inl (ca 1, 60, .inl (fun _ => 0)))]) dX3_init_9 ff_X3_9 rfl rfl (by simp) rfl ?_
  refine KW.aload_n dX3_init_12 rfl ?_
  refine KW.bipush (v := 30) dX3_init_13 rfl ?_
  refine KW.newarray (ti := 1) (N := 30) dX3_init_15 rfl (mmW_1 180 rfl rfl) rfl (fun _ _ h => h) rfl (by decide) (by decide) (Nat.le_of_ble_eq_true rfl) (Nat.le_of_ble_eq_true rfl) (Nat.le_of_ble_eq_true rfl) (fun q2 => ?_)
  refine KW.putF (q0 := 0) (ws' := [(h0, .inr (3, [.ref q1, .int 0, .int 0, .ref q2, .null, .null, .int 0, .int 0, .int 0])), (q1, .inl (ca 1, 60, .inl (fun _ => 0))), (q2, .inl (ca 1, 30, .inl (fun _ => 0)))]) dX3_init_17 ff_X3_13 rfl rfl (by simp) rfl ?_
  refine KW.aload_n dX3_init_20 rfl ?_
  refine KW.bipush (v := 30) dX3_init_21 rfl ?_
  refine KW.newarray (ti := 0) (N := 30) dX3_init_23 rfl (mmW_1 45 rfl rfl) rfl (fun _ _ h => h) rfl (by decide) (by decide) (Nat.le_of_ble_eq_true rfl) (Nat.le_of_ble_eq_true rfl) (Nat.le_of_ble_eq_true rfl) (fun q3 => ?_)
  refine KW.putF (q0 := 0) (ws' := [(h0, .inr (3, [.ref q1, .int 0, .int 0, .ref q2, .ref q3, .null, .int 0, .int 0, .int 0])), (q1, .inl (ca 1, 60, .inl (fun _ => 0))), (q2, .inl (ca 1, 30, .inl (fun _ => 0))), (q3, .inl (ca 0, 30, .inl (fun _ => 0)))]) dX3_init_25 ff_X3_16 rfl rfl (by simp) rfl ?_
  refine KW.aload_n dX3_init_28 rfl ?_
  refine KW.bipush (v := 30) dX3_init_29 rfl ?_
  refine KW.newarray (ti := 0) (N := 30) dX3_init_31 rfl (mmW_1 45 rfl rfl) rfl (fun _ _ h => h) rfl (by decide) (by decide) (Nat.le_of_ble_eq_true rfl) (Nat.le_of_ble_eq_true rfl) (Nat.le_of_ble_eq_true rfl) (fun q4 => ?_)
  refine KW.putF (q0 := 0) (ws' := [(h0, .inr (3, [.ref q1, .int 0, .int 0, .ref q2, .ref q3, .ref q4, .int 0, .int 0, .int 0])), (q1, .inl (ca 1, 60, .inl (fun _ => 0))), (q2, .inl (ca 1, 30, .inl (fun _ => 0))), (q3, .inl (ca 0, 30, .inl (fun _ => 0))), (q4, .inl (ca 0, 30, .inl (fun _ => 0)))]) dX3_init_33 ff_X3_20 rfl rfl (by simp) rfl ?_
  exact KW.vret dX3_init_36 rfl ⟨rfl, rfl⟩ ⟨q1, q2, q3, q4, rfl⟩
def kWa (ca : Nat → ClassId) (b h0 : Nat) (u : va_W) : Prop := ∃ (q1 : Nat), u = [(h0, .inr (6, [.ref b, .ref q1])), (q1, .inl (ca 0, 63, .inl (fun _ => 0)))]
theorem k_X6_init {D : va_G} {ca : Nat → ClassId} {tb : Nat → Nat} (h0 b : Nat) : KC D ca tb 1 1 63 mX6_init [.inr h0, .inr b] [(h0, .inr (6, [.null, .null]))] (kQv D ca (kWa ca b h0)) := by
  refine KC.of (by decide +kernel) (Nat.le_of_ble_eq_true rfl) ?_
  refine KW.aload_n dX6_init_0 rfl ?_
  refine KW.objInit dX6_init_1 (mmW_1 186 rfl rfl) (mmW_1 20 rfl rfl) (mmW_1 21 rfl rfl) (by decide) (Nat.le_of_ble_eq_true rfl) ?_
  refine KW.aload_n dX6_init_4 rfl ?_
  refine KW.bipush (v := 63) dX6_init_5 rfl ?_
  refine KW.newarray (ti := 0) (N := 63) dX6_init_7 rfl (mmW_1 45 rfl rfl) rfl (fun _ _ h => h) rfl (by decide) (by decide) (Nat.le_of_ble_eq_true rfl) (Nat.le_of_ble_eq_true rfl) (Nat.le_of_ble_eq_true rfl) (fun q1 => ?_)
  refine KW.putF (q0 := 0) (ws' := [(h0, .inr (6, [.null, .ref q1])), (q1, .inl (ca 0, 63, .inl (fun _ => 0)))]) dX6_init_9 ff_X6_9 rfl rfl (by simp) rfl ?_
  refine KW.aload_n dX6_init_12 rfl ?_
  refine KW.aload_n dX6_init_13 rfl ?_
  refine KW.putF (q0 := 0) (ws' := [(h0, .inr (6, [.ref b, .ref q1])), (q1, .inl (ca 0, 63, .inl (fun _ => 0)))]) dX6_init_14 ff_X6_15 rfl rfl (by simp) rfl ?_
  exact KW.vret dX6_init_17 rfl ⟨rfl, rfl⟩ ⟨q1, rfl⟩
def kSu (ca : Nat → ClassId) (b h0 : Nat) (u : va_W) : Prop := ∃ (q1 q2 : Nat), u = [(h0, .inr (5, [.ref b, .ref q1, .ref q2])), (q1, .inl (ca 0, 63, .inl (fun _ => 0))), (q2, .inl (ca 2, 63, .inl (fun _ => 0)))]
theorem k_X5_init {D : va_G} {ca : Nat → ClassId} {tb : Nat → Nat} (h0 b : Nat) : KC D ca tb 1 2 126 mX5_init [.inr h0, .inr b] [(h0, .inr (5, [.null, .null, .null]))] (kQv D ca (kSu ca b h0)) := by
  refine KC.of (by decide +kernel) (Nat.le_of_ble_eq_true rfl) ?_
  refine KW.aload_n dX5_init_0 rfl ?_
  refine KW.objInit dX5_init_1 (mmW_1 200 rfl rfl) (mmW_1 20 rfl rfl) (mmW_1 21 rfl rfl) (by decide) (Nat.le_of_ble_eq_true rfl) ?_
  refine KW.aload_n dX5_init_4 rfl ?_
  refine KW.bipush (v := 63) dX5_init_5 rfl ?_
  refine KW.newarray (ti := 0) (N := 63) dX5_init_7 rfl (mmW_1 45 rfl rfl) rfl (fun _ _ h => h) rfl (by decide) (by decide) (Nat.le_of_ble_eq_true rfl) (Nat.le_of_ble_eq_true rfl) (Nat.le_of_ble_eq_true rfl) (fun q1 => ?_)
  refine KW.putF (q0 := 0) (ws' := [(h0, .inr (5, [.null, .ref q1, .null])), (q1, .inl (ca 0, 63, .inl (fun _ => 0)))]) dX5_init_9 ff_X5_9 rfl rfl (by simp) rfl ?_
  refine KW.aload_n dX5_init_12 rfl ?_
  refine KW.bipush (v := 63) dX5_init_13 rfl ?_
  refine KW.newarray (ti := 2) (N := 63) dX5_init_15 rfl (mmW_1 212 rfl rfl) rfl (fun _ _ h => h) rfl (by decide) (by decide) (Nat.le_of_ble_eq_true rfl) (Nat.le_of_ble_eq_true rfl) (Nat.le_of_ble_eq_true rfl) (fun q2 => ?_)
  refine KW.putF (q0 := 0) (ws' := [(h0, .inr (5, [.null, .ref q1, .ref q2])), (q1, .inl (ca 0, 63, .inl (fun _ => 0))), (q2, .inl (ca 2, 63, .inl (fun _ => 0)))]) dX5_init_17 ff_X5_15 rfl rfl (by simp) rfl ?_
  refine KW.aload_n dX5_init_20 rfl ?_
  refine KW.aload_n dX5_init_21 rfl ?_
  refine KW.putF (q0 := 0) (ws' := [(h0, .inr (5, [.ref b, .ref q1, .ref q2])), (q1, .inl (ca 0, 63, .inl (fun _ => 0))), (q2, .inl (ca 2, 63, .inl (fun _ => 0)))]) dX5_init_22 ff_X5_19 rfl rfl (by simp) rfl ?_
  exact KW.vret dX5_init_25 rfl ⟨rfl, rfl⟩ ⟨q1, q2, rfl⟩
def kFi (ca : Nat → ClassId) (b s h0 : Nat) (u : va_W) : Prop := u = [(h0, .inr (1, [.ref b, .ref s, .int 0, .int 0, .int 0, .int 0]))]
theorem k_X1_init {D : va_G} {ca : Nat → ClassId} {tb : Nat → Nat} (h0 b s : Nat) : KC D ca tb 1 0 0 mX1_init [.inr h0, .inr b, .inr s] [(h0, .inr (1, [.null, .null, .int 0, .int 0, .int 0, .int 0]))] (kQv D ca (kFi ca b s h0)) := by
  refine KC.of (by decide +kernel) (Nat.le_of_ble_eq_true rfl) ?_
  refine KW.aload_n dX1_init_0 rfl ?_
  refine KW.objInit dX1_init_1 (mmW_1 218 rfl rfl) (mmW_1 20 rfl rfl) (mmW_1 21 rfl rfl) (by decide) (Nat.le_of_ble_eq_true rfl) ?_
  refine KW.aload_n dX1_init_4 rfl ?_
  refine KW.aload_n dX1_init_5 rfl ?_
  refine KW.putF (q0 := 0) (ws' := [(h0, .inr (1, [.ref b, .null, .int 0, .int 0, .int 0, .int 0]))]) dX1_init_6 ff_X1_7 rfl rfl (by simp) rfl ?_
  refine KW.aload_n dX1_init_9 rfl ?_
  refine KW.aload_n dX1_init_10 rfl ?_
  refine KW.putF (q0 := 0) (ws' := [(h0, .inr (1, [.ref b, .ref s, .int 0, .int 0, .int 0, .int 0]))]) dX1_init_11 ff_X1_13 rfl rfl (by simp) rfl ?_
  exact KW.vret dX1_init_14 rfl ⟨rfl, rfl⟩ rfl
def kMo (ca : Nat → ClassId) (h0 : Nat) (u : va_W) : Prop := ∃ (q1 q2 q3 q4 q5 q6 q7 q8 q9 q10 q11 : Nat), u = [(h0, .inr (8, [.int 0, .ref q1, .ref q2, .ref q3, .int 0, .ref q4, .int 0, .ref q5, .int 0, .ref q6, .ref q7, .ref q8, .ref q9, .ref q10, .int 0, .int 0, .ref q11, .int 0])), (q1, .inl (ca 0, 289, .inl (upd (upd (fun _ => 0) 189 27) 190 35))), (q2, .inl (ca 0, 289, .inl (fun _ => 0))), (q3, .inl (ca 0, 1156, .inl (fun _ => 0))), (q4, .inl (ca 0, 289, .inl (fun _ => 0))), (q5, .inl (ca 0, 60, .inl (fun _ => 0))), (q6, .inl (ca 0, 63, .inl (fun _ => 0))), (q7, .inl (ca 2, 63, .inl (fun _ => 0))), (q8, .inl (ca 0, 63, .inl (fun _ => 0))), (q9, .inl (ca 2, 63, .inl (fun _ => 0))), (q10, .inl (ca 2, 16, .inl (fun _ => 0))), (q11, .inl (ca 0, 96, .inl (fun _ => 0)))]
theorem k_X8_init {D : va_G} {ca : Nat → ClassId} {tb : Nat → Nat} (h0 : Nat) : KC D ca tb 1 11 2447 mX8_init [.inr h0] [(h0, .inr (8, [.int 0, .null, .null, .null, .int 0, .null, .int 0, .null, .int 0, .null, .null, .null, .null, .null, .int 0, .int 0, .null, .int 0]))] (kQv D ca (kMo ca h0)) := by
  refine KC.of (by decide +kernel) (Nat.le_of_ble_eq_true rfl) ?_
  refine KW.aload_n dX8_init_0 rfl ?_
  refine KW.objInit dX8_init_1 (mmW_3 165 rfl rfl) (mmW_1 20 rfl rfl) (mmW_1 21 rfl rfl) (by decide) (Nat.le_of_ble_eq_true rfl) ?_
  refine KW.aload_n dX8_init_4 rfl ?_
  refine KW.sipush (v := 289) dX8_init_5 rfl ?_
  refine KW.newarray (ti := 0) (N := 289) dX8_init_8 rfl (mmW_1 45 rfl rfl) rfl (fun _ _ h => h) rfl (by decide) (by decide) (Nat.le_of_ble_eq_true rfl) (Nat.le_of_ble_eq_true rfl) (Nat.le_of_ble_eq_true rfl) (fun q1 => ?_)
  refine KW.putF (q0 := 0) (ws' := [(h0, .inr (8, [.int 0, .ref q1, .null, .null, .int 0, .null, .int 0, .null, .int 0, .null, .null, .null, .null, .null, .int 0, .int 0, .null, .int 0])), (q1, .inl (ca 0, 289, .inl (fun _ => 0)))]) dX8_init_10 ff_X8_7 rfl rfl (by simp) rfl ?_
  refine KW.aload_n dX8_init_13 rfl ?_
  refine KW.sipush (v := 289) dX8_init_14 rfl ?_
  refine KW.newarray (ti := 0) (N := 289) dX8_init_17 rfl (mmW_1 45 rfl rfl) rfl (fun _ _ h => h) rfl (by decide) (by decide) (Nat.le_of_ble_eq_true rfl) (Nat.le_of_ble_eq_true rfl) (Nat.le_of_ble_eq_true rfl) (fun q2 => ?_)
  refine KW.putF (q0 := 0) (ws' := [(h0, .inr (8, [.int 0, .ref q1, .ref q2, .null, .int 0, .null, .int 0, .null, .int 0, .null, .null, .null, .null, .null, .int 0, .int 0, .null, .int 0])), (q1, .inl (ca 0, 289, .inl (fun _ => 0))), (q2, .inl (ca 0, 289, .inl (fun _ => 0)))]) dX8_init_19 ff_X8_13 rfl rfl (by simp) rfl ?_
  refine KW.aload_n dX8_init_22 rfl ?_
  refine KW.sipush (v := 1156) dX8_init_23 rfl ?_
  refine KW.newarray (ti := 0) (N := 1156) dX8_init_26 rfl (mmW_1 45 rfl rfl) rfl (fun _ _ h => h) rfl (by decide) (by decide) (Nat.le_of_ble_eq_true rfl) (Nat.le_of_ble_eq_true rfl) (Nat.le_of_ble_eq_true rfl) (fun q3 => ?_)
  refine KW.putF (q0 := 0) (ws' := [(h0, .inr (8, [.int 0, .ref q1, .ref q2, .ref q3, .int 0, .null, .int 0, .null, .int 0, .null, .null, .null, .null, .null, .int 0, .int 0, .null, .int 0])), (q1, .inl (ca 0, 289, .inl (fun _ => 0))), (q2, .inl (ca 0, 289, .inl (fun _ => 0))), (q3, .inl (ca 0, 1156, .inl (fun _ => 0)))]) dX8_init_28 ff_X8_16 rfl rfl (by simp) rfl ?_
  refine KW.aload_n dX8_init_31 rfl ?_
  refine KW.sipush (v := 289) dX8_init_32 rfl ?_
  refine KW.newarray (ti := 0) (N := 289) dX8_init_35 rfl (mmW_1 45 rfl rfl) rfl (fun _ _ h => h) rfl (by decide) (by decide) (Nat.le_of_ble_eq_true rfl) (Nat.le_of_ble_eq_true rfl) (Nat.le_of_ble_eq_true rfl) (fun q4 => ?_)
  refine KW.putF (q0 := 0) (ws' := [(h0, .inr (8, [.int 0, .ref q1, .ref q2, .ref q3, .int 0, .ref q4, .int 0, .null, .int 0, .null, .null, .null, .null, .null, .int 0, .int 0, .null, .int 0])), (q1, .inl (ca 0, 289, .inl (fun _ => 0))), (q2, .inl (ca 0, 289, .inl (fun _ => 0))), (q3, .inl (ca 0, 1156, .inl (fun _ => 0))), (q4, .inl (ca 0, 289, .inl (fun _ => 0)))]) dX8_init_37 ff_X8_19 rfl rfl (by simp) rfl ?_
  refine KW.aload_n dX8_init_40 rfl ?_
  refine KW.bipush (v := 60) dX8_init_41 rfl ?_
  refine KW.newarray (ti := 0) (N := 60) dX8_init_43 rfl (mmW_1 45 rfl rfl) rfl (fun _ _ h => h) rfl (by decide) (by decide) (Nat.le_of_ble_eq_true rfl) (Nat.le_of_ble_eq_true rfl) (Nat.le_of_ble_eq_true rfl) (fun q5 => ?_)
  refine KW.putF (q0 := 0) (ws' := [(h0, .inr (8, [.int 0, .ref q1, .ref q2, .ref q3, .int 0, .ref q4, .int 0, .ref q5, .int 0, .null, .null, .null, .null, .null, .int 0, .int 0, .null, .int 0])), (q1, .inl (ca 0, 289, .inl (fun _ => 0))), (q2, .inl (ca 0, 289, .inl (fun _ => 0))), (q3, .inl (ca 0, 1156, .inl (fun _ => 0))), (q4, .inl (ca 0, 289, .inl (fun _ => 0))), (q5, .inl (ca 0, 60, .inl (fun _ => 0)))]) dX8_init_45 ff_X8_22 rfl rfl (by simp) rfl ?_
  refine KW.aload_n dX8_init_48 rfl ?_
  refine KW.bipush (v := 63) dX8_init_49 rfl ?_
  refine KW.newarray (ti := 0) (N := 63) dX8_init_51 rfl (mmW_1 45 rfl rfl) rfl (fun _ _ h => h) rfl (by decide) (by decide) (Nat.le_of_ble_eq_true rfl) (Nat.le_of_ble_eq_true rfl) (Nat.le_of_ble_eq_true rfl) (fun q6 => ?_)
  refine KW.putF (q0 := 0) (ws' := [(h0, .inr (8, [.int 0, .ref q1, .ref q2, .ref q3, .int 0, .ref q4, .int 0, .ref q5, .int 0, .ref q6, .null, .null, .null, .null, .int 0, .int 0, .null, .int 0])), (q1, .inl (ca 0, 289, .inl (fun _ => 0))), (q2, .inl (ca 0, 289, .inl (fun _ => 0))), (q3, .inl (ca 0, 1156, .inl (fun _ => 0))), (q4, .inl (ca 0, 289, .inl (fun _ => 0))), (q5, .inl (ca 0, 60, .inl (fun _ => 0))), (q6, .inl (ca 0, 63, .inl (fun _ => 0)))]) dX8_init_53 ff_X8_25 rfl rfl (by simp) rfl ?_
  refine KW.aload_n dX8_init_56 rfl ?_
  refine KW.bipush (v := 63) dX8_init_57 rfl ?_
  refine KW.newarray (ti := 2) (N := 63) dX8_init_59 rfl (mmW_1 212 rfl rfl) rfl (fun _ _ h => h) rfl (by decide) (by decide) (Nat.le_of_ble_eq_true rfl) (Nat.le_of_ble_eq_true rfl) (Nat.le_of_ble_eq_true rfl) (fun q7 => ?_)
  refine KW.putF (q0 := 0) (ws' := [(h0, .inr (8, [.int 0, .ref q1, .ref q2, .ref q3, .int 0, .ref q4, .int 0, .ref q5, .int 0, .ref q6, .ref q7, .null, .null, .null, .int 0, .int 0, .null, .int 0])), (q1, .inl (ca 0, 289, .inl (fun _ => 0))), (q2, .inl (ca 0, 289, .inl (fun _ => 0))), (q3, .inl (ca 0, 1156, .inl (fun _ => 0))), (q4, .inl (ca 0, 289, .inl (fun _ => 0))), (q5, .inl (ca 0, 60, .inl (fun _ => 0))), (q6, .inl (ca 0, 63, .inl (fun _ => 0))), (q7, .inl (ca 2, 63, .inl (fun _ => 0)))]) dX8_init_61 ff_X8_28 rfl rfl (by simp) rfl ?_
  refine KW.aload_n dX8_init_64 rfl ?_
  refine KW.bipush (v := 63) dX8_init_65 rfl ?_
  refine KW.newarray (ti := 0) (N := 63) dX8_init_67 rfl (mmW_1 45 rfl rfl) rfl (fun _ _ h => h) rfl (by decide) (by decide) (Nat.le_of_ble_eq_true rfl) (Nat.le_of_ble_eq_true rfl) (Nat.le_of_ble_eq_true rfl) (fun q8 => ?_)
  refine KW.putF (q0 := 0) (ws' := [(h0, .inr (8, [.int 0, .ref q1, .ref q2, .ref q3, .int 0, .ref q4, .int 0, .ref q5, .int 0, .ref q6, .ref q7, .ref q8, .null, .null, .int 0, .int 0, .null, .int 0])), (q1, .inl (ca 0, 289, .inl (fun _ => 0))), (q2, .inl (ca 0, 289, .inl (fun _ => 0))), (q3, .inl (ca 0, 1156, .inl (fun _ => 0))), (q4, .inl (ca 0, 289, .inl (fun _ => 0))), (q5, .inl (ca 0, 60, .inl (fun _ => 0))), (q6, .inl (ca 0, 63, .inl (fun _ => 0))), (q7, .inl (ca 2, 63, .inl (fun _ => 0))), (q8, .inl (ca 0, 63, .inl (fun _ => 0)))]) dX8_init_69 ff_X8_32 rfl rfl (by simp) rfl ?_
  refine KW.aload_n dX8_init_72 rfl ?_
  refine KW.bipush (v := 63) dX8_init_73 rfl ?_
  refine KW.newarray (ti := 2) (N := 63) dX8_init_75 rfl (mmW_1 212 rfl rfl) rfl (fun _ _ h => h) rfl (by decide) (by decide) (Nat.le_of_ble_eq_true rfl) (Nat.le_of_ble_eq_true rfl) (Nat.le_of_ble_eq_true rfl) (fun q9 => ?_)
  refine KW.putF (q0 := 0) (ws' := [(h0, .inr (8, [.int 0, .ref q1, .ref q2, .ref q3, .int 0, .ref q4, .int 0, .ref q5, .int 0, .ref q6, .ref q7, .ref q8, .ref q9, .null, .int 0, .int 0, .null, .int 0])), (q1, .inl (ca 0, 289, .inl (fun _ => 0))), (q2, .inl (ca 0, 289, .inl (fun _ => 0))), (q3, .inl (ca 0, 1156, .inl (fun _ => 0))), (q4, .inl (ca 0, 289, .inl (fun _ => 0))), (q5, .inl (ca 0, 60, .inl (fun _ => 0))), (q6, .inl (ca 0, 63, .inl (fun _ => 0))), (q7, .inl (ca 2, 63, .inl (fun _ => 0))), (q8, .inl (ca 0, 63, .inl (fun _ => 0))), (q9, .inl (ca 2, 63, .inl (fun _ => 0)))]) dX8_init_77 ff_X8_35 rfl rfl (by simp) rfl ?_
  refine KW.aload_n dX8_init_80 rfl ?_
  refine KW.bipush (v := 16) dX8_init_81 rfl ?_
  refine KW.newarray (ti := 2) (N := 16) dX8_init_83 rfl (mmW_1 212 rfl rfl) rfl (fun _ _ h => h) rfl (by decide) (by decide) (Nat.le_of_ble_eq_true rfl) (Nat.le_of_ble_eq_true rfl) (Nat.le_of_ble_eq_true rfl) (fun q10 => ?_)
  refine KW.putF (q0 := 0) (ws' := [(h0, .inr (8, [.int 0, .ref q1, .ref q2, .ref q3, .int 0, .ref q4, .int 0, .ref q5, .int 0, .ref q6, .ref q7, .ref q8, .ref q9, .ref q10, .int 0, .int 0, .null, .int 0])), (q1, .inl (ca 0, 289, .inl (fun _ => 0))), (q2, .inl (ca 0, 289, .inl (fun _ => 0))), (q3, .inl (ca 0, 1156, .inl (fun _ => 0))), (q4, .inl (ca 0, 289, .inl (fun _ => 0))), (q5, .inl (ca 0, 60, .inl (fun _ => 0))), (q6, .inl (ca 0, 63, .inl (fun _ => 0))), (q7, .inl (ca 2, 63, .inl (fun _ => 0))), (q8, .inl (ca 0, 63, .inl (fun _ => 0))), (q9, .inl (ca 2, 63, .inl (fun _ => 0))), (q10, .inl (ca 2, 16, .inl (fun _ => 0)))]) dX8_init_85 ff_X8_38 rfl rfl (by simp) rfl ?_
  refine KW.aload_n dX8_init_88 rfl ?_
  refine KW.bipush (v := 96) dX8_init_89 rfl ?_
  refine KW.newarray (ti := 0) (N := 96) dX8_init_91 rfl (mmW_1 45 rfl rfl) rfl (fun _ _ h => h) rfl (by decide) (by decide) (Nat.le_of_ble_eq_true rfl) (Nat.le_of_ble_eq_true rfl) (Nat.le_of_ble_eq_true rfl) (fun q11 => ?_)
  refine KW.putF (q0 := 0) (ws' := [(h0, .inr (8, [.int 0, .ref q1, .ref q2, .ref q3, .int 0, .ref q4, .int 0, .ref q5, .int 0, .ref q6, .ref q7, .ref q8, .ref q9, .ref q10, .int 0, .int 0, .ref q11, .int 0])), (q1, .inl (ca 0, 289, .inl (fun _ => 0))), (q2, .inl (ca 0, 289, .inl (fun _ => 0))), (q3, .inl (ca 0, 1156, .inl (fun _ => 0))), (q4, .inl (ca 0, 289, .inl (fun _ => 0))), (q5, .inl (ca 0, 60, .inl (fun _ => 0))), (q6, .inl (ca 0, 63, .inl (fun _ => 0))), (q7, .inl (ca 2, 63, .inl (fun _ => 0))), (q8, .inl (ca 0, 63, .inl (fun _ => 0))), (q9, .inl (ca 2, 63, .inl (fun _ => 0))), (q10, .inl (ca 2, 16, .inl (fun _ => 0))), (q11, .inl (ca 0, 96, .inl (fun _ => 0)))]) dX8_init_93 ff_X8_41 rfl rfl (by simp) rfl ?_
  refine KW.aload_n dX8_init_96 rfl ?_
  refine KW.iconst (v := 0) dX8_init_97 rfl ?_
  refine KW.puti (q0 := 0) (ws' := [(h0, .inr (8, [.int 0, .ref q1, .ref q2, .ref q3, .int 0, .ref q4, .int 0, .ref q5, .int 0, .ref q6, .ref q7, .ref q8, .ref q9, .ref q10, .int 0, .int 0, .ref q11, .int 0])), (q1, .inl (ca 0, 289, .inl (fun _ => 0))), (q2, .inl (ca 0, 289, .inl (fun _ => 0))), (q3, .inl (ca 0, 1156, .inl (fun _ => 0))), (q4, .inl (ca 0, 289, .inl (fun _ => 0))), (q5, .inl (ca 0, 60, .inl (fun _ => 0))), (q6, .inl (ca 0, 63, .inl (fun _ => 0))), (q7, .inl (ca 2, 63, .inl (fun _ => 0))), (q8, .inl (ca 0, 63, .inl (fun _ => 0))), (q9, .inl (ca 2, 63, .inl (fun _ => 0))), (q10, .inl (ca 2, 16, .inl (fun _ => 0))), (q11, .inl (ca 0, 96, .inl (fun _ => 0)))]) dX8_init_98 fp_X8_44 rfl rfl rfl (by simp) rfl ?_
  refine KW.aload_n dX8_init_101 rfl ?_
  refine KW.getR (q0 := 0) dX8_init_102 fl_X8_7 rfl rfl ?_
  refine KW.sipush (v := 189) dX8_init_105 rfl ?_
  refine KW.bipush (v := 27) dX8_init_108 rfl ?_
  refine KW.iast (q0 := 1) (ws' := [(h0, .inr (8, [.int 0, .ref q1, .ref q2, .ref q3, .int 0, .ref q4, .int 0, .ref q5, .int 0, .ref q6, .ref q7, .ref q8, .ref q9, .ref q10, .int 0, .int 0, .ref q11, .int 0])), (q1, .inl (ca 0, 289, .inl (upd (fun _ => 0) 189 27))), (q2, .inl (ca 0, 289, .inl (fun _ => 0))), (q3, .inl (ca 0, 1156, .inl (fun _ => 0))), (q4, .inl (ca 0, 289, .inl (fun _ => 0))), (q5, .inl (ca 0, 60, .inl (fun _ => 0))), (q6, .inl (ca 0, 63, .inl (fun _ => 0))), (q7, .inl (ca 2, 63, .inl (fun _ => 0))), (q8, .inl (ca 0, 63, .inl (fun _ => 0))), (q9, .inl (ca 2, 63, .inl (fun _ => 0))), (q10, .inl (ca 2, 16, .inl (fun _ => 0))), (q11, .inl (ca 0, 96, .inl (fun _ => 0)))]) dX8_init_110 rfl (by rw [vp_in_iff]; decide) rfl ?_
  refine KW.aload_n dX8_init_111 rfl ?_
  refine KW.getR (q0 := 0) dX8_init_112 fl_X8_7 rfl rfl ?_
  refine KW.sipush (v := 190) dX8_init_115 rfl ?_
  refine KW.bipush (v := 35) dX8_init_118 rfl ?_
  refine KW.iast (q0 := 1) (ws' := [(h0, .inr (8, [.int 0, .ref q1, .ref q2, .ref q3, .int 0, .ref q4, .int 0, .ref q5, .int 0, .ref q6, .ref q7, .ref q8, .ref q9, .ref q10, .int 0, .int 0, .ref q11, .int 0])), (q1, .inl (ca 0, 289, .inl (upd (upd (fun _ => 0) 189 27) 190 35))), (q2, .inl (ca 0, 289, .inl (fun _ => 0))), (q3, .inl (ca 0, 1156, .inl (fun _ => 0))), (q4, .inl (ca 0, 289, .inl (fun _ => 0))), (q5, .inl (ca 0, 60, .inl (fun _ => 0))), (q6, .inl (ca 0, 63, .inl (fun _ => 0))), (q7, .inl (ca 2, 63, .inl (fun _ => 0))), (q8, .inl (ca 0, 63, .inl (fun _ => 0))), (q9, .inl (ca 2, 63, .inl (fun _ => 0))), (q10, .inl (ca 2, 16, .inl (fun _ => 0))), (q11, .inl (ca 0, 96, .inl (fun _ => 0)))]) dX8_init_120 rfl (by rw [vp_in_iff]; decide) rfl ?_
  exact KW.vret dX8_init_121 rfl ⟨rfl, rfl⟩ ⟨q1, q2, q3, q4, q5, q6, q7, q8, q9, q10, q11, rfl⟩
def kHi (ca : Nat → ClassId) (b h0 : Nat) (u : va_W) : Prop := ∃ (a : Nat) (fa : Nat → Option Nat) (s0 s1 s2 s3 : Nat) (w0 w1 w2 w3 : va_W), kSt ca b s0 w0 ∧ kSt ca b s1 w1 ∧ kSt ca b s2 w2 ∧ kSt ca b s3 w3 ∧ (∀ i, fa i = ([s0, s1, s2, s3] : List Nat)[i]?) ∧ u = (((w0 ++ w1) ++ w2) ++ w3) ++ [(h0, .inr (2, [.ref a, .int 0, .int 0])), (a, .inl (ca 3, 4, .inr (.inr (.inr (.inr fa)))))]
set_option maxHeartbeats 2000000 in
set_option maxRecDepth 20000 in
theorem k_X2_init {D : va_G} {ca : Nat → ClassId} {tb : Nat → Nat} (h0 b : Nat) : KC D ca tb 2 49 1460 mX2_init [.inr h0, .inr b] [(h0, .inr (2, [.null, .int 0, .int 0]))] (kQv D ca (kHi ca b h0)) := by
  refine KC.of (by decide +kernel) (Nat.le_of_ble_eq_true rfl) ?_
  refine KW.aload_n dX2_init_0 rfl ?_
  refine KW.objInit dX2_init_1 (mmW_1 126 rfl rfl) (mmW_1 20 rfl rfl) (mmW_1 21 rfl rfl) (by decide) (Nat.le_of_ble_eq_true rfl) ?_
  refine KW.aload_n dX2_init_4 rfl ?_
  refine KW.iconst (v := 4) dX2_init_5 rfl ?_
  refine KW.anew (N := 4) dX2_init_6 (mmW_1 127 rfl rfl) (by decide) (by decide) (Nat.le_of_ble_eq_true rfl) (Nat.le_of_ble_eq_true rfl) (Nat.le_of_ble_eq_true rfl) (fun a => ?_)
  refine KW.putF (q0 := 0) (ws' := [(h0, .inr (2, [.ref a, .int 0, .int 0])), (a, .inl (ca 3, 4, .inr (.inr (.inr (.inr (fun _ => none))))))]) dX2_init_9 ff_X2_11 rfl rfl (by simp) rfl ?_
  refine KW.iconst (v := 0) dX2_init_12 rfl ?_
  refine KW.istore_n dX2_init_13 (by decide) rfl ?_
  refine KW.iload_n dX2_init_14 rfl ?_
  refine KW.iconst (v := 4) dX2_init_15 rfl ?_
  refine KW.icmp_ge (tgt := 39) dX2_init_16 (by decide) (fun c => absurd c (by decide)) (fun _ => ?_)
  refine KW.aload_n dX2_init_19 rfl ?_
  refine KW.getR (q0 := 0) (v := a) dX2_init_20 fl_X2_11 rfl rfl ?_
  refine KW.iload_n dX2_init_23 rfl ?_
  refine KW.new dX2_init_24 nw_X2_9 (Nat.le_of_ble_eq_true rfl) (Nat.le_of_ble_eq_true rfl) (fun q1 => ?_)
  refine KW.dup dX2_init_27 ?_
  refine KW.aload_n dX2_init_28 rfl ?_
  refine KW.callI (as := [_]) ([(h0, .inr (2, [.ref a, .int 0, .int 0])), (a, .inl (ca 3, 4, .inr (.inr (.inr (.inr (fun _ => none))))))]) rfl dX2_init_29 ck_X2_15 (by decide) (Nat.le_of_ble_eq_true rfl) rfl (k_X4_init q1 b) ⟨(Nat.le_of_ble_eq_true rfl), (Nat.le_of_ble_eq_true rfl)⟩ (fun w0 hw0 => ?_)
  obtain ⟨p0, fr0, un0, hfr0, hun0, rfl⟩ := hw0
  refine KW.aast (q0 := 1) (qk := 2) (ws' := ([(h0, .inr (2, [.ref a, .int 0, .int 0])), (a, .inl (ca 3, 4, .inr (.inr (.inr (.inr (va_up (fun _ => none) 0 (some q1)))))))]) ++ stW ca b q1 p0 fr0 un0) dX2_init_32 rfl rfl (by rw [vp_in_iff]; decide) rfl ?_
  refine KW.iinc (v := 1) dX2_init_33 rfl (by decide) (by decide) rfl ?_
  refine KW.goto (tgt := 14) dX2_init_36 (by decide) ?_
  refine KW.iload_n dX2_init_14 rfl ?_
  refine KW.iconst (v := 4) dX2_init_15 rfl ?_
  refine KW.icmp_ge (tgt := 39) dX2_init_16 (by decide) (fun c => absurd c (by decide)) (fun _ => ?_)
  refine KW.aload_n dX2_init_19 rfl ?_
  refine KW.getR (q0 := 0) (v := a) dX2_init_20 fl_X2_11 rfl rfl ?_
  refine KW.iload_n dX2_init_23 rfl ?_
  refine KW.new dX2_init_24 nw_X2_9 (Nat.le_of_ble_eq_true rfl) (Nat.le_of_ble_eq_true rfl) (fun q2 => ?_)
  refine KW.dup dX2_init_27 ?_
  refine KW.aload_n dX2_init_28 rfl ?_
  refine KW.callI (as := [_]) (([(h0, .inr (2, [.ref a, .int 0, .int 0])), (a, .inl (ca 3, 4, .inr (.inr (.inr (.inr (va_up (fun _ => none) 0 (some q1)))))))]) ++ stW ca b q1 p0 fr0 un0) rfl dX2_init_29 ck_X2_15 (by decide) (Nat.le_of_ble_eq_true rfl) rfl (k_X4_init q2 b) ⟨(Nat.le_of_ble_eq_true rfl), (Nat.le_of_ble_eq_true rfl)⟩ (fun w1 hw1 => ?_)
  obtain ⟨p1, fr1, un1, hfr1, hun1, rfl⟩ := hw1
  refine KW.aast (q0 := 1) (qk := 14) (ws' := (([(h0, .inr (2, [.ref a, .int 0, .int 0])), (a, .inl (ca 3, 4, .inr (.inr (.inr (.inr (va_up (va_up (fun _ => none) 0 (some q1)) 1 (some q2)))))))]) ++ stW ca b q1 p0 fr0 un0) ++ stW ca b q2 p1 fr1 un1) dX2_init_32 rfl rfl (by rw [vp_in_iff]; decide) rfl ?_
  refine KW.iinc (v := 2) dX2_init_33 rfl (by decide) (by decide) rfl ?_
  refine KW.goto (tgt := 14) dX2_init_36 (by decide) ?_
  refine KW.iload_n dX2_init_14 rfl ?_
  refine KW.iconst (v := 4) dX2_init_15 rfl ?_
  refine KW.icmp_ge (tgt := 39) dX2_init_16 (by decide) (fun c => absurd c (by decide)) (fun _ => ?_)
  refine KW.aload_n dX2_init_19 rfl ?_
  refine KW.getR (q0 := 0) (v := a) dX2_init_20 fl_X2_11 rfl rfl ?_
  refine KW.iload_n dX2_init_23 rfl ?_
  refine KW.new dX2_init_24 nw_X2_9 (Nat.le_of_ble_eq_true rfl) (Nat.le_of_ble_eq_true rfl) (fun q3 => ?_)
  refine KW.dup dX2_init_27 ?_
  refine KW.aload_n dX2_init_28 rfl ?_
  refine KW.callI (as := [_]) ((([(h0, .inr (2, [.ref a, .int 0, .int 0])), (a, .inl (ca 3, 4, .inr (.inr (.inr (.inr (va_up (va_up (fun _ => none) 0 (some q1)) 1 (some q2)))))))]) ++ stW ca b q1 p0 fr0 un0) ++ stW ca b q2 p1 fr1 un1) rfl dX2_init_29 ck_X2_15 (by decide) (Nat.le_of_ble_eq_true rfl) rfl (k_X4_init q3 b) ⟨(Nat.le_of_ble_eq_true rfl), (Nat.le_of_ble_eq_true rfl)⟩ (fun w2 hw2 => ?_)
  obtain ⟨p2, fr2, un2, hfr2, hun2, rfl⟩ := hw2
  refine KW.aast (q0 := 1) (qk := 26) (ws' := ((([(h0, .inr (2, [.ref a, .int 0, .int 0])), (a, .inl (ca 3, 4, .inr (.inr (.inr (.inr (va_up (va_up (va_up (fun _ => none) 0 (some q1)) 1 (some q2)) 2 (some q3)))))))]) ++ stW ca b q1 p0 fr0 un0) ++ stW ca b q2 p1 fr1 un1) ++ stW ca b q3 p2 fr2 un2) dX2_init_32 rfl rfl (by rw [vp_in_iff]; decide) rfl ?_
  refine KW.iinc (v := 3) dX2_init_33 rfl (by decide) (by decide) rfl ?_
  refine KW.goto (tgt := 14) dX2_init_36 (by decide) ?_
  refine KW.iload_n dX2_init_14 rfl ?_
  refine KW.iconst (v := 4) dX2_init_15 rfl ?_
  refine KW.icmp_ge (tgt := 39) dX2_init_16 (by decide) (fun c => absurd c (by decide)) (fun _ => ?_)
  refine KW.aload_n dX2_init_19 rfl ?_
  refine KW.getR (q0 := 0) (v := a) dX2_init_20 fl_X2_11 rfl rfl ?_
  refine KW.iload_n dX2_init_23 rfl ?_
  refine KW.new dX2_init_24 nw_X2_9 (Nat.le_of_ble_eq_true rfl) (Nat.le_of_ble_eq_true rfl) (fun q4 => ?_)
  refine KW.dup dX2_init_27 ?_
  refine KW.aload_n dX2_init_28 rfl ?_
  refine KW.callI (as := [_]) (((([(h0, .inr (2, [.ref a, .int 0, .int 0])), (a, .inl (ca 3, 4, .inr (.inr (.inr (.inr (va_up (va_up (va_up (fun _ => none) 0 (some q1)) 1 (some q2)) 2 (some q3)))))))]) ++ stW ca b q1 p0 fr0 un0) ++ stW ca b q2 p1 fr1 un1) ++ stW ca b q3 p2 fr2 un2) rfl dX2_init_29 ck_X2_15 (by decide) (Nat.le_of_ble_eq_true rfl) rfl (k_X4_init q4 b) ⟨(Nat.le_of_ble_eq_true rfl), (Nat.le_of_ble_eq_true rfl)⟩ (fun w3 hw3 => ?_)
  obtain ⟨p3, fr3, un3, hfr3, hun3, rfl⟩ := hw3
  refine KW.aast (q0 := 1) (qk := 38) (ws' := (((([(h0, .inr (2, [.ref a, .int 0, .int 0])), (a, .inl (ca 3, 4, .inr (.inr (.inr (.inr (va_up (va_up (va_up (va_up (fun _ => none) 0 (some q1)) 1 (some q2)) 2 (some q3)) 3 (some q4)))))))]) ++ stW ca b q1 p0 fr0 un0) ++ stW ca b q2 p1 fr1 un1) ++ stW ca b q3 p2 fr2 un2) ++ stW ca b q4 p3 fr3 un3) dX2_init_32 rfl rfl (by rw [vp_in_iff]; decide) rfl ?_
  refine KW.iinc (v := 4) dX2_init_33 rfl (by decide) (by decide) rfl ?_
  refine KW.goto (tgt := 14) dX2_init_36 (by decide) ?_
  refine KW.iload_n dX2_init_14 rfl ?_
  refine KW.iconst (v := 4) dX2_init_15 rfl ?_
  refine KW.icmp_ge (tgt := 39) dX2_init_16 (by decide) (fun _ => ?_) (fun c => absurd (by decide) c)
  refine KW.perm (ws' := (((stW ca b q1 p0 fr0 un0 ++ stW ca b q2 p1 fr1 un1) ++ stW ca b q3 p2 fr2 un2) ++ stW ca b q4 p3 fr3 un3) ++ [(h0, .inr (2, [.ref a, .int 0, .int 0])), (a, .inl (ca 3, 4, .inr (.inr (.inr (.inr (va_up (va_up (va_up (va_up (fun _ => none) 0 (some q1)) 1 (some q2)) 2 (some q3)) 3 (some q4)))))))]) [2, 3, 4, 5, 6, 7, 8, 9, 10, 11, 12, 13, 14, 15, 16, 17, 18, 19, 20, 21, 22, 23, 24, 25, 26, 27, 28, 29, 30, 31, 32, 33, 34, 35, 36, 37, 38, 39, 40, 41, 42, 43, 44, 45, 46, 47, 48, 49, 0, 1] rfl rfl ?_
  refine KW.vret dX2_init_39 rfl ⟨rfl, rfl⟩ ⟨a, (va_up (va_up (va_up (va_up (fun _ => none) 0 (some q1)) 1 (some q2)) 2 (some q3)) 3 (some q4)), q1, q2, q3, q4, _, _, _, _, ⟨p0, fr0, un0, hfr0, hun0, rfl⟩, ⟨p1, fr1, un1, hfr1, hun1, rfl⟩, ⟨p2, fr2, un2, hfr2, hun2, rfl⟩, ⟨p3, fr3, un3, hfr3, hun3, rfl⟩, fun i => ?_, rfl⟩
  match i with
  | 0 => rfl
  | 1 => rfl
  | 2 => rfl
  | 3 => rfl
  | i + 4 => simp [va_up]
def kCl (ca : Nat → ClassId) (h0 : Nat) (u : va_W) : Prop := ∃ (q1 q2 q3 q4 q5 q6 q7 q8 q9 : Nat) (w0 w1 w2 w3 w4 w5 w6 w7 w8 : va_W), kBd ca q1 w0 ∧ kSt ca q1 q2 w1 ∧ kSt ca q1 q3 w2 ∧ kSt ca q1 q4 w3 ∧ kHi ca q1 q5 w4 ∧ kOr ca q6 w5 ∧ kWa ca q1 q7 w6 ∧ kSu ca q1 q8 w7 ∧ kFi ca q1 q8 q9 w8 ∧ u = ((((((((([(h0, .inr (7, [.ref q1, .ref q2, .ref q3, .ref q4, .int 0, .ref q5, .ref q6, .ref q7, .ref q8, .ref q9]))]) ++ w0) ++ w1) ++ w2) ++ w3) ++ w4) ++ w5) ++ w6) ++ w7) ++ w8
set_option maxHeartbeats 2000000 in
theorem k_X7_init {D : va_G} {ca : Nat → ClassId} {tb : Nat → Nat} (h0 : Nat) : KC D ca tb 3 99 3293 mX7_init [.inr h0] [(h0, .inr (7, [.null, .null, .null, .null, .int 0, .null, .null, .null, .null, .null]))] (kQv D ca (kCl ca h0)) := by
  refine KC.of (by decide +kernel) (Nat.le_of_ble_eq_true rfl) ?_
  refine KW.aload_n dX7_init_0 rfl ?_
  refine KW.objInit dX7_init_1 (mmW_1 19 rfl rfl) (mmW_1 20 rfl rfl) (mmW_1 21 rfl rfl) (by decide) (Nat.le_of_ble_eq_true rfl) ?_
  refine KW.aload_n dX7_init_4 rfl ?_
  refine KW.new dX7_init_5 nw_X7_7 (Nat.le_of_ble_eq_true rfl) (Nat.le_of_ble_eq_true rfl) (fun q1 => ?_)
  refine KW.dup dX7_init_8 ?_
  refine KW.callI (as := []) ([(h0, .inr (7, [.null, .null, .null, .null, .int 0, .null, .null, .null, .null, .null]))]) rfl dX7_init_9 ck_X7_9 (by decide) (Nat.le_of_ble_eq_true rfl) rfl (k_X0_init q1) ⟨(Nat.le_of_ble_eq_true rfl), (Nat.le_of_ble_eq_true rfl)⟩ (fun w0 hw0 => ?_)
  refine KW.putF (q0 := 0) (ws' := ([(h0, .inr (7, [.ref q1, .null, .null, .null, .int 0, .null, .null, .null, .null, .null]))]) ++ w0) dX7_init_12 ff_X7_10 rfl rfl (by simp) rfl ?_
  refine KW.aload_n dX7_init_15 rfl ?_
  refine KW.new dX7_init_16 nw_X7_16 (Nat.le_of_ble_eq_true rfl) (Nat.le_of_ble_eq_true rfl) (fun q2 => ?_)
  refine KW.dup dX7_init_19 ?_
  refine KW.aload_n dX7_init_20 rfl ?_
  refine KW.getR (q0 := 0) dX7_init_21 fl_X7_10 rfl rfl ?_
  refine KW.callI (as := [_]) (([(h0, .inr (7, [.ref q1, .null, .null, .null, .int 0, .null, .null, .null, .null, .null]))]) ++ w0) rfl dX7_init_24 ck_X7_18 (by decide) (Nat.le_of_ble_eq_true rfl) rfl (k_X4_init q2 q1) ⟨(Nat.le_of_ble_eq_true rfl), (Nat.le_of_ble_eq_true rfl)⟩ (fun w1 hw1 => ?_)
  refine KW.putF (q0 := 0) (ws' := (([(h0, .inr (7, [.ref q1, .ref q2, .null, .null, .int 0, .null, .null, .null, .null, .null]))]) ++ w0) ++ w1) dX7_init_27 ff_X7_21 rfl rfl (by simp) rfl ?_
  refine KW.aload_n dX7_init_30 rfl ?_
  refine KW.new dX7_init_31 nw_X7_16 (Nat.le_of_ble_eq_true rfl) (Nat.le_of_ble_eq_true rfl) (fun q3 => ?_)
  refine KW.dup dX7_init_34 ?_
  refine KW.aload_n dX7_init_35 rfl ?_
  refine KW.getR (q0 := 0) dX7_init_36 fl_X7_10 rfl rfl ?_
  refine KW.callI (as := [_]) ((([(h0, .inr (7, [.ref q1, .ref q2, .null, .null, .int 0, .null, .null, .null, .null, .null]))]) ++ w0) ++ w1) rfl dX7_init_39 ck_X7_18 (by decide) (Nat.le_of_ble_eq_true rfl) rfl (k_X4_init q3 q1) ⟨(Nat.le_of_ble_eq_true rfl), (Nat.le_of_ble_eq_true rfl)⟩ (fun w2 hw2 => ?_)
  refine KW.putF (q0 := 0) (ws' := ((([(h0, .inr (7, [.ref q1, .ref q2, .ref q3, .null, .int 0, .null, .null, .null, .null, .null]))]) ++ w0) ++ w1) ++ w2) dX7_init_42 ff_X7_25 rfl rfl (by simp) rfl ?_
  refine KW.aload_n dX7_init_45 rfl ?_
  refine KW.new dX7_init_46 nw_X7_16 (Nat.le_of_ble_eq_true rfl) (Nat.le_of_ble_eq_true rfl) (fun q4 => ?_)
  refine KW.dup dX7_init_49 ?_
  refine KW.aload_n dX7_init_50 rfl ?_
  refine KW.getR (q0 := 0) dX7_init_51 fl_X7_10 rfl rfl ?_
  refine KW.callI (as := [_]) (((([(h0, .inr (7, [.ref q1, .ref q2, .ref q3, .null, .int 0, .null, .null, .null, .null, .null]))]) ++ w0) ++ w1) ++ w2) rfl dX7_init_54 ck_X7_18 (by decide) (Nat.le_of_ble_eq_true rfl) rfl (k_X4_init q4 q1) ⟨(Nat.le_of_ble_eq_true rfl), (Nat.le_of_ble_eq_true rfl)⟩ (fun w3 hw3 => ?_)
  refine KW.putF (q0 := 0) (ws' := (((([(h0, .inr (7, [.ref q1, .ref q2, .ref q3, .ref q4, .int 0, .null, .null, .null, .null, .null]))]) ++ w0) ++ w1) ++ w2) ++ w3) dX7_init_57 ff_X7_28 rfl rfl (by simp) rfl ?_
  refine KW.aload_n dX7_init_60 rfl ?_
  refine KW.new dX7_init_61 nw_X7_31 (Nat.le_of_ble_eq_true rfl) (Nat.le_of_ble_eq_true rfl) (fun q5 => ?_)
  refine KW.dup dX7_init_64 ?_
  refine KW.aload_n dX7_init_65 rfl ?_
  refine KW.getR (q0 := 0) dX7_init_66 fl_X7_10 rfl rfl ?_
  refine KW.callI (as := [_]) ((((([(h0, .inr (7, [.ref q1, .ref q2, .ref q3, .ref q4, .int 0, .null, .null, .null, .null, .null]))]) ++ w0) ++ w1) ++ w2) ++ w3) rfl dX7_init_69 ck_X7_33 (by decide) (Nat.le_of_ble_eq_true rfl) rfl (k_X2_init q5 q1) ⟨(Nat.le_of_ble_eq_true rfl), (Nat.le_of_ble_eq_true rfl)⟩ (fun w4 hw4 => ?_)
  refine KW.putF (q0 := 0) (ws' := ((((([(h0, .inr (7, [.ref q1, .ref q2, .ref q3, .ref q4, .int 0, .ref q5, .null, .null, .null, .null]))]) ++ w0) ++ w1) ++ w2) ++ w3) ++ w4) dX7_init_72 ff_X7_34 rfl rfl (by simp) rfl ?_
  refine KW.aload_n dX7_init_75 rfl ?_
  refine KW.new dX7_init_76 nw_X7_38 (Nat.le_of_ble_eq_true rfl) (Nat.le_of_ble_eq_true rfl) (fun q6 => ?_)
  refine KW.dup dX7_init_79 ?_
  refine KW.callN (((((([(h0, .inr (7, [.ref q1, .ref q2, .ref q3, .ref q4, .int 0, .ref q5, .null, .null, .null, .null]))]) ++ w0) ++ w1) ++ w2) ++ w3) ++ w4) rfl rfl dX7_init_80 ci_X3 (by decide) (Nat.le_of_ble_eq_true rfl) rfl (k_X3_init q6) ⟨(Nat.le_of_ble_eq_true rfl), (Nat.le_of_ble_eq_true rfl)⟩ (fun w5 hw5 => ?_)
  refine KW.putF (q0 := 0) (ws' := (((((([(h0, .inr (7, [.ref q1, .ref q2, .ref q3, .ref q4, .int 0, .ref q5, .ref q6, .null, .null, .null]))]) ++ w0) ++ w1) ++ w2) ++ w3) ++ w4) ++ w5) dX7_init_83 ff_X7_41 rfl rfl (by simp) rfl ?_
  refine KW.aload_n dX7_init_86 rfl ?_
  refine KW.new dX7_init_87 nw_X7_45 (Nat.le_of_ble_eq_true rfl) (Nat.le_of_ble_eq_true rfl) (fun q7 => ?_)
  refine KW.dup dX7_init_90 ?_
  refine KW.aload_n dX7_init_91 rfl ?_
  refine KW.getR (q0 := 0) dX7_init_92 fl_X7_10 rfl rfl ?_
  refine KW.callI (as := [_]) ((((((([(h0, .inr (7, [.ref q1, .ref q2, .ref q3, .ref q4, .int 0, .ref q5, .ref q6, .null, .null, .null]))]) ++ w0) ++ w1) ++ w2) ++ w3) ++ w4) ++ w5) rfl dX7_init_95 ck_X7_47 (by decide) (Nat.le_of_ble_eq_true rfl) rfl (k_X6_init q7 q1) ⟨(Nat.le_of_ble_eq_true rfl), (Nat.le_of_ble_eq_true rfl)⟩ (fun w6 hw6 => ?_)
  refine KW.putF (q0 := 0) (ws' := ((((((([(h0, .inr (7, [.ref q1, .ref q2, .ref q3, .ref q4, .int 0, .ref q5, .ref q6, .ref q7, .null, .null]))]) ++ w0) ++ w1) ++ w2) ++ w3) ++ w4) ++ w5) ++ w6) dX7_init_98 ff_X7_48 rfl rfl (by simp) rfl ?_
  refine KW.aload_n dX7_init_101 rfl ?_
  refine KW.new dX7_init_102 nw_X7_52 (Nat.le_of_ble_eq_true rfl) (Nat.le_of_ble_eq_true rfl) (fun q8 => ?_)
  refine KW.dup dX7_init_105 ?_
  refine KW.aload_n dX7_init_106 rfl ?_
  refine KW.getR (q0 := 0) dX7_init_107 fl_X7_10 rfl rfl ?_
  refine KW.callI (as := [_]) (((((((([(h0, .inr (7, [.ref q1, .ref q2, .ref q3, .ref q4, .int 0, .ref q5, .ref q6, .ref q7, .null, .null]))]) ++ w0) ++ w1) ++ w2) ++ w3) ++ w4) ++ w5) ++ w6) rfl dX7_init_110 ck_X7_54 (by decide) (Nat.le_of_ble_eq_true rfl) rfl (k_X5_init q8 q1) ⟨(Nat.le_of_ble_eq_true rfl), (Nat.le_of_ble_eq_true rfl)⟩ (fun w7 hw7 => ?_)
  refine KW.putF (q0 := 0) (ws' := (((((((([(h0, .inr (7, [.ref q1, .ref q2, .ref q3, .ref q4, .int 0, .ref q5, .ref q6, .ref q7, .ref q8, .null]))]) ++ w0) ++ w1) ++ w2) ++ w3) ++ w4) ++ w5) ++ w6) ++ w7) dX7_init_113 ff_X7_55 rfl rfl (by simp) rfl ?_
  refine KW.aload_n dX7_init_116 rfl ?_
  refine KW.new dX7_init_117 nw_X7_59 (Nat.le_of_ble_eq_true rfl) (Nat.le_of_ble_eq_true rfl) (fun q9 => ?_)
  refine KW.dup dX7_init_120 ?_
  refine KW.aload_n dX7_init_121 rfl ?_
  refine KW.getR (q0 := 0) dX7_init_122 fl_X7_10 rfl rfl ?_
  refine KW.aload_n dX7_init_125 rfl ?_
  refine KW.getR (q0 := 0) dX7_init_126 fl_X7_55 rfl rfl ?_
  refine KW.callI (as := [_, _]) ((((((((([(h0, .inr (7, [.ref q1, .ref q2, .ref q3, .ref q4, .int 0, .ref q5, .ref q6, .ref q7, .ref q8, .null]))]) ++ w0) ++ w1) ++ w2) ++ w3) ++ w4) ++ w5) ++ w6) ++ w7) rfl dX7_init_129 ck_X7_61 (by decide) (Nat.le_of_ble_eq_true rfl) rfl (k_X1_init q9 q1 q8) ⟨(Nat.le_of_ble_eq_true rfl), (Nat.le_of_ble_eq_true rfl)⟩ (fun w8 hw8 => ?_)
  refine KW.putF (q0 := 0) (ws' := ((((((((([(h0, .inr (7, [.ref q1, .ref q2, .ref q3, .ref q4, .int 0, .ref q5, .ref q6, .ref q7, .ref q8, .ref q9]))]) ++ w0) ++ w1) ++ w2) ++ w3) ++ w4) ++ w5) ++ w6) ++ w7) ++ w8) dX7_init_132 ff_X7_64 rfl rfl (by simp) rfl ?_
  exact KW.vret dX7_init_135 rfl ⟨rfl, rfl⟩ ⟨q1, q2, q3, q4, q5, q6, q7, q8, q9, w0, w1, w2, w3, w4, w5, w6, w7, w8, hw0, hw1, hw2, hw3, hw4, hw5, hw6, hw7, hw8, rfl⟩
