-- a State is copied
theorem zCpy_in {f f2 : Int → Int} {n x : Int} (h0 : 0 ≤ x) (h1 : x < n) : zCpy f f2 0 0 n x = f x := by
  unfold zCpy
  rw [if_pos (by omega)]
  congr 1
  omega
theorem StF.copy {o gr ri fo un ba si st he po at_ sv r o' gr' ri' fo' un' ba' si' st' he' po' at' sv' : Int → Int} (h : StF o gr ri fo un ba si st he po at_ sv r) (h16 : r 192 ≤ 16) (e0 : o' 6 = o 6 ∧ o' 13 = o 13) (e1 : ∀ x, 0 ≤ x → x < 63 → gr' x = gr x) (e2 : ∀ x, 0 ≤ x → x < 63 → ri' x = ri x) (e3 : ∀ x, 0 ≤ x → x < 63 → fo' x = fo x) (e4 : ∀ x, 0 ≤ x → x < 63 → un' x = un x) (e5 : ∀ x, 0 ≤ x → x < 2 → ba' x = ba x) (e6 : ∀ x, 0 ≤ x → x < 16 → si' x = si x) (e7 : ∀ x, 0 ≤ x → x < 16 → st' x = st x) (e8 : ∀ x, 0 ≤ x → x < 16 → he' x = he x) (e9 : ∀ x, 0 ≤ x → x < 16 → po' x = po x) (e10 : ∀ x, 0 ≤ x → x < 16 → at' x = at_ x) (e11 : ∀ x, 0 ≤ x → x < 16 → sv' x = sv x) : StF o' gr' ri' fo' un' ba' si' st' he' po' at' sv' r := by
  refine ⟨fun x x0 x1 => ?_, ?_, ?_, fun z z0 z1 => ?_⟩
  · rw [e1 x x0 x1, e2 x x0 x1, e3 x x0 x1, e4 x x0 x1]; exact h.1 x x0 x1
  · rw [e5 0 (by decide) (by decide), e5 1 (by decide) (by decide)]; exact h.2.1
  · rw [e0.1, e0.2]; exact h.2.2.1
  · rw [e6 z z0 (by omega), e7 z z0 (by omega), e8 z z0 (by omega), e9 z z0 (by omega), e10 z z0 (by omega), e11 z z0 (by omega)]; exact h.2.2.2 z z0 z1
set_option maxRecDepth 100000 in
set_option maxHeartbeats 2000000 in
theorem c_X4_copyFrom_39_3 (g : ZH) {r : Int → Int} (h16 : r 192 ≤ 16) (hS : StAt g 3 r) : ZC 2 mX4_copyFrom [.inr 39, .inr 3] g (fun _ g' => zFr [39, 40, 41, 42, 43, 44, 45, 46, 47, 48, 49, 50] g g' ∧ StAt g' 39 r) := by
  refine ZC.of (by decide +kernel) (Nat.le_of_ble_eq_true rfl) ?_
  refine ZW.aload_n dX4_copyFrom_0 rfl ?_
  refine ZW.getR dX4_copyFrom_1 fl_X4_9 ⟨_, rfl, rfl⟩ ?_
  refine ZW.iconst dX4_copyFrom_4 ?_
  refine ZW.aload_n dX4_copyFrom_5 rfl ?_
  refine ZW.getR dX4_copyFrom_6 fl_X4_9 ⟨_, rfl, rfl⟩ ?_
  refine ZW.iconst dX4_copyFrom_9 ?_
  refine ZW.bipush dX4_copyFrom_10 rfl ?_
  refine ZW.copy dX4_copyFrom_12 (mmW_2 48 rfl rfl) (mmW_2 50 rfl rfl) (mmW_2 49 rfl rfl) (mmW_1 11 rfl rfl) rfl rfl (by decide) (by omega) (by decide) (Nat.le_of_ble_eq_true rfl) ?_
  refine ZW.aload_n dX4_copyFrom_15 rfl ?_
  refine ZW.getR dX4_copyFrom_16 fl_X4_15 ⟨_, rfl, rfl⟩ ?_
  refine ZW.iconst dX4_copyFrom_19 ?_
  refine ZW.aload_n dX4_copyFrom_20 rfl ?_
  refine ZW.getR dX4_copyFrom_21 fl_X4_15 ⟨_, rfl, rfl⟩ ?_
  refine ZW.iconst dX4_copyFrom_24 ?_
  refine ZW.bipush dX4_copyFrom_25 rfl ?_
  refine ZW.copy dX4_copyFrom_27 (mmW_2 48 rfl rfl) (mmW_2 50 rfl rfl) (mmW_2 49 rfl rfl) (mmW_1 11 rfl rfl) rfl rfl (by decide) (by omega) (by decide) (Nat.le_of_ble_eq_true rfl) ?_
  refine ZW.aload_n dX4_copyFrom_30 rfl ?_
  refine ZW.getR dX4_copyFrom_31 fl_X4_18 ⟨_, rfl, rfl⟩ ?_
  refine ZW.iconst dX4_copyFrom_34 ?_
  refine ZW.aload_n dX4_copyFrom_35 rfl ?_
  refine ZW.getR dX4_copyFrom_36 fl_X4_18 ⟨_, rfl, rfl⟩ ?_
  refine ZW.iconst dX4_copyFrom_39 ?_
  refine ZW.bipush dX4_copyFrom_40 rfl ?_
  refine ZW.copy dX4_copyFrom_42 (mmW_2 48 rfl rfl) (mmW_2 50 rfl rfl) (mmW_2 49 rfl rfl) (mmW_1 11 rfl rfl) rfl rfl (by decide) (by omega) (by decide) (Nat.le_of_ble_eq_true rfl) ?_
  refine ZW.aload_n dX4_copyFrom_45 rfl ?_
  refine ZW.getR dX4_copyFrom_46 fl_X4_21 ⟨_, rfl, rfl⟩ ?_
  refine ZW.iconst dX4_copyFrom_49 ?_
  refine ZW.aload_n dX4_copyFrom_50 rfl ?_
  refine ZW.getR dX4_copyFrom_51 fl_X4_21 ⟨_, rfl, rfl⟩ ?_
  refine ZW.iconst dX4_copyFrom_54 ?_
  refine ZW.bipush dX4_copyFrom_55 rfl ?_
  refine ZW.copy dX4_copyFrom_57 (mmW_2 48 rfl rfl) (mmW_2 50 rfl rfl) (mmW_2 49 rfl rfl) (mmW_1 11 rfl rfl) rfl rfl (by decide) (by omega) (by decide) (Nat.le_of_ble_eq_true rfl) ?_
  refine ZW.aload_n dX4_copyFrom_60 rfl ?_
  refine ZW.getR dX4_copyFrom_61 fl_X4_24 ⟨_, rfl, rfl⟩ ?_
  refine ZW.iconst dX4_copyFrom_64 ?_
  refine ZW.aload_n dX4_copyFrom_65 rfl ?_
  refine ZW.getR dX4_copyFrom_66 fl_X4_24 ⟨_, rfl, rfl⟩ ?_
  refine ZW.iconst dX4_copyFrom_69 ?_
  refine ZW.iconst dX4_copyFrom_70 ?_
  refine ZW.copy dX4_copyFrom_71 (mmW_2 48 rfl rfl) (mmW_2 50 rfl rfl) (mmW_2 49 rfl rfl) (mmW_1 11 rfl rfl) rfl rfl (by decide) (by omega) (by decide) (Nat.le_of_ble_eq_true rfl) ?_
  refine ZW.aload_n dX4_copyFrom_74 rfl ?_
  refine ZW.aload_n dX4_copyFrom_75 rfl ?_
  refine ZW.getI (fz := 6) dX4_copyFrom_76 fl_X4_61 ⟨_, rfl, rfl⟩ rfl rfl ?_
  refine ZW.puti (fz := 6) dX4_copyFrom_79 fp_X4_61 ⟨_, rfl, rfl⟩ rfl ?_
  refine ZW.aload_n dX4_copyFrom_82 rfl ?_
  refine ZW.getR dX4_copyFrom_83 fl_X4_27 ⟨_, rfl, rfl⟩ ?_
  refine ZW.iconst dX4_copyFrom_86 ?_
  refine ZW.aload_n dX4_copyFrom_87 rfl ?_
  refine ZW.getR dX4_copyFrom_88 fl_X4_27 ⟨_, rfl, rfl⟩ ?_
  refine ZW.iconst dX4_copyFrom_91 ?_
  refine ZW.bipush dX4_copyFrom_92 rfl ?_
  refine ZW.copy dX4_copyFrom_94 (mmW_2 48 rfl rfl) (mmW_2 50 rfl rfl) (mmW_2 49 rfl rfl) (mmW_1 11 rfl rfl) rfl rfl (by decide) (by omega) (by decide) (Nat.le_of_ble_eq_true rfl) ?_
  refine ZW.aload_n dX4_copyFrom_97 rfl ?_
  refine ZW.getR dX4_copyFrom_98 fl_X4_30 ⟨_, rfl, rfl⟩ ?_
  refine ZW.iconst dX4_copyFrom_101 ?_
  refine ZW.aload_n dX4_copyFrom_102 rfl ?_
  refine ZW.getR dX4_copyFrom_103 fl_X4_30 ⟨_, rfl, rfl⟩ ?_
  refine ZW.iconst dX4_copyFrom_106 ?_
  refine ZW.bipush dX4_copyFrom_107 rfl ?_
  refine ZW.copy dX4_copyFrom_109 (mmW_2 48 rfl rfl) (mmW_2 50 rfl rfl) (mmW_2 49 rfl rfl) (mmW_1 11 rfl rfl) rfl rfl (by decide) (by omega) (by decide) (Nat.le_of_ble_eq_true rfl) ?_
  refine ZW.aload_n dX4_copyFrom_112 rfl ?_
  refine ZW.getR dX4_copyFrom_113 fl_X4_33 ⟨_, rfl, rfl⟩ ?_
  refine ZW.iconst dX4_copyFrom_116 ?_
  refine ZW.aload_n dX4_copyFrom_117 rfl ?_
  refine ZW.getR dX4_copyFrom_118 fl_X4_33 ⟨_, rfl, rfl⟩ ?_
  refine ZW.iconst dX4_copyFrom_121 ?_
  refine ZW.bipush dX4_copyFrom_122 rfl ?_
  refine ZW.copy dX4_copyFrom_124 (mmW_2 48 rfl rfl) (mmW_2 50 rfl rfl) (mmW_2 49 rfl rfl) (mmW_1 11 rfl rfl) rfl rfl (by decide) (by omega) (by decide) (Nat.le_of_ble_eq_true rfl) ?_
  refine ZW.aload_n dX4_copyFrom_127 rfl ?_
  refine ZW.getR dX4_copyFrom_128 fl_X4_36 ⟨_, rfl, rfl⟩ ?_
  refine ZW.iconst dX4_copyFrom_131 ?_
  refine ZW.aload_n dX4_copyFrom_132 rfl ?_
  refine ZW.getR dX4_copyFrom_133 fl_X4_36 ⟨_, rfl, rfl⟩ ?_
  refine ZW.iconst dX4_copyFrom_136 ?_
  refine ZW.bipush dX4_copyFrom_137 rfl ?_
  refine ZW.copy dX4_copyFrom_139 (mmW_2 48 rfl rfl) (mmW_2 50 rfl rfl) (mmW_2 49 rfl rfl) (mmW_1 11 rfl rfl) rfl rfl (by decide) (by omega) (by decide) (Nat.le_of_ble_eq_true rfl) ?_
  refine ZW.aload_n dX4_copyFrom_142 rfl ?_
  refine ZW.getR dX4_copyFrom_143 fl_X4_39 ⟨_, rfl, rfl⟩ ?_
  refine ZW.iconst dX4_copyFrom_146 ?_
  refine ZW.aload_n dX4_copyFrom_147 rfl ?_
  refine ZW.getR dX4_copyFrom_148 fl_X4_39 ⟨_, rfl, rfl⟩ ?_
  refine ZW.iconst dX4_copyFrom_151 ?_
  refine ZW.bipush dX4_copyFrom_152 rfl ?_
  refine ZW.copy dX4_copyFrom_154 (mmW_2 48 rfl rfl) (mmW_2 50 rfl rfl) (mmW_2 49 rfl rfl) (mmW_1 11 rfl rfl) rfl rfl (by decide) (by omega) (by decide) (Nat.le_of_ble_eq_true rfl) ?_
  refine ZW.aload_n dX4_copyFrom_157 rfl ?_
  refine ZW.getR dX4_copyFrom_158 fl_X4_42 ⟨_, rfl, rfl⟩ ?_
  refine ZW.iconst dX4_copyFrom_161 ?_
  refine ZW.aload_n dX4_copyFrom_162 rfl ?_
  refine ZW.getR dX4_copyFrom_163 fl_X4_42 ⟨_, rfl, rfl⟩ ?_
  refine ZW.iconst dX4_copyFrom_166 ?_
  refine ZW.bipush dX4_copyFrom_167 rfl ?_
  refine ZW.copy dX4_copyFrom_169 (mmW_2 48 rfl rfl) (mmW_2 50 rfl rfl) (mmW_2 49 rfl rfl) (mmW_1 11 rfl rfl) rfl rfl (by decide) (by omega) (by decide) (Nat.le_of_ble_eq_true rfl) ?_
  refine ZW.aload_n dX4_copyFrom_172 rfl ?_
  refine ZW.aload_n dX4_copyFrom_173 rfl ?_
  refine ZW.getI (fz := 13) dX4_copyFrom_174 fl_X4_65 ⟨_, rfl, rfl⟩ rfl rfl ?_
  refine ZW.puti (fz := 13) dX4_copyFrom_177 fp_X4_65 ⟨_, rfl, rfl⟩ rfl ?_
  refine ZW.vret dX4_copyFrom_180 rfl ?_
  refine ⟨?_, StF.copy hS h16 ⟨rfl, rfl⟩ (fun x x0 x1 => show zCpy (g 4) (g 40) 0 0 63 x = g 4 x from zCpy_in x0 x1) (fun x x0 x1 => show zCpy (g 5) (g 41) 0 0 63 x = g 5 x from zCpy_in x0 x1) (fun x x0 x1 => show zCpy (g 6) (g 42) 0 0 63 x = g 6 x from zCpy_in x0 x1) (fun x x0 x1 => show zCpy (g 7) (g 43) 0 0 63 x = g 7 x from zCpy_in x0 x1) (fun x x0 x1 => show zCpy (g 8) (g 44) 0 0 2 x = g 8 x from zCpy_in x0 x1) (fun x x0 x1 => show zCpy (g 9) (g 45) 0 0 16 x = g 9 x from zCpy_in x0 x1) (fun x x0 x1 => show zCpy (g 10) (g 46) 0 0 16 x = g 10 x from zCpy_in x0 x1) (fun x x0 x1 => show zCpy (g 11) (g 47) 0 0 16 x = g 11 x from zCpy_in x0 x1) (fun x x0 x1 => show zCpy (g 12) (g 48) 0 0 16 x = g 12 x from zCpy_in x0 x1) (fun x x0 x1 => show zCpy (g 13) (g 49) 0 0 16 x = g 13 x from zCpy_in x0 x1) (fun x x0 x1 => show zCpy (g 14) (g 50) 0 0 16 x = g 14 x from zCpy_in x0 x1)⟩
  repeat (first | exact zFr.rf _ _ | refine zFr.row ?_ (by decide) _ | refine zFr.set ?_ (by decide) _ _)
set_option maxRecDepth 100000 in
set_option maxHeartbeats 2000000 in
theorem c_X4_copyFrom_51_3 (g : ZH) {r : Int → Int} (h16 : r 192 ≤ 16) (hS : StAt g 3 r) : ZC 2 mX4_copyFrom [.inr 51, .inr 3] g (fun _ g' => zFr [51, 52, 53, 54, 55, 56, 57, 58, 59, 60, 61, 62] g g' ∧ StAt g' 51 r) := by
  refine ZC.of (by decide +kernel) (Nat.le_of_ble_eq_true rfl) ?_
  refine ZW.aload_n dX4_copyFrom_0 rfl ?_
  refine ZW.getR dX4_copyFrom_1 fl_X4_9 ⟨_, rfl, rfl⟩ ?_
  refine ZW.iconst dX4_copyFrom_4 ?_
  refine ZW.aload_n dX4_copyFrom_5 rfl ?_
  refine ZW.getR dX4_copyFrom_6 fl_X4_9 ⟨_, rfl, rfl⟩ ?_
  refine ZW.iconst dX4_copyFrom_9 ?_
  refine ZW.bipush dX4_copyFrom_10 rfl ?_
  refine ZW.copy dX4_copyFrom_12 (mmW_2 48 rfl rfl) (mmW_2 50 rfl rfl) (mmW_2 49 rfl rfl) (mmW_1 11 rfl rfl) rfl rfl (by decide) (by omega) (by decide) (Nat.le_of_ble_eq_true rfl) ?_
  refine ZW.aload_n dX4_copyFrom_15 rfl ?_
  refine ZW.getR dX4_copyFrom_16 fl_X4_15 ⟨_, rfl, rfl⟩ ?_
  refine ZW.iconst dX4_copyFrom_19 ?_
  refine ZW.aload_n dX4_copyFrom_20 rfl ?_
  refine ZW.getR dX4_copyFrom_21 fl_X4_15 ⟨_, rfl, rfl⟩ ?_
  refine ZW.iconst dX4_copyFrom_24 ?_
  refine ZW.bipush dX4_copyFrom_25 rfl ?_
  refine ZW.copy dX4_copyFrom_27 (mmW_2 48 rfl rfl) (mmW_2 50 rfl rfl) (mmW_2 49 rfl rfl) (mmW_1 11 rfl rfl) rfl rfl (by decide) (by omega) (by decide) (Nat.le_of_ble_eq_true rfl) ?_
  refine ZW.aload_n dX4_copyFrom_30 rfl ?_
  refine ZW.getR dX4_copyFrom_31 fl_X4_18 ⟨_, rfl, rfl⟩ ?_
  refine ZW.iconst dX4_copyFrom_34 ?_
  refine ZW.aload_n dX4_copyFrom_35 rfl ?_
  refine ZW.getR dX4_copyFrom_36 fl_X4_18 ⟨_, rfl, rfl⟩ ?_
  refine ZW.iconst dX4_copyFrom_39 ?_
  refine ZW.bipush dX4_copyFrom_40 rfl ?_
  refine ZW.copy dX4_copyFrom_42 (mmW_2 48 rfl rfl) (mmW_2 50 rfl rfl) (mmW_2 49 rfl rfl) (mmW_1 11 rfl rfl) rfl rfl (by decide) (by omega) (by decide) (Nat.le_of_ble_eq_true rfl) ?_
  refine ZW.aload_n dX4_copyFrom_45 rfl ?_
  refine ZW.getR dX4_copyFrom_46 fl_X4_21 ⟨_, rfl, rfl⟩ ?_
  refine ZW.iconst dX4_copyFrom_49 ?_
  refine ZW.aload_n dX4_copyFrom_50 rfl ?_
  refine ZW.getR dX4_copyFrom_51 fl_X4_21 ⟨_, rfl, rfl⟩ ?_
  refine ZW.iconst dX4_copyFrom_54 ?_
  refine ZW.bipush dX4_copyFrom_55 rfl ?_
  refine ZW.copy dX4_copyFrom_57 (mmW_2 48 rfl rfl) (mmW_2 50 rfl rfl) (mmW_2 49 rfl rfl) (mmW_1 11 rfl rfl) rfl rfl (by decide) (by omega) (by decide) (Nat.le_of_ble_eq_true rfl) ?_
  refine ZW.aload_n dX4_copyFrom_60 rfl ?_
  refine ZW.getR dX4_copyFrom_61 fl_X4_24 ⟨_, rfl, rfl⟩ ?_
  refine ZW.iconst dX4_copyFrom_64 ?_
  refine ZW.aload_n dX4_copyFrom_65 rfl ?_
  refine ZW.getR dX4_copyFrom_66 fl_X4_24 ⟨_, rfl, rfl⟩ ?_
  refine ZW.iconst dX4_copyFrom_69 ?_
  refine ZW.iconst dX4_copyFrom_70 ?_
  refine ZW.copy dX4_copyFrom_71 (mmW_2 48 rfl rfl) (mmW_2 50 rfl rfl) (mmW_2 49 rfl rfl) (mmW_1 11 rfl rfl) rfl rfl (by decide) (by omega) (by decide) (Nat.le_of_ble_eq_true rfl) ?_
  refine ZW.aload_n dX4_copyFrom_74 rfl ?_
  refine ZW.aload_n dX4_copyFrom_75 rfl ?_
  refine ZW.getI (fz := 6) dX4_copyFrom_76 fl_X4_61 ⟨_, rfl, rfl⟩ rfl rfl ?_
  refine ZW.puti (fz := 6) dX4_copyFrom_79 fp_X4_61 ⟨_, rfl, rfl⟩ rfl ?_
  refine ZW.aload_n dX4_copyFrom_82 rfl ?_
  refine ZW.getR dX4_copyFrom_83 fl_X4_27 ⟨_, rfl, rfl⟩ ?_
  refine ZW.iconst dX4_copyFrom_86 ?_
  refine ZW.aload_n dX4_copyFrom_87 rfl ?_
  refine ZW.getR dX4_copyFrom_88 fl_X4_27 ⟨_, rfl, rfl⟩ ?_
  refine ZW.iconst dX4_copyFrom_91 ?_
  refine ZW.bipush dX4_copyFrom_92 rfl ?_
  refine ZW.copy dX4_copyFrom_94 (mmW_2 48 rfl rfl) (mmW_2 50 rfl rfl) (mmW_2 49 rfl rfl) (mmW_1 11 rfl rfl) rfl rfl (by decide) (by omega) (by decide) (Nat.le_of_ble_eq_true rfl) ?_
  refine ZW.aload_n dX4_copyFrom_97 rfl ?_
  refine ZW.getR dX4_copyFrom_98 fl_X4_30 ⟨_, rfl, rfl⟩ ?_
  refine ZW.iconst dX4_copyFrom_101 ?_
  refine ZW.aload_n dX4_copyFrom_102 rfl ?_
  refine ZW.getR dX4_copyFrom_103 fl_X4_30 ⟨_, rfl, rfl⟩ ?_
  refine ZW.iconst dX4_copyFrom_106 ?_
  refine ZW.bipush dX4_copyFrom_107 rfl ?_
  refine ZW.copy dX4_copyFrom_109 (mmW_2 48 rfl rfl) (mmW_2 50 rfl rfl) (mmW_2 49 rfl rfl) (mmW_1 11 rfl rfl) rfl rfl (by decide) (by omega) (by decide) (Nat.le_of_ble_eq_true rfl) ?_
  refine ZW.aload_n dX4_copyFrom_112 rfl ?_
  refine ZW.getR dX4_copyFrom_113 fl_X4_33 ⟨_, rfl, rfl⟩ ?_
  refine ZW.iconst dX4_copyFrom_116 ?_
  refine ZW.aload_n dX4_copyFrom_117 rfl ?_
  refine ZW.getR dX4_copyFrom_118 fl_X4_33 ⟨_, rfl, rfl⟩ ?_
  refine ZW.iconst dX4_copyFrom_121 ?_
  refine ZW.bipush dX4_copyFrom_122 rfl ?_
  refine ZW.copy dX4_copyFrom_124 (mmW_2 48 rfl rfl) (mmW_2 50 rfl rfl) (mmW_2 49 rfl rfl) (mmW_1 11 rfl rfl) rfl rfl (by decide) (by omega) (by decide) (Nat.le_of_ble_eq_true rfl) ?_
  refine ZW.aload_n dX4_copyFrom_127 rfl ?_
  refine ZW.getR dX4_copyFrom_128 fl_X4_36 ⟨_, rfl, rfl⟩ ?_
  refine ZW.iconst dX4_copyFrom_131 ?_
  refine ZW.aload_n dX4_copyFrom_132 rfl ?_
  refine ZW.getR dX4_copyFrom_133 fl_X4_36 ⟨_, rfl, rfl⟩ ?_
  refine ZW.iconst dX4_copyFrom_136 ?_
  refine ZW.bipush dX4_copyFrom_137 rfl ?_
  refine ZW.copy dX4_copyFrom_139 (mmW_2 48 rfl rfl) (mmW_2 50 rfl rfl) (mmW_2 49 rfl rfl) (mmW_1 11 rfl rfl) rfl rfl (by decide) (by omega) (by decide) (Nat.le_of_ble_eq_true rfl) ?_
  refine ZW.aload_n dX4_copyFrom_142 rfl ?_
  refine ZW.getR dX4_copyFrom_143 fl_X4_39 ⟨_, rfl, rfl⟩ ?_
  refine ZW.iconst dX4_copyFrom_146 ?_
  refine ZW.aload_n dX4_copyFrom_147 rfl ?_
  refine ZW.getR dX4_copyFrom_148 fl_X4_39 ⟨_, rfl, rfl⟩ ?_
  refine ZW.iconst dX4_copyFrom_151 ?_
  refine ZW.bipush dX4_copyFrom_152 rfl ?_
  refine ZW.copy dX4_copyFrom_154 (mmW_2 48 rfl rfl) (mmW_2 50 rfl rfl) (mmW_2 49 rfl rfl) (mmW_1 11 rfl rfl) rfl rfl (by decide) (by omega) (by decide) (Nat.le_of_ble_eq_true rfl) ?_
  refine ZW.aload_n dX4_copyFrom_157 rfl ?_
  refine ZW.getR dX4_copyFrom_158 fl_X4_42 ⟨_, rfl, rfl⟩ ?_
  refine ZW.iconst dX4_copyFrom_161 ?_
  refine ZW.aload_n dX4_copyFrom_162 rfl ?_
  refine ZW.getR dX4_copyFrom_163 fl_X4_42 ⟨_, rfl, rfl⟩ ?_
  refine ZW.iconst dX4_copyFrom_166 ?_
  refine ZW.bipush dX4_copyFrom_167 rfl ?_
  refine ZW.copy dX4_copyFrom_169 (mmW_2 48 rfl rfl) (mmW_2 50 rfl rfl) (mmW_2 49 rfl rfl) (mmW_1 11 rfl rfl) rfl rfl (by decide) (by omega) (by decide) (Nat.le_of_ble_eq_true rfl) ?_
  refine ZW.aload_n dX4_copyFrom_172 rfl ?_
  refine ZW.aload_n dX4_copyFrom_173 rfl ?_
  refine ZW.getI (fz := 13) dX4_copyFrom_174 fl_X4_65 ⟨_, rfl, rfl⟩ rfl rfl ?_
  refine ZW.puti (fz := 13) dX4_copyFrom_177 fp_X4_65 ⟨_, rfl, rfl⟩ rfl ?_
  refine ZW.vret dX4_copyFrom_180 rfl ?_
  refine ⟨?_, StF.copy hS h16 ⟨rfl, rfl⟩ (fun x x0 x1 => show zCpy (g 4) (g 52) 0 0 63 x = g 4 x from zCpy_in x0 x1) (fun x x0 x1 => show zCpy (g 5) (g 53) 0 0 63 x = g 5 x from zCpy_in x0 x1) (fun x x0 x1 => show zCpy (g 6) (g 54) 0 0 63 x = g 6 x from zCpy_in x0 x1) (fun x x0 x1 => show zCpy (g 7) (g 55) 0 0 63 x = g 7 x from zCpy_in x0 x1) (fun x x0 x1 => show zCpy (g 8) (g 56) 0 0 2 x = g 8 x from zCpy_in x0 x1) (fun x x0 x1 => show zCpy (g 9) (g 57) 0 0 16 x = g 9 x from zCpy_in x0 x1) (fun x x0 x1 => show zCpy (g 10) (g 58) 0 0 16 x = g 10 x from zCpy_in x0 x1) (fun x x0 x1 => show zCpy (g 11) (g 59) 0 0 16 x = g 11 x from zCpy_in x0 x1) (fun x x0 x1 => show zCpy (g 12) (g 60) 0 0 16 x = g 12 x from zCpy_in x0 x1) (fun x x0 x1 => show zCpy (g 13) (g 61) 0 0 16 x = g 13 x from zCpy_in x0 x1) (fun x x0 x1 => show zCpy (g 14) (g 62) 0 0 16 x = g 14 x from zCpy_in x0 x1)⟩
  repeat (first | exact zFr.rf _ _ | refine zFr.row ?_ (by decide) _ | refine zFr.set ?_ (by decide) _ _)
set_option maxRecDepth 100000 in
set_option maxHeartbeats 2000000 in
theorem c_X4_copyFrom_63_3 (g : ZH) {r : Int → Int} (h16 : r 192 ≤ 16) (hS : StAt g 3 r) : ZC 2 mX4_copyFrom [.inr 63, .inr 3] g (fun _ g' => zFr [63, 64, 65, 66, 67, 68, 69, 70, 71, 72, 73, 74] g g' ∧ StAt g' 63 r) := by
  refine ZC.of (by decide +kernel) (Nat.le_of_ble_eq_true rfl) ?_
  refine ZW.aload_n dX4_copyFrom_0 rfl ?_
  refine ZW.getR dX4_copyFrom_1 fl_X4_9 ⟨_, rfl, rfl⟩ ?_
  refine ZW.iconst dX4_copyFrom_4 ?_
  refine ZW.aload_n dX4_copyFrom_5 rfl ?_
  refine ZW.getR dX4_copyFrom_6 fl_X4_9 ⟨_, rfl, rfl⟩ ?_
  refine ZW.iconst dX4_copyFrom_9 ?_
  refine ZW.bipush dX4_copyFrom_10 rfl ?_
  refine ZW.copy dX4_copyFrom_12 (mmW_2 48 rfl rfl) (mmW_2 50 rfl rfl) (mmW_2 49 rfl rfl) (mmW_1 11 rfl rfl) rfl rfl (by decide) (by omega) (by decide) (Nat.le_of_ble_eq_true rfl) ?_
  refine ZW.aload_n dX4_copyFrom_15 rfl ?_
  refine ZW.getR dX4_copyFrom_16 fl_X4_15 ⟨_, rfl, rfl⟩ ?_
  refine ZW.iconst dX4_copyFrom_19 ?_
  refine ZW.aload_n dX4_copyFrom_20 rfl ?_
  refine ZW.getR dX4_copyFrom_21 fl_X4_15 ⟨_, rfl, rfl⟩ ?_
  refine ZW.iconst dX4_copyFrom_24 ?_
  refine ZW.bipush dX4_copyFrom_25 rfl ?_
  refine ZW.copy dX4_copyFrom_27 (mmW_2 48 rfl rfl) (mmW_2 50 rfl rfl) (mmW_2 49 rfl rfl) (mmW_1 11 rfl rfl) rfl rfl (by decide) (by omega) (by decide) (Nat.le_of_ble_eq_true rfl) ?_
  refine ZW.aload_n dX4_copyFrom_30 rfl ?_
  refine ZW.getR dX4_copyFrom_31 fl_X4_18 ⟨_, rfl, rfl⟩ ?_
  refine ZW.iconst dX4_copyFrom_34 ?_
  refine ZW.aload_n dX4_copyFrom_35 rfl ?_
  refine ZW.getR dX4_copyFrom_36 fl_X4_18 ⟨_, rfl, rfl⟩ ?_
  refine ZW.iconst dX4_copyFrom_39 ?_
  refine ZW.bipush dX4_copyFrom_40 rfl ?_
  refine ZW.copy dX4_copyFrom_42 (mmW_2 48 rfl rfl) (mmW_2 50 rfl rfl) (mmW_2 49 rfl rfl) (mmW_1 11 rfl rfl) rfl rfl (by decide) (by omega) (by decide) (Nat.le_of_ble_eq_true rfl) ?_
  refine ZW.aload_n dX4_copyFrom_45 rfl ?_
  refine ZW.getR dX4_copyFrom_46 fl_X4_21 ⟨_, rfl, rfl⟩ ?_
  refine ZW.iconst dX4_copyFrom_49 ?_
  refine ZW.aload_n dX4_copyFrom_50 rfl ?_
  refine ZW.getR dX4_copyFrom_51 fl_X4_21 ⟨_, rfl, rfl⟩ ?_
  refine ZW.iconst dX4_copyFrom_54 ?_
  refine ZW.bipush dX4_copyFrom_55 rfl ?_
  refine ZW.copy dX4_copyFrom_57 (mmW_2 48 rfl rfl) (mmW_2 50 rfl rfl) (mmW_2 49 rfl rfl) (mmW_1 11 rfl rfl) rfl rfl (by decide) (by omega) (by decide) (Nat.le_of_ble_eq_true rfl) ?_
  refine ZW.aload_n dX4_copyFrom_60 rfl ?_
  refine ZW.getR dX4_copyFrom_61 fl_X4_24 ⟨_, rfl, rfl⟩ ?_
  refine ZW.iconst dX4_copyFrom_64 ?_
  refine ZW.aload_n dX4_copyFrom_65 rfl ?_
  refine ZW.getR dX4_copyFrom_66 fl_X4_24 ⟨_, rfl, rfl⟩ ?_
  refine ZW.iconst dX4_copyFrom_69 ?_
  refine ZW.iconst dX4_copyFrom_70 ?_
  refine ZW.copy dX4_copyFrom_71 (mmW_2 48 rfl rfl) (mmW_2 50 rfl rfl) (mmW_2 49 rfl rfl) (mmW_1 11 rfl rfl) rfl rfl (by decide) (by omega) (by decide) (Nat.le_of_ble_eq_true rfl) ?_
  refine ZW.aload_n dX4_copyFrom_74 rfl ?_
  refine ZW.aload_n dX4_copyFrom_75 rfl ?_
  refine ZW.getI (fz := 6) dX4_copyFrom_76 fl_X4_61 ⟨_, rfl, rfl⟩ rfl rfl ?_
  refine ZW.puti (fz := 6) dX4_copyFrom_79 fp_X4_61 ⟨_, rfl, rfl⟩ rfl ?_
  refine ZW.aload_n dX4_copyFrom_82 rfl ?_
  refine ZW.getR dX4_copyFrom_83 fl_X4_27 ⟨_, rfl, rfl⟩ ?_
  refine ZW.iconst dX4_copyFrom_86 ?_
  refine ZW.aload_n dX4_copyFrom_87 rfl ?_
  refine ZW.getR dX4_copyFrom_88 fl_X4_27 ⟨_, rfl, rfl⟩ ?_
  refine ZW.iconst dX4_copyFrom_91 ?_
  refine ZW.bipush dX4_copyFrom_92 rfl ?_
  refine ZW.copy dX4_copyFrom_94 (mmW_2 48 rfl rfl) (mmW_2 50 rfl rfl) (mmW_2 49 rfl rfl) (mmW_1 11 rfl rfl) rfl rfl (by decide) (by omega) (by decide) (Nat.le_of_ble_eq_true rfl) ?_
  refine ZW.aload_n dX4_copyFrom_97 rfl ?_
  refine ZW.getR dX4_copyFrom_98 fl_X4_30 ⟨_, rfl, rfl⟩ ?_
  refine ZW.iconst dX4_copyFrom_101 ?_
  refine ZW.aload_n dX4_copyFrom_102 rfl ?_
  refine ZW.getR dX4_copyFrom_103 fl_X4_30 ⟨_, rfl, rfl⟩ ?_
  refine ZW.iconst dX4_copyFrom_106 ?_
  refine ZW.bipush dX4_copyFrom_107 rfl ?_
  refine ZW.copy dX4_copyFrom_109 (mmW_2 48 rfl rfl) (mmW_2 50 rfl rfl) (mmW_2 49 rfl rfl) (mmW_1 11 rfl rfl) rfl rfl (by decide) (by omega) (by decide) (Nat.le_of_ble_eq_true rfl) ?_
  refine ZW.aload_n dX4_copyFrom_112 rfl ?_
  refine ZW.getR dX4_copyFrom_113 fl_X4_33 ⟨_, rfl, rfl⟩ ?_
  refine ZW.iconst dX4_copyFrom_116 ?_
  refine ZW.aload_n dX4_copyFrom_117 rfl ?_
  refine ZW.getR dX4_copyFrom_118 fl_X4_33 ⟨_, rfl, rfl⟩ ?_
  refine ZW.iconst dX4_copyFrom_121 ?_
  refine ZW.bipush dX4_copyFrom_122 rfl ?_
  refine ZW.copy dX4_copyFrom_124 (mmW_2 48 rfl rfl) (mmW_2 50 rfl rfl) (mmW_2 49 rfl rfl) (mmW_1 11 rfl rfl) rfl rfl (by decide) (by omega) (by decide) (Nat.le_of_ble_eq_true rfl) ?_
  refine ZW.aload_n dX4_copyFrom_127 rfl ?_
  refine ZW.getR dX4_copyFrom_128 fl_X4_36 ⟨_, rfl, rfl⟩ ?_
  refine ZW.iconst dX4_copyFrom_131 ?_
  refine ZW.aload_n dX4_copyFrom_132 rfl ?_
  refine ZW.getR dX4_copyFrom_133 fl_X4_36 ⟨_, rfl, rfl⟩ ?_
  refine ZW.iconst dX4_copyFrom_136 ?_
  refine ZW.bipush dX4_copyFrom_137 rfl ?_
  refine ZW.copy dX4_copyFrom_139 (mmW_2 48 rfl rfl) (mmW_2 50 rfl rfl) (mmW_2 49 rfl rfl) (mmW_1 11 rfl rfl) rfl rfl (by decide) (by omega) (by decide) (Nat.le_of_ble_eq_true rfl) ?_
  refine ZW.aload_n dX4_copyFrom_142 rfl ?_
  refine ZW.getR dX4_copyFrom_143 fl_X4_39 ⟨_, rfl, rfl⟩ ?_
  refine ZW.iconst dX4_copyFrom_146 ?_
  refine ZW.aload_n dX4_copyFrom_147 rfl ?_
  refine ZW.getR dX4_copyFrom_148 fl_X4_39 ⟨_, rfl, rfl⟩ ?_
  refine ZW.iconst dX4_copyFrom_151 ?_
  refine ZW.bipush dX4_copyFrom_152 rfl ?_
  refine ZW.copy dX4_copyFrom_154 (mmW_2 48 rfl rfl) (mmW_2 50 rfl rfl) (mmW_2 49 rfl rfl) (mmW_1 11 rfl rfl) rfl rfl (by decide) (by omega) (by decide) (Nat.le_of_ble_eq_true rfl) ?_
  refine ZW.aload_n dX4_copyFrom_157 rfl ?_
  refine ZW.getR dX4_copyFrom_158 fl_X4_42 ⟨_, rfl, rfl⟩ ?_
  refine ZW.iconst dX4_copyFrom_161 ?_
  refine ZW.aload_n dX4_copyFrom_162 rfl ?_
  refine ZW.getR dX4_copyFrom_163 fl_X4_42 ⟨_, rfl, rfl⟩ ?_
  refine ZW.iconst dX4_copyFrom_166 ?_
  refine ZW.bipush dX4_copyFrom_167 rfl ?_
  refine ZW.copy dX4_copyFrom_169 (mmW_2 48 rfl rfl) (mmW_2 50 rfl rfl) (mmW_2 49 rfl rfl) (mmW_1 11 rfl rfl) rfl rfl (by decide) (by omega) (by decide) (Nat.le_of_ble_eq_true rfl) ?_
  refine ZW.aload_n dX4_copyFrom_172 rfl ?_
  refine ZW.aload_n dX4_copyFrom_173 rfl ?_
  refine ZW.getI (fz := 13) dX4_copyFrom_174 fl_X4_65 ⟨_, rfl, rfl⟩ rfl rfl ?_
  refine ZW.puti (fz := 13) dX4_copyFrom_177 fp_X4_65 ⟨_, rfl, rfl⟩ rfl ?_
  refine ZW.vret dX4_copyFrom_180 rfl ?_
  refine ⟨?_, StF.copy hS h16 ⟨rfl, rfl⟩ (fun x x0 x1 => show zCpy (g 4) (g 64) 0 0 63 x = g 4 x from zCpy_in x0 x1) (fun x x0 x1 => show zCpy (g 5) (g 65) 0 0 63 x = g 5 x from zCpy_in x0 x1) (fun x x0 x1 => show zCpy (g 6) (g 66) 0 0 63 x = g 6 x from zCpy_in x0 x1) (fun x x0 x1 => show zCpy (g 7) (g 67) 0 0 63 x = g 7 x from zCpy_in x0 x1) (fun x x0 x1 => show zCpy (g 8) (g 68) 0 0 2 x = g 8 x from zCpy_in x0 x1) (fun x x0 x1 => show zCpy (g 9) (g 69) 0 0 16 x = g 9 x from zCpy_in x0 x1) (fun x x0 x1 => show zCpy (g 10) (g 70) 0 0 16 x = g 10 x from zCpy_in x0 x1) (fun x x0 x1 => show zCpy (g 11) (g 71) 0 0 16 x = g 11 x from zCpy_in x0 x1) (fun x x0 x1 => show zCpy (g 12) (g 72) 0 0 16 x = g 12 x from zCpy_in x0 x1) (fun x x0 x1 => show zCpy (g 13) (g 73) 0 0 16 x = g 13 x from zCpy_in x0 x1) (fun x x0 x1 => show zCpy (g 14) (g 74) 0 0 16 x = g 14 x from zCpy_in x0 x1)⟩
  repeat (first | exact zFr.rf _ _ | refine zFr.row ?_ (by decide) _ | refine zFr.set ?_ (by decide) _ _)
set_option maxRecDepth 100000 in
set_option maxHeartbeats 2000000 in
theorem c_X4_copyFrom_75_3 (g : ZH) {r : Int → Int} (h16 : r 192 ≤ 16) (hS : StAt g 3 r) : ZC 2 mX4_copyFrom [.inr 75, .inr 3] g (fun _ g' => zFr [75, 76, 77, 78, 79, 80, 81, 82, 83, 84, 85, 86] g g' ∧ StAt g' 75 r) := by
  refine ZC.of (by decide +kernel) (Nat.le_of_ble_eq_true rfl) ?_
  refine ZW.aload_n dX4_copyFrom_0 rfl ?_
  refine ZW.getR dX4_copyFrom_1 fl_X4_9 ⟨_, rfl, rfl⟩ ?_
  refine ZW.iconst dX4_copyFrom_4 ?_
  refine ZW.aload_n dX4_copyFrom_5 rfl ?_
  refine ZW.getR dX4_copyFrom_6 fl_X4_9 ⟨_, rfl, rfl⟩ ?_
  refine ZW.iconst dX4_copyFrom_9 ?_
  refine ZW.bipush dX4_copyFrom_10 rfl ?_
  refine ZW.copy dX4_copyFrom_12 (mmW_2 48 rfl rfl) (mmW_2 50 rfl rfl) (mmW_2 49 rfl rfl) (mmW_1 11 rfl rfl) rfl rfl (by decide) (by omega) (by decide) (Nat.le_of_ble_eq_true rfl) ?_
  refine ZW.aload_n dX4_copyFrom_15 rfl ?_
  refine ZW.getR dX4_copyFrom_16 fl_X4_15 ⟨_, rfl, rfl⟩ ?_
  refine ZW.iconst dX4_copyFrom_19 ?_
  refine ZW.aload_n dX4_copyFrom_20 rfl ?_
  refine ZW.getR dX4_copyFrom_21 fl_X4_15 ⟨_, rfl, rfl⟩ ?_
  refine ZW.iconst dX4_copyFrom_24 ?_
  refine ZW.bipush dX4_copyFrom_25 rfl ?_
  refine ZW.copy dX4_copyFrom_27 (mmW_2 48 rfl rfl) (mmW_2 50 rfl rfl) (mmW_2 49 rfl rfl) (mmW_1 11 rfl rfl) rfl rfl (by decide) (by omega) (by decide) (Nat.le_of_ble_eq_true rfl) ?_
  refine ZW.aload_n dX4_copyFrom_30 rfl ?_
  refine ZW.getR dX4_copyFrom_31 fl_X4_18 ⟨_, rfl, rfl⟩ ?_
  refine ZW.iconst dX4_copyFrom_34 ?_
  refine ZW.aload_n dX4_copyFrom_35 rfl ?_
  refine ZW.getR dX4_copyFrom_36 fl_X4_18 ⟨_, rfl, rfl⟩ ?_
  refine ZW.iconst dX4_copyFrom_39 ?_
  refine ZW.bipush dX4_copyFrom_40 rfl ?_
  refine ZW.copy dX4_copyFrom_42 (mmW_2 48 rfl rfl) (mmW_2 50 rfl rfl) (mmW_2 49 rfl rfl) (mmW_1 11 rfl rfl) rfl rfl (by decide) (by omega) (by decide) (Nat.le_of_ble_eq_true rfl) ?_
  refine ZW.aload_n dX4_copyFrom_45 rfl ?_
  refine ZW.getR dX4_copyFrom_46 fl_X4_21 ⟨_, rfl, rfl⟩ ?_
  refine ZW.iconst dX4_copyFrom_49 ?_
  refine ZW.aload_n dX4_copyFrom_50 rfl ?_
  refine ZW.getR dX4_copyFrom_51 fl_X4_21 ⟨_, rfl, rfl⟩ ?_
  refine ZW.iconst dX4_copyFrom_54 ?_
  refine ZW.bipush dX4_copyFrom_55 rfl ?_
  refine ZW.copy dX4_copyFrom_57 (mmW_2 48 rfl rfl) (mmW_2 50 rfl rfl) (mmW_2 49 rfl rfl) (mmW_1 11 rfl rfl) rfl rfl (by decide) (by omega) (by decide) (Nat.le_of_ble_eq_true rfl) ?_
  refine ZW.aload_n dX4_copyFrom_60 rfl ?_
  refine ZW.getR dX4_copyFrom_61 fl_X4_24 ⟨_, rfl, rfl⟩ ?_
  refine ZW.iconst dX4_copyFrom_64 ?_
  refine ZW.aload_n dX4_copyFrom_65 rfl ?_
  refine ZW.getR dX4_copyFrom_66 fl_X4_24 ⟨_, rfl, rfl⟩ ?_
  refine ZW.iconst dX4_copyFrom_69 ?_
  refine ZW.iconst dX4_copyFrom_70 ?_
  refine ZW.copy dX4_copyFrom_71 (mmW_2 48 rfl rfl) (mmW_2 50 rfl rfl) (mmW_2 49 rfl rfl) (mmW_1 11 rfl rfl) rfl rfl (by decide) (by omega) (by decide) (Nat.le_of_ble_eq_true rfl) ?_
  refine ZW.aload_n dX4_copyFrom_74 rfl ?_
  refine ZW.aload_n dX4_copyFrom_75 rfl ?_
  refine ZW.getI (fz := 6) dX4_copyFrom_76 fl_X4_61 ⟨_, rfl, rfl⟩ rfl rfl ?_
  refine ZW.puti (fz := 6) dX4_copyFrom_79 fp_X4_61 ⟨_, rfl, rfl⟩ rfl ?_
  refine ZW.aload_n dX4_copyFrom_82 rfl ?_
  refine ZW.getR dX4_copyFrom_83 fl_X4_27 ⟨_, rfl, rfl⟩ ?_
  refine ZW.iconst dX4_copyFrom_86 ?_
  refine ZW.aload_n dX4_copyFrom_87 rfl ?_
  refine ZW.getR dX4_copyFrom_88 fl_X4_27 ⟨_, rfl, rfl⟩ ?_
  refine ZW.iconst dX4_copyFrom_91 ?_
  refine ZW.bipush dX4_copyFrom_92 rfl ?_
  refine ZW.copy dX4_copyFrom_94 (mmW_2 48 rfl rfl) (mmW_2 50 rfl rfl) (mmW_2 49 rfl rfl) (mmW_1 11 rfl rfl) rfl rfl (by decide) (by omega) (by decide) (Nat.le_of_ble_eq_true rfl) ?_
  refine ZW.aload_n dX4_copyFrom_97 rfl ?_
  refine ZW.getR dX4_copyFrom_98 fl_X4_30 ⟨_, rfl, rfl⟩ ?_
  refine ZW.iconst dX4_copyFrom_101 ?_
  refine ZW.aload_n dX4_copyFrom_102 rfl ?_
  refine ZW.getR dX4_copyFrom_103 fl_X4_30 ⟨_, rfl, rfl⟩ ?_
  refine ZW.iconst dX4_copyFrom_106 ?_
  refine ZW.bipush dX4_copyFrom_107 rfl ?_
  refine ZW.copy dX4_copyFrom_109 (mmW_2 48 rfl rfl) (mmW_2 50 rfl rfl) (mmW_2 49 rfl rfl) (mmW_1 11 rfl rfl) rfl rfl (by decide) (by omega) (by decide) (Nat.le_of_ble_eq_true rfl) ?_
  refine ZW.aload_n dX4_copyFrom_112 rfl ?_
  refine ZW.getR dX4_copyFrom_113 fl_X4_33 ⟨_, rfl, rfl⟩ ?_
  refine ZW.iconst dX4_copyFrom_116 ?_
  refine ZW.aload_n dX4_copyFrom_117 rfl ?_
  refine ZW.getR dX4_copyFrom_118 fl_X4_33 ⟨_, rfl, rfl⟩ ?_
  refine ZW.iconst dX4_copyFrom_121 ?_
  refine ZW.bipush dX4_copyFrom_122 rfl ?_
  refine ZW.copy dX4_copyFrom_124 (mmW_2 48 rfl rfl) (mmW_2 50 rfl rfl) (mmW_2 49 rfl rfl) (mmW_1 11 rfl rfl) rfl rfl (by decide) (by omega) (by decide) (Nat.le_of_ble_eq_true rfl) ?_
  refine ZW.aload_n dX4_copyFrom_127 rfl ?_
  refine ZW.getR dX4_copyFrom_128 fl_X4_36 ⟨_, rfl, rfl⟩ ?_
  refine ZW.iconst dX4_copyFrom_131 ?_
  refine ZW.aload_n dX4_copyFrom_132 rfl ?_
  refine ZW.getR dX4_copyFrom_133 fl_X4_36 ⟨_, rfl, rfl⟩ ?_
  refine ZW.iconst dX4_copyFrom_136 ?_
  refine ZW.bipush dX4_copyFrom_137 rfl ?_
  refine ZW.copy dX4_copyFrom_139 (mmW_2 48 rfl rfl) (mmW_2 50 rfl rfl) (mmW_2 49 rfl rfl) (mmW_1 11 rfl rfl) rfl rfl (by decide) (by omega) (by decide) (Nat.le_of_ble_eq_true rfl) ?_
  refine ZW.aload_n dX4_copyFrom_142 rfl ?_
  refine ZW.getR dX4_copyFrom_143 fl_X4_39 ⟨_, rfl, rfl⟩ ?_
  refine ZW.iconst dX4_copyFrom_146 ?_
  refine ZW.aload_n dX4_copyFrom_147 rfl ?_
  refine ZW.getR dX4_copyFrom_148 fl_X4_39 ⟨_, rfl, rfl⟩ ?_
  refine ZW.iconst dX4_copyFrom_151 ?_
  refine ZW.bipush dX4_copyFrom_152 rfl ?_
  refine ZW.copy dX4_copyFrom_154 (mmW_2 48 rfl rfl) (mmW_2 50 rfl rfl) (mmW_2 49 rfl rfl) (mmW_1 11 rfl rfl) rfl rfl (by decide) (by omega) (by decide) (Nat.le_of_ble_eq_true rfl) ?_
  refine ZW.aload_n dX4_copyFrom_157 rfl ?_
  refine ZW.getR dX4_copyFrom_158 fl_X4_42 ⟨_, rfl, rfl⟩ ?_
  refine ZW.iconst dX4_copyFrom_161 ?_
  refine ZW.aload_n dX4_copyFrom_162 rfl ?_
  refine ZW.getR dX4_copyFrom_163 fl_X4_42 ⟨_, rfl, rfl⟩ ?_
  refine ZW.iconst dX4_copyFrom_166 ?_
  refine ZW.bipush dX4_copyFrom_167 rfl ?_
  refine ZW.copy dX4_copyFrom_169 (mmW_2 48 rfl rfl) (mmW_2 50 rfl rfl) (mmW_2 49 rfl rfl) (mmW_1 11 rfl rfl) rfl rfl (by decide) (by omega) (by decide) (Nat.le_of_ble_eq_true rfl) ?_
  refine ZW.aload_n dX4_copyFrom_172 rfl ?_
  refine ZW.aload_n dX4_copyFrom_173 rfl ?_
  refine ZW.getI (fz := 13) dX4_copyFrom_174 fl_X4_65 ⟨_, rfl, rfl⟩ rfl rfl ?_
  refine ZW.puti (fz := 13) dX4_copyFrom_177 fp_X4_65 ⟨_, rfl, rfl⟩ rfl ?_
  refine ZW.vret dX4_copyFrom_180 rfl ?_
  refine ⟨?_, StF.copy hS h16 ⟨rfl, rfl⟩ (fun x x0 x1 => show zCpy (g 4) (g 76) 0 0 63 x = g 4 x from zCpy_in x0 x1) (fun x x0 x1 => show zCpy (g 5) (g 77) 0 0 63 x = g 5 x from zCpy_in x0 x1) (fun x x0 x1 => show zCpy (g 6) (g 78) 0 0 63 x = g 6 x from zCpy_in x0 x1) (fun x x0 x1 => show zCpy (g 7) (g 79) 0 0 63 x = g 7 x from zCpy_in x0 x1) (fun x x0 x1 => show zCpy (g 8) (g 80) 0 0 2 x = g 8 x from zCpy_in x0 x1) (fun x x0 x1 => show zCpy (g 9) (g 81) 0 0 16 x = g 9 x from zCpy_in x0 x1) (fun x x0 x1 => show zCpy (g 10) (g 82) 0 0 16 x = g 10 x from zCpy_in x0 x1) (fun x x0 x1 => show zCpy (g 11) (g 83) 0 0 16 x = g 11 x from zCpy_in x0 x1) (fun x x0 x1 => show zCpy (g 12) (g 84) 0 0 16 x = g 12 x from zCpy_in x0 x1) (fun x x0 x1 => show zCpy (g 13) (g 85) 0 0 16 x = g 13 x from zCpy_in x0 x1) (fun x x0 x1 => show zCpy (g 14) (g 86) 0 0 16 x = g 14 x from zCpy_in x0 x1)⟩
  repeat (first | exact zFr.rf _ _ | refine zFr.row ?_ (by decide) _ | refine zFr.set ?_ (by decide) _ _)
set_option maxRecDepth 100000 in
set_option maxHeartbeats 2000000 in
theorem c_X4_copyFrom_39_15 (g : ZH) {r : Int → Int} (h16 : r 192 ≤ 16) (hS : StAt g 15 r) : ZC 2 mX4_copyFrom [.inr 39, .inr 15] g (fun _ g' => zFr [39, 40, 41, 42, 43, 44, 45, 46, 47, 48, 49, 50] g g' ∧ StAt g' 39 r) := by
  refine ZC.of (by decide +kernel) (Nat.le_of_ble_eq_true rfl) ?_
  refine ZW.aload_n dX4_copyFrom_0 rfl ?_
  refine ZW.getR dX4_copyFrom_1 fl_X4_9 ⟨_, rfl, rfl⟩ ?_
  refine ZW.iconst dX4_copyFrom_4 ?_
  refine ZW.aload_n dX4_copyFrom_5 rfl ?_
  refine ZW.getR dX4_copyFrom_6 fl_X4_9 ⟨_, rfl, rfl⟩ ?_
  refine ZW.iconst dX4_copyFrom_9 ?_
  refine ZW.bipush dX4_copyFrom_10 rfl ?_
  refine ZW.copy dX4_copyFrom_12 (mmW_2 48 rfl rfl) (mmW_2 50 rfl rfl) (mmW_2 49 rfl rfl) (mmW_1 11 rfl rfl) rfl rfl (by decide) (by omega) (by decide) (Nat.le_of_ble_eq_true rfl) ?_
  refine ZW.aload_n dX4_copyFrom_15 rfl ?_
  refine ZW.getR dX4_copyFrom_16 fl_X4_15 ⟨_, rfl, rfl⟩ ?_
  refine ZW.iconst dX4_copyFrom_19 ?_
  refine ZW.aload_n dX4_copyFrom_20 rfl ?_
  refine ZW.getR dX4_copyFrom_21 fl_X4_15 ⟨_, rfl, rfl⟩ ?_
  refine ZW.iconst dX4_copyFrom_24 ?_
  refine ZW.bipush dX4_copyFrom_25 rfl ?_
  refine ZW.copy dX4_copyFrom_27 (mmW_2 48 rfl rfl) (mmW_2 50 rfl rfl) (mmW_2 49 rfl rfl) (mmW_1 11 rfl rfl) rfl rfl (by decide) (by omega) (by decide) (Nat.le_of_ble_eq_true rfl) ?_
  refine ZW.aload_n dX4_copyFrom_30 rfl ?_
  refine ZW.getR dX4_copyFrom_31 fl_X4_18 ⟨_, rfl, rfl⟩ ?_
  refine ZW.iconst dX4_copyFrom_34 ?_
  refine ZW.aload_n dX4_copyFrom_35 rfl ?_
  refine ZW.getR dX4_copyFrom_36 fl_X4_18 ⟨_, rfl, rfl⟩ ?_
  refine ZW.iconst dX4_copyFrom_39 ?_
  refine ZW.bipush dX4_copyFrom_40 rfl ?_
  refine ZW.copy dX4_copyFrom_42 (mmW_2 48 rfl rfl) (mmW_2 50 rfl rfl) (mmW_2 49 rfl rfl) (mmW_1 11 rfl rfl) rfl rfl (by decide) (by omega) (by decide) (Nat.le_of_ble_eq_true rfl) ?_
  refine ZW.aload_n dX4_copyFrom_45 rfl ?_
  refine ZW.getR dX4_copyFrom_46 fl_X4_21 ⟨_, rfl, rfl⟩ ?_
  refine ZW.iconst dX4_copyFrom_49 ?_
  refine ZW.aload_n dX4_copyFrom_50 rfl ?_
  refine ZW.getR dX4_copyFrom_51 fl_X4_21 ⟨_, rfl, rfl⟩ ?_
  refine ZW.iconst dX4_copyFrom_54 ?_
  refine ZW.bipush dX4_copyFrom_55 rfl ?_
  refine ZW.copy dX4_copyFrom_57 (mmW_2 48 rfl rfl) (mmW_2 50 rfl rfl) (mmW_2 49 rfl rfl) (mmW_1 11 rfl rfl) rfl rfl (by decide) (by omega) (by decide) (Nat.le_of_ble_eq_true rfl) ?_
  refine ZW.aload_n dX4_copyFrom_60 rfl ?_
  refine ZW.getR dX4_copyFrom_61 fl_X4_24 ⟨_, rfl, rfl⟩ ?_
  refine ZW.iconst dX4_copyFrom_64 ?_
  refine ZW.aload_n dX4_copyFrom_65 rfl ?_
  refine ZW.getR dX4_copyFrom_66 fl_X4_24 ⟨_, rfl, rfl⟩ ?_
  refine ZW.iconst dX4_copyFrom_69 ?_
  refine ZW.iconst dX4_copyFrom_70 ?_
  refine ZW.copy dX4_copyFrom_71 (mmW_2 48 rfl rfl) (mmW_2 50 rfl rfl) (mmW_2 49 rfl rfl) (mmW_1 11 rfl rfl) rfl rfl (by decide) (by omega) (by decide) (Nat.le_of_ble_eq_true rfl) ?_
  refine ZW.aload_n dX4_copyFrom_74 rfl ?_
  refine ZW.aload_n dX4_copyFrom_75 rfl ?_
  refine ZW.getI (fz := 6) dX4_copyFrom_76 fl_X4_61 ⟨_, rfl, rfl⟩ rfl rfl ?_
  refine ZW.puti (fz := 6) dX4_copyFrom_79 fp_X4_61 ⟨_, rfl, rfl⟩ rfl ?_
  refine ZW.aload_n dX4_copyFrom_82 rfl ?_
  refine ZW.getR dX4_copyFrom_83 fl_X4_27 ⟨_, rfl, rfl⟩ ?_
  refine ZW.iconst dX4_copyFrom_86 ?_
  refine ZW.aload_n dX4_copyFrom_87 rfl ?_
  refine ZW.getR dX4_copyFrom_88 fl_X4_27 ⟨_, rfl, rfl⟩ ?_
  refine ZW.iconst dX4_copyFrom_91 ?_
  refine ZW.bipush dX4_copyFrom_92 rfl ?_
  refine ZW.copy dX4_copyFrom_94 (mmW_2 48 rfl rfl) (mmW_2 50 rfl rfl) (mmW_2 49 rfl rfl) (mmW_1 11 rfl rfl) rfl rfl (by decide) (by omega) (by decide) (Nat.le_of_ble_eq_true rfl) ?_
  refine ZW.aload_n dX4_copyFrom_97 rfl ?_
  refine ZW.getR dX4_copyFrom_98 fl_X4_30 ⟨_, rfl, rfl⟩ ?_
  refine ZW.iconst dX4_copyFrom_101 ?_
  refine ZW.aload_n dX4_copyFrom_102 rfl ?_
  refine ZW.getR dX4_copyFrom_103 fl_X4_30 ⟨_, rfl, rfl⟩ ?_
  refine ZW.iconst dX4_copyFrom_106 ?_
  refine ZW.bipush dX4_copyFrom_107 rfl ?_
  refine ZW.copy dX4_copyFrom_109 (mmW_2 48 rfl rfl) (mmW_2 50 rfl rfl) (mmW_2 49 rfl rfl) (mmW_1 11 rfl rfl) rfl rfl (by decide) (by omega) (by decide) (Nat.le_of_ble_eq_true rfl) ?_
  refine ZW.aload_n dX4_copyFrom_112 rfl ?_
  refine ZW.getR dX4_copyFrom_113 fl_X4_33 ⟨_, rfl, rfl⟩ ?_
  refine ZW.iconst dX4_copyFrom_116 ?_
  refine ZW.aload_n dX4_copyFrom_117 rfl ?_
  refine ZW.getR dX4_copyFrom_118 fl_X4_33 ⟨_, rfl, rfl⟩ ?_
  refine ZW.iconst dX4_copyFrom_121 ?_
  refine ZW.bipush dX4_copyFrom_122 rfl ?_
  refine ZW.copy dX4_copyFrom_124 (mmW_2 48 rfl rfl) (mmW_2 50 rfl rfl) (mmW_2 49 rfl rfl) (mmW_1 11 rfl rfl) rfl rfl (by decide) (by omega) (by decide) (Nat.le_of_ble_eq_true rfl) ?_
  refine ZW.aload_n dX4_copyFrom_127 rfl ?_
  refine ZW.getR dX4_copyFrom_128 fl_X4_36 ⟨_, rfl, rfl⟩ ?_
  refine ZW.iconst dX4_copyFrom_131 ?_
  refine ZW.aload_n dX4_copyFrom_132 rfl ?_
  refine ZW.getR dX4_copyFrom_133 fl_X4_36 ⟨_, rfl, rfl⟩ ?_
  refine ZW.iconst dX4_copyFrom_136 ?_
  refine ZW.bipush dX4_copyFrom_137 rfl ?_
  refine ZW.copy dX4_copyFrom_139 (mmW_2 48 rfl rfl) (mmW_2 50 rfl rfl) (mmW_2 49 rfl rfl) (mmW_1 11 rfl rfl) rfl rfl (by decide) (by omega) (by decide) (Nat.le_of_ble_eq_true rfl) ?_
  refine ZW.aload_n dX4_copyFrom_142 rfl ?_
  refine ZW.getR dX4_copyFrom_143 fl_X4_39 ⟨_, rfl, rfl⟩ ?_
  refine ZW.iconst dX4_copyFrom_146 ?_
  refine ZW.aload_n dX4_copyFrom_147 rfl ?_
  refine ZW.getR dX4_copyFrom_148 fl_X4_39 ⟨_, rfl, rfl⟩ ?_
  refine ZW.iconst dX4_copyFrom_151 ?_
  refine ZW.bipush dX4_copyFrom_152 rfl ?_
  refine ZW.copy dX4_copyFrom_154 (mmW_2 48 rfl rfl) (mmW_2 50 rfl rfl) (mmW_2 49 rfl rfl) (mmW_1 11 rfl rfl) rfl rfl (by decide) (by omega) (by decide) (Nat.le_of_ble_eq_true rfl) ?_
  refine ZW.aload_n dX4_copyFrom_157 rfl ?_
  refine ZW.getR dX4_copyFrom_158 fl_X4_42 ⟨_, rfl, rfl⟩ ?_
  refine ZW.iconst dX4_copyFrom_161 ?_
  refine ZW.aload_n dX4_copyFrom_162 rfl ?_
  refine ZW.getR dX4_copyFrom_163 fl_X4_42 ⟨_, rfl, rfl⟩ ?_
  refine ZW.iconst dX4_copyFrom_166 ?_
  refine ZW.bipush dX4_copyFrom_167 rfl ?_
  refine ZW.copy dX4_copyFrom_169 (mmW_2 48 rfl rfl) (mmW_2 50 rfl rfl) (mmW_2 49 rfl rfl) (mmW_1 11 rfl rfl) rfl rfl (by decide) (by omega) (by decide) (Nat.le_of_ble_eq_true rfl) ?_
  refine ZW.aload_n dX4_copyFrom_172 rfl ?_
  refine ZW.aload_n dX4_copyFrom_173 rfl ?_
  refine ZW.getI (fz := 13) dX4_copyFrom_174 fl_X4_65 ⟨_, rfl, rfl⟩ rfl rfl ?_
  refine ZW.puti (fz := 13) dX4_copyFrom_177 fp_X4_65 ⟨_, rfl, rfl⟩ rfl ?_
  refine ZW.vret dX4_copyFrom_180 rfl ?_
  refine ⟨?_, StF.copy hS h16 ⟨rfl, rfl⟩ (fun x x0 x1 => show zCpy (g 16) (g 40) 0 0 63 x = g 16 x from zCpy_in x0 x1) (fun x x0 x1 => show zCpy (g 17) (g 41) 0 0 63 x = g 17 x from zCpy_in x0 x1) (fun x x0 x1 => show zCpy (g 18) (g 42) 0 0 63 x = g 18 x from zCpy_in x0 x1) (fun x x0 x1 => show zCpy (g 19) (g 43) 0 0 63 x = g 19 x from zCpy_in x0 x1) (fun x x0 x1 => show zCpy (g 20) (g 44) 0 0 2 x = g 20 x from zCpy_in x0 x1) (fun x x0 x1 => show zCpy (g 21) (g 45) 0 0 16 x = g 21 x from zCpy_in x0 x1) (fun x x0 x1 => show zCpy (g 22) (g 46) 0 0 16 x = g 22 x from zCpy_in x0 x1) (fun x x0 x1 => show zCpy (g 23) (g 47) 0 0 16 x = g 23 x from zCpy_in x0 x1) (fun x x0 x1 => show zCpy (g 24) (g 48) 0 0 16 x = g 24 x from zCpy_in x0 x1) (fun x x0 x1 => show zCpy (g 25) (g 49) 0 0 16 x = g 25 x from zCpy_in x0 x1) (fun x x0 x1 => show zCpy (g 26) (g 50) 0 0 16 x = g 26 x from zCpy_in x0 x1)⟩
  repeat (first | exact zFr.rf _ _ | refine zFr.row ?_ (by decide) _ | refine zFr.set ?_ (by decide) _ _)
set_option maxRecDepth 100000 in
set_option maxHeartbeats 2000000 in
theorem c_X4_copyFrom_51_15 (g : ZH) {r : Int → Int} (h16 : r 192 ≤ 16) (hS : StAt g 15 r) : ZC 2 mX4_copyFrom [.inr 51, .inr 15] g (fun _ g' => zFr [51, 52, 53, 54, 55, 56, 57, 58, 59, 60, 61, 62] g g' ∧ StAt g' 51 r) := by
  refine ZC.of (by decide +kernel) (Nat.le_of_ble_eq_true rfl) ?_
  refine ZW.aload_n dX4_copyFrom_0 rfl ?_
  refine ZW.getR dX4_copyFrom_1 fl_X4_9 ⟨_, rfl, rfl⟩ ?_
  refine ZW.iconst dX4_copyFrom_4 ?_
  refine ZW.aload_n dX4_copyFrom_5 rfl ?_
  refine ZW.getR dX4_copyFrom_6 fl_X4_9 ⟨_, rfl, rfl⟩ ?_
  refine ZW.iconst dX4_copyFrom_9 ?_
  refine ZW.bipush dX4_copyFrom_10 rfl ?_
  refine ZW.copy dX4_copyFrom_12 (mmW_2 48 rfl rfl) (mmW_2 50 rfl rfl) (mmW_2 49 rfl rfl) (mmW_1 11 rfl rfl) rfl rfl (by decide) (by omega) (by decide) (Nat.le_of_ble_eq_true rfl) ?_
  refine ZW.aload_n dX4_copyFrom_15 rfl ?_
  refine ZW.getR dX4_copyFrom_16 fl_X4_15 ⟨_, rfl, rfl⟩ ?_
  refine ZW.iconst dX4_copyFrom_19 ?_
  refine ZW.aload_n dX4_copyFrom_20 rfl ?_
  refine ZW.getR dX4_copyFrom_21 fl_X4_15 ⟨_, rfl, rfl⟩ ?_
  refine ZW.iconst dX4_copyFrom_24 ?_
  refine ZW.bipush dX4_copyFrom_25 rfl ?_
  refine ZW.copy dX4_copyFrom_27 (mmW_2 48 rfl rfl) (mmW_2 50 rfl rfl) (mmW_2 49 rfl rfl) (mmW_1 11 rfl rfl) rfl rfl (by decide) (by omega) (by decide) (Nat.le_of_ble_eq_true rfl) ?_
  refine ZW.aload_n dX4_copyFrom_30 rfl ?_
  refine ZW.getR dX4_copyFrom_31 fl_X4_18 ⟨_, rfl, rfl⟩ ?_
  refine ZW.iconst dX4_copyFrom_34 ?_
  refine ZW.aload_n dX4_copyFrom_35 rfl ?_
  refine ZW.getR dX4_copyFrom_36 fl_X4_18 ⟨_, rfl, rfl⟩ ?_
  refine ZW.iconst dX4_copyFrom_39 ?_
  refine ZW.bipush dX4_copyFrom_40 rfl ?_
  refine ZW.copy dX4_copyFrom_42 (mmW_2 48 rfl rfl) (mmW_2 50 rfl rfl) (mmW_2 49 rfl rfl) (mmW_1 11 rfl rfl) rfl rfl (by decide) (by omega) (by decide) (Nat.le_of_ble_eq_true rfl) ?_
  refine ZW.aload_n dX4_copyFrom_45 rfl ?_
  refine ZW.getR dX4_copyFrom_46 fl_X4_21 ⟨_, rfl, rfl⟩ ?_
  refine ZW.iconst dX4_copyFrom_49 ?_
  refine ZW.aload_n dX4_copyFrom_50 rfl ?_
  refine ZW.getR dX4_copyFrom_51 fl_X4_21 ⟨_, rfl, rfl⟩ ?_
  refine ZW.iconst dX4_copyFrom_54 ?_
  refine ZW.bipush dX4_copyFrom_55 rfl ?_
  refine ZW.copy dX4_copyFrom_57 (mmW_2 48 rfl rfl) (mmW_2 50 rfl rfl) (mmW_2 49 rfl rfl) (mmW_1 11 rfl rfl) rfl rfl (by decide) (by omega) (by decide) (Nat.le_of_ble_eq_true rfl) ?_
  refine ZW.aload_n dX4_copyFrom_60 rfl ?_
  refine ZW.getR dX4_copyFrom_61 fl_X4_24 ⟨_, rfl, rfl⟩ ?_
  refine ZW.iconst dX4_copyFrom_64 ?_
  refine ZW.aload_n dX4_copyFrom_65 rfl ?_
  refine ZW.getR dX4_copyFrom_66 fl_X4_24 ⟨_, rfl, rfl⟩ ?_
  refine ZW.iconst dX4_copyFrom_69 ?_
  refine ZW.iconst dX4_copyFrom_70 ?_
  refine ZW.copy dX4_copyFrom_71 (mmW_2 48 rfl rfl) (mmW_2 50 rfl rfl) (mmW_2 49 rfl rfl) (mmW_1 11 rfl rfl) rfl rfl (by decide) (by omega) (by decide) (Nat.le_of_ble_eq_true rfl) ?_
  refine ZW.aload_n dX4_copyFrom_74 rfl ?_
  refine ZW.aload_n dX4_copyFrom_75 rfl ?_
  refine ZW.getI (fz := 6) dX4_copyFrom_76 fl_X4_61 ⟨_, rfl, rfl⟩ rfl rfl ?_
  refine ZW.puti (fz := 6) dX4_copyFrom_79 fp_X4_61 ⟨_, rfl, rfl⟩ rfl ?_
  refine ZW.aload_n dX4_copyFrom_82 rfl ?_
  refine ZW.getR dX4_copyFrom_83 fl_X4_27 ⟨_, rfl, rfl⟩ ?_
  refine ZW.iconst dX4_copyFrom_86 ?_
  refine ZW.aload_n dX4_copyFrom_87 rfl ?_
  refine ZW.getR dX4_copyFrom_88 fl_X4_27 ⟨_, rfl, rfl⟩ ?_
  refine ZW.iconst dX4_copyFrom_91 ?_
  refine ZW.bipush dX4_copyFrom_92 rfl ?_
  refine ZW.copy dX4_copyFrom_94 (mmW_2 48 rfl rfl) (mmW_2 50 rfl rfl) (mmW_2 49 rfl rfl) (mmW_1 11 rfl rfl) rfl rfl (by decide) (by omega) (by decide) (Nat.le_of_ble_eq_true rfl) ?_
  refine ZW.aload_n dX4_copyFrom_97 rfl ?_
  refine ZW.getR dX4_copyFrom_98 fl_X4_30 ⟨_, rfl, rfl⟩ ?_
  refine ZW.iconst dX4_copyFrom_101 ?_
  refine ZW.aload_n dX4_copyFrom_102 rfl ?_
  refine ZW.getR dX4_copyFrom_103 fl_X4_30 ⟨_, rfl, rfl⟩ ?_
  refine ZW.iconst dX4_copyFrom_106 ?_
  refine ZW.bipush dX4_copyFrom_107 rfl ?_
  refine ZW.copy dX4_copyFrom_109 (mmW_2 48 rfl rfl) (mmW_2 50 rfl rfl) (mmW_2 49 rfl rfl) (mmW_1 11 rfl rfl) rfl rfl (by decide) (by omega) (by decide) (Nat.le_of_ble_eq_true rfl) ?_
  refine ZW.aload_n dX4_copyFrom_112 rfl ?_
  refine ZW.getR dX4_copyFrom_113 fl_X4_33 ⟨_, rfl, rfl⟩ ?_
  refine ZW.iconst dX4_copyFrom_116 ?_
  refine ZW.aload_n dX4_copyFrom_117 rfl ?_
  refine ZW.getR dX4_copyFrom_118 fl_X4_33 ⟨_, rfl, rfl⟩ ?_
  refine ZW.iconst dX4_copyFrom_121 ?_
  refine ZW.bipush dX4_copyFrom_122 rfl ?_
  refine ZW.copy dX4_copyFrom_124 (mmW_2 48 rfl rfl) (mmW_2 50 rfl rfl) (mmW_2 49 rfl rfl) (mmW_1 11 rfl rfl) rfl rfl (by decide) (by omega) (by decide) (Nat.le_of_ble_eq_true rfl) ?_
  refine ZW.aload_n dX4_copyFrom_127 rfl ?_
  refine ZW.getR dX4_copyFrom_128 fl_X4_36 ⟨_, rfl, rfl⟩ ?_
  refine ZW.iconst dX4_copyFrom_131 ?_
  refine ZW.aload_n dX4_copyFrom_132 rfl ?_
  refine ZW.getR dX4_copyFrom_133 fl_X4_36 ⟨_, rfl, rfl⟩ ?_
  refine ZW.iconst dX4_copyFrom_136 ?_
  refine ZW.bipush dX4_copyFrom_137 rfl ?_
  refine ZW.copy dX4_copyFrom_139 (mmW_2 48 rfl rfl) (mmW_2 50 rfl rfl) (mmW_2 49 rfl rfl) (mmW_1 11 rfl rfl) rfl rfl (by decide) (by omega) (by decide) (Nat.le_of_ble_eq_true rfl) ?_
  refine ZW.aload_n dX4_copyFrom_142 rfl ?_
  refine ZW.getR dX4_copyFrom_143 fl_X4_39 ⟨_, rfl, rfl⟩ ?_
  refine ZW.iconst dX4_copyFrom_146 ?_
  refine ZW.aload_n dX4_copyFrom_147 rfl ?_
  refine ZW.getR dX4_copyFrom_148 fl_X4_39 ⟨_, rfl, rfl⟩ ?_
  refine ZW.iconst dX4_copyFrom_151 ?_
  refine ZW.bipush dX4_copyFrom_152 rfl ?_
  refine ZW.copy dX4_copyFrom_154 (mmW_2 48 rfl rfl) (mmW_2 50 rfl rfl) (mmW_2 49 rfl rfl) (mmW_1 11 rfl rfl) rfl rfl (by decide) (by omega) (by decide) (Nat.le_of_ble_eq_true rfl) ?_
  refine ZW.aload_n dX4_copyFrom_157 rfl ?_
  refine ZW.getR dX4_copyFrom_158 fl_X4_42 ⟨_, rfl, rfl⟩ ?_
  refine ZW.iconst dX4_copyFrom_161 ?_
  refine ZW.aload_n dX4_copyFrom_162 rfl ?_
  refine ZW.getR dX4_copyFrom_163 fl_X4_42 ⟨_, rfl, rfl⟩ ?_
  refine ZW.iconst dX4_copyFrom_166 ?_
  refine ZW.bipush dX4_copyFrom_167 rfl ?_
  refine ZW.copy dX4_copyFrom_169 (mmW_2 48 rfl rfl) (mmW_2 50 rfl rfl) (mmW_2 49 rfl rfl) (mmW_1 11 rfl rfl) rfl rfl (by decide) (by omega) (by decide) (Nat.le_of_ble_eq_true rfl) ?_
  refine ZW.aload_n dX4_copyFrom_172 rfl ?_
  refine ZW.aload_n dX4_copyFrom_173 rfl ?_
  refine ZW.getI (fz := 13) dX4_copyFrom_174 fl_X4_65 ⟨_, rfl, rfl⟩ rfl rfl ?_
  refine ZW.puti (fz := 13) dX4_copyFrom_177 fp_X4_65 ⟨_, rfl, rfl⟩ rfl ?_
  refine ZW.vret dX4_copyFrom_180 rfl ?_
  refine ⟨?_, StF.copy hS h16 ⟨rfl, rfl⟩ (fun x x0 x1 => show zCpy (g 16) (g 52) 0 0 63 x = g 16 x from zCpy_in x0 x1) (fun x x0 x1 => show zCpy (g 17) (g 53) 0 0 63 x = g 17 x from zCpy_in x0 x1) (fun x x0 x1 => show zCpy (g 18) (g 54) 0 0 63 x = g 18 x from zCpy_in x0 x1) (fun x x0 x1 => show zCpy (g 19) (g 55) 0 0 63 x = g 19 x from zCpy_in x0 x1) (fun x x0 x1 => show zCpy (g 20) (g 56) 0 0 2 x = g 20 x from zCpy_in x0 x1) (fun x x0 x1 => show zCpy (g 21) (g 57) 0 0 16 x = g 21 x from zCpy_in x0 x1) (fun x x0 x1 => show zCpy (g 22) (g 58) 0 0 16 x = g 22 x from zCpy_in x0 x1) (fun x x0 x1 => show zCpy (g 23) (g 59) 0 0 16 x = g 23 x from zCpy_in x0 x1) (fun x x0 x1 => show zCpy (g 24) (g 60) 0 0 16 x = g 24 x from zCpy_in x0 x1) (fun x x0 x1 => show zCpy (g 25) (g 61) 0 0 16 x = g 25 x from zCpy_in x0 x1) (fun x x0 x1 => show zCpy (g 26) (g 62) 0 0 16 x = g 26 x from zCpy_in x0 x1)⟩
  repeat (first | exact zFr.rf _ _ | refine zFr.row ?_ (by decide) _ | refine zFr.set ?_ (by decide) _ _)
set_option maxRecDepth 100000 in
set_option maxHeartbeats 2000000 in
theorem c_X4_copyFrom_63_15 (g : ZH) {r : Int → Int} (h16 : r 192 ≤ 16) (hS : StAt g 15 r) : ZC 2 mX4_copyFrom [.inr 63, .inr 15] g (fun _ g' => zFr [63, 64, 65, 66, 67, 68, 69, 70, 71, 72, 73, 74] g g' ∧ StAt g' 63 r) := by
  refine ZC.of (by decide +kernel) (Nat.le_of_ble_eq_true rfl) ?_
  refine ZW.aload_n dX4_copyFrom_0 rfl ?_
  refine ZW.getR dX4_copyFrom_1 fl_X4_9 ⟨_, rfl, rfl⟩ ?_
  refine ZW.iconst dX4_copyFrom_4 ?_
  refine ZW.aload_n dX4_copyFrom_5 rfl ?_
  refine ZW.getR dX4_copyFrom_6 fl_X4_9 ⟨_, rfl, rfl⟩ ?_
  refine ZW.iconst dX4_copyFrom_9 ?_
  refine ZW.bipush dX4_copyFrom_10 rfl ?_
  refine ZW.copy dX4_copyFrom_12 (mmW_2 48 rfl rfl) (mmW_2 50 rfl rfl) (mmW_2 49 rfl rfl) (mmW_1 11 rfl rfl) rfl rfl (by decide) (by omega) (by decide) (Nat.le_of_ble_eq_true rfl) ?_
  refine ZW.aload_n dX4_copyFrom_15 rfl ?_
  refine ZW.getR dX4_copyFrom_16 fl_X4_15 ⟨_, rfl, rfl⟩ ?_
  refine ZW.iconst dX4_copyFrom_19 ?_
  refine ZW.aload_n dX4_copyFrom_20 rfl ?_
  refine ZW.getR dX4_copyFrom_21 fl_X4_15 ⟨_, rfl, rfl⟩ ?_
  refine ZW.iconst dX4_copyFrom_24 ?_
  refine ZW.bipush dX4_copyFrom_25 rfl ?_
  refine ZW.copy dX4_copyFrom_27 (mmW_2 48 rfl rfl) (mmW_2 50 rfl rfl) (mmW_2 49 rfl rfl) (mmW_1 11 rfl rfl) rfl rfl (by decide) (by omega) (by decide) (Nat.le_of_ble_eq_true rfl) ?_
  refine ZW.aload_n dX4_copyFrom_30 rfl ?_
  refine ZW.getR dX4_copyFrom_31 fl_X4_18 ⟨_, rfl, rfl⟩ ?_
  refine ZW.iconst dX4_copyFrom_34 ?_
  refine ZW.aload_n dX4_copyFrom_35 rfl ?_
  refine ZW.getR dX4_copyFrom_36 fl_X4_18 ⟨_, rfl, rfl⟩ ?_
  refine ZW.iconst dX4_copyFrom_39 ?_
  refine ZW.bipush dX4_copyFrom_40 rfl ?_
  refine ZW.copy dX4_copyFrom_42 (mmW_2 48 rfl rfl) (mmW_2 50 rfl rfl) (mmW_2 49 rfl rfl) (mmW_1 11 rfl rfl) rfl rfl (by decide) (by omega) (by decide) (Nat.le_of_ble_eq_true rfl) ?_
  refine ZW.aload_n dX4_copyFrom_45 rfl ?_
  refine ZW.getR dX4_copyFrom_46 fl_X4_21 ⟨_, rfl, rfl⟩ ?_
  refine ZW.iconst dX4_copyFrom_49 ?_
  refine ZW.aload_n dX4_copyFrom_50 rfl ?_
  refine ZW.getR dX4_copyFrom_51 fl_X4_21 ⟨_, rfl, rfl⟩ ?_
  refine ZW.iconst dX4_copyFrom_54 ?_
  refine ZW.bipush dX4_copyFrom_55 rfl ?_
  refine ZW.copy dX4_copyFrom_57 (mmW_2 48 rfl rfl) (mmW_2 50 rfl rfl) (mmW_2 49 rfl rfl) (mmW_1 11 rfl rfl) rfl rfl (by decide) (by omega) (by decide) (Nat.le_of_ble_eq_true rfl) ?_
  refine ZW.aload_n dX4_copyFrom_60 rfl ?_
  refine ZW.getR dX4_copyFrom_61 fl_X4_24 ⟨_, rfl, rfl⟩ ?_
  refine ZW.iconst dX4_copyFrom_64 ?_
  refine ZW.aload_n dX4_copyFrom_65 rfl ?_
  refine ZW.getR dX4_copyFrom_66 fl_X4_24 ⟨_, rfl, rfl⟩ ?_
  refine ZW.iconst dX4_copyFrom_69 ?_
  refine ZW.iconst dX4_copyFrom_70 ?_
  refine ZW.copy dX4_copyFrom_71 (mmW_2 48 rfl rfl) (mmW_2 50 rfl rfl) (mmW_2 49 rfl rfl) (mmW_1 11 rfl rfl) rfl rfl (by decide) (by omega) (by decide) (Nat.le_of_ble_eq_true rfl) ?_
  refine ZW.aload_n dX4_copyFrom_74 rfl ?_
  refine ZW.aload_n dX4_copyFrom_75 rfl ?_
  refine ZW.getI (fz := 6) dX4_copyFrom_76 fl_X4_61 ⟨_, rfl, rfl⟩ rfl rfl ?_
  refine ZW.puti (fz := 6) dX4_copyFrom_79 fp_X4_61 ⟨_, rfl, rfl⟩ rfl ?_
  refine ZW.aload_n dX4_copyFrom_82 rfl ?_
  refine ZW.getR dX4_copyFrom_83 fl_X4_27 ⟨_, rfl, rfl⟩ ?_
  refine ZW.iconst dX4_copyFrom_86 ?_
  refine ZW.aload_n dX4_copyFrom_87 rfl ?_
  refine ZW.getR dX4_copyFrom_88 fl_X4_27 ⟨_, rfl, rfl⟩ ?_
  refine ZW.iconst dX4_copyFrom_91 ?_
  refine ZW.bipush dX4_copyFrom_92 rfl ?_
  refine ZW.copy dX4_copyFrom_94 (mmW_2 48 rfl rfl) (mmW_2 50 rfl rfl) (mmW_2 49 rfl rfl) (mmW_1 11 rfl rfl) rfl rfl (by decide) (by omega) (by decide) (Nat.le_of_ble_eq_true rfl) ?_
  refine ZW.aload_n dX4_copyFrom_97 rfl ?_
  refine ZW.getR dX4_copyFrom_98 fl_X4_30 ⟨_, rfl, rfl⟩ ?_
  refine ZW.iconst dX4_copyFrom_101 ?_
  refine ZW.aload_n dX4_copyFrom_102 rfl ?_
  refine ZW.getR dX4_copyFrom_103 fl_X4_30 ⟨_, rfl, rfl⟩ ?_
  refine ZW.iconst dX4_copyFrom_106 ?_
  refine ZW.bipush dX4_copyFrom_107 rfl ?_
  refine ZW.copy dX4_copyFrom_109 (mmW_2 48 rfl rfl) (mmW_2 50 rfl rfl) (mmW_2 49 rfl rfl) (mmW_1 11 rfl rfl) rfl rfl (by decide) (by omega) (by decide) (Nat.le_of_ble_eq_true rfl) ?_
  refine ZW.aload_n dX4_copyFrom_112 rfl ?_
  refine ZW.getR dX4_copyFrom_113 fl_X4_33 ⟨_, rfl, rfl⟩ ?_
  refine ZW.iconst dX4_copyFrom_116 ?_
  refine ZW.aload_n dX4_copyFrom_117 rfl ?_
  refine ZW.getR dX4_copyFrom_118 fl_X4_33 ⟨_, rfl, rfl⟩ ?_
  refine ZW.iconst dX4_copyFrom_121 ?_
  refine ZW.bipush dX4_copyFrom_122 rfl ?_
  refine ZW.copy dX4_copyFrom_124 (mmW_2 48 rfl rfl) (mmW_2 50 rfl rfl) (mmW_2 49 rfl rfl) (mmW_1 11 rfl rfl) rfl rfl (by decide) (by omega) (by decide) (Nat.le_of_ble_eq_true rfl) ?_
  refine ZW.aload_n dX4_copyFrom_127 rfl ?_
  refine ZW.getR dX4_copyFrom_128 fl_X4_36 ⟨_, rfl, rfl⟩ ?_
  refine ZW.iconst dX4_copyFrom_131 ?_
  refine ZW.aload_n dX4_copyFrom_132 rfl ?_
  refine ZW.getR dX4_copyFrom_133 fl_X4_36 ⟨_, rfl, rfl⟩ ?_
  refine ZW.iconst dX4_copyFrom_136 ?_
  refine ZW.bipush dX4_copyFrom_137 rfl ?_
  refine ZW.copy dX4_copyFrom_139 (mmW_2 48 rfl rfl) (mmW_2 50 rfl rfl) (mmW_2 49 rfl rfl) (mmW_1 11 rfl rfl) rfl rfl (by decide) (by omega) (by decide) (Nat.le_of_ble_eq_true rfl) ?_
  refine ZW.aload_n dX4_copyFrom_142 rfl ?_
  refine ZW.getR dX4_copyFrom_143 fl_X4_39 ⟨_, rfl, rfl⟩ ?_
  refine ZW.iconst dX4_copyFrom_146 ?_
  refine ZW.aload_n dX4_copyFrom_147 rfl ?_
  refine ZW.getR dX4_copyFrom_148 fl_X4_39 ⟨_, rfl, rfl⟩ ?_
  refine ZW.iconst dX4_copyFrom_151 ?_
  refine ZW.bipush dX4_copyFrom_152 rfl ?_
  refine ZW.copy dX4_copyFrom_154 (mmW_2 48 rfl rfl) (mmW_2 50 rfl rfl) (mmW_2 49 rfl rfl) (mmW_1 11 rfl rfl) rfl rfl (by decide) (by omega) (by decide) (Nat.le_of_ble_eq_true rfl) ?_
  refine ZW.aload_n dX4_copyFrom_157 rfl ?_
  refine ZW.getR dX4_copyFrom_158 fl_X4_42 ⟨_, rfl, rfl⟩ ?_
  refine ZW.iconst dX4_copyFrom_161 ?_
  refine ZW.aload_n dX4_copyFrom_162 rfl ?_
  refine ZW.getR dX4_copyFrom_163 fl_X4_42 ⟨_, rfl, rfl⟩ ?_
  refine ZW.iconst dX4_copyFrom_166 ?_
  refine ZW.bipush dX4_copyFrom_167 rfl ?_
  refine ZW.copy dX4_copyFrom_169 (mmW_2 48 rfl rfl) (mmW_2 50 rfl rfl) (mmW_2 49 rfl rfl) (mmW_1 11 rfl rfl) rfl rfl (by decide) (by omega) (by decide) (Nat.le_of_ble_eq_true rfl) ?_
  refine ZW.aload_n dX4_copyFrom_172 rfl ?_
  refine ZW.aload_n dX4_copyFrom_173 rfl ?_
  refine ZW.getI (fz := 13) dX4_copyFrom_174 fl_X4_65 ⟨_, rfl, rfl⟩ rfl rfl ?_
  refine ZW.puti (fz := 13) dX4_copyFrom_177 fp_X4_65 ⟨_, rfl, rfl⟩ rfl ?_
  refine ZW.vret dX4_copyFrom_180 rfl ?_
  refine ⟨?_, StF.copy hS h16 ⟨rfl, rfl⟩ (fun x x0 x1 => show zCpy (g 16) (g 64) 0 0 63 x = g 16 x from zCpy_in x0 x1) (fun x x0 x1 => show zCpy (g 17) (g 65) 0 0 63 x = g 17 x from zCpy_in x0 x1) (fun x x0 x1 => show zCpy (g 18) (g 66) 0 0 63 x = g 18 x from zCpy_in x0 x1) (fun x x0 x1 => show zCpy (g 19) (g 67) 0 0 63 x = g 19 x from zCpy_in x0 x1) (fun x x0 x1 => show zCpy (g 20) (g 68) 0 0 2 x = g 20 x from zCpy_in x0 x1) (fun x x0 x1 => show zCpy (g 21) (g 69) 0 0 16 x = g 21 x from zCpy_in x0 x1) (fun x x0 x1 => show zCpy (g 22) (g 70) 0 0 16 x = g 22 x from zCpy_in x0 x1) (fun x x0 x1 => show zCpy (g 23) (g 71) 0 0 16 x = g 23 x from zCpy_in x0 x1) (fun x x0 x1 => show zCpy (g 24) (g 72) 0 0 16 x = g 24 x from zCpy_in x0 x1) (fun x x0 x1 => show zCpy (g 25) (g 73) 0 0 16 x = g 25 x from zCpy_in x0 x1) (fun x x0 x1 => show zCpy (g 26) (g 74) 0 0 16 x = g 26 x from zCpy_in x0 x1)⟩
  repeat (first | exact zFr.rf _ _ | refine zFr.row ?_ (by decide) _ | refine zFr.set ?_ (by decide) _ _)
set_option maxRecDepth 100000 in
set_option maxHeartbeats 2000000 in
theorem c_X4_copyFrom_75_15 (g : ZH) {r : Int → Int} (h16 : r 192 ≤ 16) (hS : StAt g 15 r) : ZC 2 mX4_copyFrom [.inr 75, .inr 15] g (fun _ g' => zFr [75, 76, 77, 78, 79, 80, 81, 82, 83, 84, 85, 86] g g' ∧ StAt g' 75 r) := by
  refine ZC.of (by decide +kernel) (Nat.le_of_ble_eq_true rfl) ?_
  refine ZW.aload_n dX4_copyFrom_0 rfl ?_
  refine ZW.getR dX4_copyFrom_1 fl_X4_9 ⟨_, rfl, rfl⟩ ?_
  refine ZW.iconst dX4_copyFrom_4 ?_
  refine ZW.aload_n dX4_copyFrom_5 rfl ?_
  refine ZW.getR dX4_copyFrom_6 fl_X4_9 ⟨_, rfl, rfl⟩ ?_
  refine ZW.iconst dX4_copyFrom_9 ?_
  refine ZW.bipush dX4_copyFrom_10 rfl ?_
  refine ZW.copy dX4_copyFrom_12 (mmW_2 48 rfl rfl) (mmW_2 50 rfl rfl) (mmW_2 49 rfl rfl) (mmW_1 11 rfl rfl) rfl rfl (by decide) (by omega) (by decide) (Nat.le_of_ble_eq_true rfl) ?_
  refine ZW.aload_n dX4_copyFrom_15 rfl ?_
  refine ZW.getR dX4_copyFrom_16 fl_X4_15 ⟨_, rfl, rfl⟩ ?_
  refine ZW.iconst dX4_copyFrom_19 ?_
  refine ZW.aload_n dX4_copyFrom_20 rfl ?_
  refine ZW.getR dX4_copyFrom_21 fl_X4_15 ⟨_, rfl, rfl⟩ ?_
  refine ZW.iconst dX4_copyFrom_24 ?_
  refine ZW.bipush dX4_copyFrom_25 rfl ?_
  refine ZW.copy dX4_copyFrom_27 (mmW_2 48 rfl rfl) (mmW_2 50 rfl rfl) (mmW_2 49 rfl rfl) (mmW_1 11 rfl rfl) rfl rfl (by decide) (by omega) (by decide) (Nat.le_of_ble_eq_true rfl) ?_
  refine ZW.aload_n dX4_copyFrom_30 rfl ?_
  refine ZW.getR dX4_copyFrom_31 fl_X4_18 ⟨_, rfl, rfl⟩ ?_
  refine ZW.iconst dX4_copyFrom_34 ?_
  refine ZW.aload_n dX4_copyFrom_35 rfl ?_
  refine ZW.getR dX4_copyFrom_36 fl_X4_18 ⟨_, rfl, rfl⟩ ?_
  refine ZW.iconst dX4_copyFrom_39 ?_
  refine ZW.bipush dX4_copyFrom_40 rfl ?_
  refine ZW.copy dX4_copyFrom_42 (mmW_2 48 rfl rfl) (mmW_2 50 rfl rfl) (mmW_2 49 rfl rfl) (mmW_1 11 rfl rfl) rfl rfl (by decide) (by omega) (by decide) (Nat.le_of_ble_eq_true rfl) ?_
  refine ZW.aload_n dX4_copyFrom_45 rfl ?_
  refine ZW.getR dX4_copyFrom_46 fl_X4_21 ⟨_, rfl, rfl⟩ ?_
  refine ZW.iconst dX4_copyFrom_49 ?_
  refine ZW.aload_n dX4_copyFrom_50 rfl ?_
  refine ZW.getR dX4_copyFrom_51 fl_X4_21 ⟨_, rfl, rfl⟩ ?_
  refine ZW.iconst dX4_copyFrom_54 ?_
  refine ZW.bipush dX4_copyFrom_55 rfl ?_
  refine ZW.copy dX4_copyFrom_57 (mmW_2 48 rfl rfl) (mmW_2 50 rfl rfl) (mmW_2 49 rfl rfl) (mmW_1 11 rfl rfl) rfl rfl (by decide) (by omega) (by decide) (Nat.le_of_ble_eq_true rfl) ?_
  refine ZW.aload_n dX4_copyFrom_60 rfl ?_
  refine ZW.getR dX4_copyFrom_61 fl_X4_24 ⟨_, rfl, rfl⟩ ?_
  refine ZW.iconst dX4_copyFrom_64 ?_
  refine ZW.aload_n dX4_copyFrom_65 rfl ?_
  refine ZW.getR dX4_copyFrom_66 fl_X4_24 ⟨_, rfl, rfl⟩ ?_
  refine ZW.iconst dX4_copyFrom_69 ?_
  refine ZW.iconst dX4_copyFrom_70 ?_
  refine ZW.copy dX4_copyFrom_71 (mmW_2 48 rfl rfl) (mmW_2 50 rfl rfl) (mmW_2 49 rfl rfl) (mmW_1 11 rfl rfl) rfl rfl (by decide) (by omega) (by decide) (Nat.le_of_ble_eq_true rfl) ?_
  refine ZW.aload_n dX4_copyFrom_74 rfl ?_
  refine ZW.aload_n dX4_copyFrom_75 rfl ?_
  refine ZW.getI (fz := 6) dX4_copyFrom_76 fl_X4_61 ⟨_, rfl, rfl⟩ rfl rfl ?_
  refine ZW.puti (fz := 6) dX4_copyFrom_79 fp_X4_61 ⟨_, rfl, rfl⟩ rfl ?_
  refine ZW.aload_n dX4_copyFrom_82 rfl ?_
  refine ZW.getR dX4_copyFrom_83 fl_X4_27 ⟨_, rfl, rfl⟩ ?_
  refine ZW.iconst dX4_copyFrom_86 ?_
  refine ZW.aload_n dX4_copyFrom_87 rfl ?_
  refine ZW.getR dX4_copyFrom_88 fl_X4_27 ⟨_, rfl, rfl⟩ ?_
  refine ZW.iconst dX4_copyFrom_91 ?_
  refine ZW.bipush dX4_copyFrom_92 rfl ?_
  refine ZW.copy dX4_copyFrom_94 (mmW_2 48 rfl rfl) (mmW_2 50 rfl rfl) (mmW_2 49 rfl rfl) (mmW_1 11 rfl rfl) rfl rfl (by decide) (by omega) (by decide) (Nat.le_of_ble_eq_true rfl) ?_
  refine ZW.aload_n dX4_copyFrom_97 rfl ?_
  refine ZW.getR dX4_copyFrom_98 fl_X4_30 ⟨_, rfl, rfl⟩ ?_
  refine ZW.iconst dX4_copyFrom_101 ?_
  refine ZW.aload_n dX4_copyFrom_102 rfl ?_
  refine ZW.getR dX4_copyFrom_103 fl_X4_30 ⟨_, rfl, rfl⟩ ?_
  refine ZW.iconst dX4_copyFrom_106 ?_
  refine ZW.bipush dX4_copyFrom_107 rfl ?_
  refine ZW.copy dX4_copyFrom_109 (mmW_2 48 rfl rfl) (mmW_2 50 rfl rfl) (mmW_2 49 rfl rfl) (mmW_1 11 rfl rfl) rfl rfl (by decide) (by omega) (by decide) (Nat.le_of_ble_eq_true rfl) ?_
  refine ZW.aload_n dX4_copyFrom_112 rfl ?_
  refine ZW.getR dX4_copyFrom_113 fl_X4_33 ⟨_, rfl, rfl⟩ ?_
  refine ZW.iconst dX4_copyFrom_116 ?_
  refine ZW.aload_n dX4_copyFrom_117 rfl ?_
  refine ZW.getR dX4_copyFrom_118 fl_X4_33 ⟨_, rfl, rfl⟩ ?_
  refine ZW.iconst dX4_copyFrom_121 ?_
  refine ZW.bipush dX4_copyFrom_122 rfl ?_
  refine ZW.copy dX4_copyFrom_124 (mmW_2 48 rfl rfl) (mmW_2 50 rfl rfl) (mmW_2 49 rfl rfl) (mmW_1 11 rfl rfl) rfl rfl (by decide) (by omega) (by decide) (Nat.le_of_ble_eq_true rfl) ?_
  refine ZW.aload_n dX4_copyFrom_127 rfl ?_
  refine ZW.getR dX4_copyFrom_128 fl_X4_36 ⟨_, rfl, rfl⟩ ?_
  refine ZW.iconst dX4_copyFrom_131 ?_
  refine ZW.aload_n dX4_copyFrom_132 rfl ?_
  refine ZW.getR dX4_copyFrom_133 fl_X4_36 ⟨_, rfl, rfl⟩ ?_
  refine ZW.iconst dX4_copyFrom_136 ?_
  refine ZW.bipush dX4_copyFrom_137 rfl ?_
  refine ZW.copy dX4_copyFrom_139 (mmW_2 48 rfl rfl) (mmW_2 50 rfl rfl) (mmW_2 49 rfl rfl) (mmW_1 11 rfl rfl) rfl rfl (by decide) (by omega) (by decide) (Nat.le_of_ble_eq_true rfl) ?_
  refine ZW.aload_n dX4_copyFrom_142 rfl ?_
  refine ZW.getR dX4_copyFrom_143 fl_X4_39 ⟨_, rfl, rfl⟩ ?_
  refine ZW.iconst dX4_copyFrom_146 ?_
  refine ZW.aload_n dX4_copyFrom_147 rfl ?_
  refine ZW.getR dX4_copyFrom_148 fl_X4_39 ⟨_, rfl, rfl⟩ ?_
  refine ZW.iconst dX4_copyFrom_151 ?_
  refine ZW.bipush dX4_copyFrom_152 rfl ?_
  refine ZW.copy dX4_copyFrom_154 (mmW_2 48 rfl rfl) (mmW_2 50 rfl rfl) (mmW_2 49 rfl rfl) (mmW_1 11 rfl rfl) rfl rfl (by decide) (by omega) (by decide) (Nat.le_of_ble_eq_true rfl) ?_
  refine ZW.aload_n dX4_copyFrom_157 rfl ?_
  refine ZW.getR dX4_copyFrom_158 fl_X4_42 ⟨_, rfl, rfl⟩ ?_
  refine ZW.iconst dX4_copyFrom_161 ?_
  refine ZW.aload_n dX4_copyFrom_162 rfl ?_
  refine ZW.getR dX4_copyFrom_163 fl_X4_42 ⟨_, rfl, rfl⟩ ?_
  refine ZW.iconst dX4_copyFrom_166 ?_
  refine ZW.bipush dX4_copyFrom_167 rfl ?_
  refine ZW.copy dX4_copyFrom_169 (mmW_2 48 rfl rfl) (mmW_2 50 rfl rfl) (mmW_2 49 rfl rfl) (mmW_1 11 rfl rfl) rfl rfl (by decide) (by omega) (by decide) (Nat.le_of_ble_eq_true rfl) ?_
  refine ZW.aload_n dX4_copyFrom_172 rfl ?_
  refine ZW.aload_n dX4_copyFrom_173 rfl ?_
  refine ZW.getI (fz := 13) dX4_copyFrom_174 fl_X4_65 ⟨_, rfl, rfl⟩ rfl rfl ?_
  refine ZW.puti (fz := 13) dX4_copyFrom_177 fp_X4_65 ⟨_, rfl, rfl⟩ rfl ?_
  refine ZW.vret dX4_copyFrom_180 rfl ?_
  refine ⟨?_, StF.copy hS h16 ⟨rfl, rfl⟩ (fun x x0 x1 => show zCpy (g 16) (g 76) 0 0 63 x = g 16 x from zCpy_in x0 x1) (fun x x0 x1 => show zCpy (g 17) (g 77) 0 0 63 x = g 17 x from zCpy_in x0 x1) (fun x x0 x1 => show zCpy (g 18) (g 78) 0 0 63 x = g 18 x from zCpy_in x0 x1) (fun x x0 x1 => show zCpy (g 19) (g 79) 0 0 63 x = g 19 x from zCpy_in x0 x1) (fun x x0 x1 => show zCpy (g 20) (g 80) 0 0 2 x = g 20 x from zCpy_in x0 x1) (fun x x0 x1 => show zCpy (g 21) (g 81) 0 0 16 x = g 21 x from zCpy_in x0 x1) (fun x x0 x1 => show zCpy (g 22) (g 82) 0 0 16 x = g 22 x from zCpy_in x0 x1) (fun x x0 x1 => show zCpy (g 23) (g 83) 0 0 16 x = g 23 x from zCpy_in x0 x1) (fun x x0 x1 => show zCpy (g 24) (g 84) 0 0 16 x = g 24 x from zCpy_in x0 x1) (fun x x0 x1 => show zCpy (g 25) (g 85) 0 0 16 x = g 25 x from zCpy_in x0 x1) (fun x x0 x1 => show zCpy (g 26) (g 86) 0 0 16 x = g 26 x from zCpy_in x0 x1)⟩
  repeat (first | exact zFr.rf _ _ | refine zFr.row ?_ (by decide) _ | refine zFr.set ?_ (by decide) _ _)
set_option maxRecDepth 100000 in
set_option maxHeartbeats 2000000 in
theorem c_X4_copyFrom_3_39 (g : ZH) {r : Int → Int} (h16 : r 192 ≤ 16) (hS : StAt g 39 r) : ZC 2 mX4_copyFrom [.inr 3, .inr 39] g (fun _ g' => zFr [3, 4, 5, 6, 7, 8, 9, 10, 11, 12, 13, 14] g g' ∧ StAt g' 3 r) := by
  refine ZC.of (by decide +kernel) (Nat.le_of_ble_eq_true rfl) ?_
  refine ZW.aload_n dX4_copyFrom_0 rfl ?_
  refine ZW.getR dX4_copyFrom_1 fl_X4_9 ⟨_, rfl, rfl⟩ ?_
  refine ZW.iconst dX4_copyFrom_4 ?_
  refine ZW.aload_n dX4_copyFrom_5 rfl ?_
  refine ZW.getR dX4_copyFrom_6 fl_X4_9 ⟨_, rfl, rfl⟩ ?_
  refine ZW.iconst dX4_copyFrom_9 ?_
  refine ZW.bipush dX4_copyFrom_10 rfl ?_
  refine ZW.copy dX4_copyFrom_12 (mmW_2 48 rfl rfl) (mmW_2 50 rfl rfl) (mmW_2 49 rfl rfl) (mmW_1 11 rfl rfl) rfl rfl (by decide) (by omega) (by decide) (Nat.le_of_ble_eq_true rfl) ?_
  refine ZW.aload_n dX4_copyFrom_15 rfl ?_
  refine ZW.getR dX4_copyFrom_16 fl_X4_15 ⟨_, rfl, rfl⟩ ?_
  refine ZW.iconst dX4_copyFrom_19 ?_
  refine ZW.aload_n dX4_copyFrom_20 rfl ?_
  refine ZW.getR dX4_copyFrom_21 fl_X4_15 ⟨_, rfl, rfl⟩ ?_
  refine ZW.iconst dX4_copyFrom_24 ?_
  refine ZW.bipush dX4_copyFrom_25 rfl ?_
  refine ZW.copy dX4_copyFrom_27 (mmW_2 48 rfl rfl) (mmW_2 50 rfl rfl) (mmW_2 49 rfl rfl) (mmW_1 11 rfl rfl) rfl rfl (by decide) (by omega) (by decide) (Nat.le_of_ble_eq_true rfl) ?_
  refine ZW.aload_n dX4_copyFrom_30 rfl ?_
  refine ZW.getR dX4_copyFrom_31 fl_X4_18 ⟨_, rfl, rfl⟩ ?_
  refine ZW.iconst dX4_copyFrom_34 ?_
  refine ZW.aload_n dX4_copyFrom_35 rfl ?_
  refine ZW.getR dX4_copyFrom_36 fl_X4_18 ⟨_, rfl, rfl⟩ ?_
  refine ZW.iconst dX4_copyFrom_39 ?_
  refine ZW.bipush dX4_copyFrom_40 rfl ?_
  refine ZW.copy dX4_copyFrom_42 (mmW_2 48 rfl rfl) (mmW_2 50 rfl rfl) (mmW_2 49 rfl rfl) (mmW_1 11 rfl rfl) rfl rfl (by decide) (by omega) (by decide) (Nat.le_of_ble_eq_true rfl) ?_
  refine ZW.aload_n dX4_copyFrom_45 rfl ?_
  refine ZW.getR dX4_copyFrom_46 fl_X4_21 ⟨_, rfl, rfl⟩ ?_
  refine ZW.iconst dX4_copyFrom_49 ?_
  refine ZW.aload_n dX4_copyFrom_50 rfl ?_
  refine ZW.getR dX4_copyFrom_51 fl_X4_21 ⟨_, rfl, rfl⟩ ?_
  refine ZW.iconst dX4_copyFrom_54 ?_
  refine ZW.bipush dX4_copyFrom_55 rfl ?_
  refine ZW.copy dX4_copyFrom_57 (mmW_2 48 rfl rfl) (mmW_2 50 rfl rfl) (mmW_2 49 rfl rfl) (mmW_1 11 rfl rfl) rfl rfl (by decide) (by omega) (by decide) (Nat.le_of_ble_eq_true rfl) ?_
  refine ZW.aload_n dX4_copyFrom_60 rfl ?_
  refine ZW.getR dX4_copyFrom_61 fl_X4_24 ⟨_, rfl, rfl⟩ ?_
  refine ZW.iconst dX4_copyFrom_64 ?_
  refine ZW.aload_n dX4_copyFrom_65 rfl ?_
  refine ZW.getR dX4_copyFrom_66 fl_X4_24 ⟨_, rfl, rfl⟩ ?_
  refine ZW.iconst dX4_copyFrom_69 ?_
  refine ZW.iconst dX4_copyFrom_70 ?_
  refine ZW.copy dX4_copyFrom_71 (mmW_2 48 rfl rfl) (mmW_2 50 rfl rfl) (mmW_2 49 rfl rfl) (mmW_1 11 rfl rfl) rfl rfl (by decide) (by omega) (by decide) (Nat.le_of_ble_eq_true rfl) ?_
  refine ZW.aload_n dX4_copyFrom_74 rfl ?_
  refine ZW.aload_n dX4_copyFrom_75 rfl ?_
  refine ZW.getI (fz := 6) dX4_copyFrom_76 fl_X4_61 ⟨_, rfl, rfl⟩ rfl rfl ?_
  refine ZW.puti (fz := 6) dX4_copyFrom_79 fp_X4_61 ⟨_, rfl, rfl⟩ rfl ?_
  refine ZW.aload_n dX4_copyFrom_82 rfl ?_
  refine ZW.getR dX4_copyFrom_83 fl_X4_27 ⟨_, rfl, rfl⟩ ?_
  refine ZW.iconst dX4_copyFrom_86 ?_
  refine ZW.aload_n dX4_copyFrom_87 rfl ?_
  refine ZW.getR dX4_copyFrom_88 fl_X4_27 ⟨_, rfl, rfl⟩ ?_
  refine ZW.iconst dX4_copyFrom_91 ?_
  refine ZW.bipush dX4_copyFrom_92 rfl ?_
  refine ZW.copy dX4_copyFrom_94 (mmW_2 48 rfl rfl) (mmW_2 50 rfl rfl) (mmW_2 49 rfl rfl) (mmW_1 11 rfl rfl) rfl rfl (by decide) (by omega) (by decide) (Nat.le_of_ble_eq_true rfl) ?_
  refine ZW.aload_n dX4_copyFrom_97 rfl ?_
  refine ZW.getR dX4_copyFrom_98 fl_X4_30 ⟨_, rfl, rfl⟩ ?_
  refine ZW.iconst dX4_copyFrom_101 ?_
  refine ZW.aload_n dX4_copyFrom_102 rfl ?_
  refine ZW.getR dX4_copyFrom_103 fl_X4_30 ⟨_, rfl, rfl⟩ ?_
  refine ZW.iconst dX4_copyFrom_106 ?_
  refine ZW.bipush dX4_copyFrom_107 rfl ?_
  refine ZW.copy dX4_copyFrom_109 (mmW_2 48 rfl rfl) (mmW_2 50 rfl rfl) (mmW_2 49 rfl rfl) (mmW_1 11 rfl rfl) rfl rfl (by decide) (by omega) (by decide) (Nat.le_of_ble_eq_true rfl) ?_
  refine ZW.aload_n dX4_copyFrom_112 rfl ?_
  refine ZW.getR dX4_copyFrom_113 fl_X4_33 ⟨_, rfl, rfl⟩ ?_
  refine ZW.iconst dX4_copyFrom_116 ?_
  refine ZW.aload_n dX4_copyFrom_117 rfl ?_
  refine ZW.getR dX4_copyFrom_118 fl_X4_33 ⟨_, rfl, rfl⟩ ?_
  refine ZW.iconst dX4_copyFrom_121 ?_
  refine ZW.bipush dX4_copyFrom_122 rfl ?_
  refine ZW.copy dX4_copyFrom_124 (mmW_2 48 rfl rfl) (mmW_2 50 rfl rfl) (mmW_2 49 rfl rfl) (mmW_1 11 rfl rfl) rfl rfl (by decide) (by omega) (by decide) (Nat.le_of_ble_eq_true rfl) ?_
  refine ZW.aload_n dX4_copyFrom_127 rfl ?_
  refine ZW.getR dX4_copyFrom_128 fl_X4_36 ⟨_, rfl, rfl⟩ ?_
  refine ZW.iconst dX4_copyFrom_131 ?_
  refine ZW.aload_n dX4_copyFrom_132 rfl ?_
  refine ZW.getR dX4_copyFrom_133 fl_X4_36 ⟨_, rfl, rfl⟩ ?_
  refine ZW.iconst dX4_copyFrom_136 ?_
  refine ZW.bipush dX4_copyFrom_137 rfl ?_
  refine ZW.copy dX4_copyFrom_139 (mmW_2 48 rfl rfl) (mmW_2 50 rfl rfl) (mmW_2 49 rfl rfl) (mmW_1 11 rfl rfl) rfl rfl (by decide) (by omega) (by decide) (Nat.le_of_ble_eq_true rfl) ?_
  refine ZW.aload_n dX4_copyFrom_142 rfl ?_
  refine ZW.getR dX4_copyFrom_143 fl_X4_39 ⟨_, rfl, rfl⟩ ?_
  refine ZW.iconst dX4_copyFrom_146 ?_
  refine ZW.aload_n dX4_copyFrom_147 rfl ?_
  refine ZW.getR dX4_copyFrom_148 fl_X4_39 ⟨_, rfl, rfl⟩ ?_
  refine ZW.iconst dX4_copyFrom_151 ?_
  refine ZW.bipush dX4_copyFrom_152 rfl ?_
  refine ZW.copy dX4_copyFrom_154 (mmW_2 48 rfl rfl) (mmW_2 50 rfl rfl) (mmW_2 49 rfl rfl) (mmW_1 11 rfl rfl) rfl rfl (by decide) (by omega) (by decide) (Nat.le_of_ble_eq_true rfl) ?_
  refine ZW.aload_n dX4_copyFrom_157 rfl ?_
  refine ZW.getR dX4_copyFrom_158 fl_X4_42 ⟨_, rfl, rfl⟩ ?_
  refine ZW.iconst dX4_copyFrom_161 ?_
  refine ZW.aload_n dX4_copyFrom_162 rfl ?_
  refine ZW.getR dX4_copyFrom_163 fl_X4_42 ⟨_, rfl, rfl⟩ ?_
  refine ZW.iconst dX4_copyFrom_166 ?_
  refine ZW.bipush dX4_copyFrom_167 rfl ?_
  refine ZW.copy dX4_copyFrom_169 (mmW_2 48 rfl rfl) (mmW_2 50 rfl rfl) (mmW_2 49 rfl rfl) (mmW_1 11 rfl rfl) rfl rfl (by decide) (by omega) (by decide) (Nat.le_of_ble_eq_true rfl) ?_
  refine ZW.aload_n dX4_copyFrom_172 rfl ?_
  refine ZW.aload_n dX4_copyFrom_173 rfl ?_
  refine ZW.getI (fz := 13) dX4_copyFrom_174 fl_X4_65 ⟨_, rfl, rfl⟩ rfl rfl ?_
  refine ZW.puti (fz := 13) dX4_copyFrom_177 fp_X4_65 ⟨_, rfl, rfl⟩ rfl ?_
  refine ZW.vret dX4_copyFrom_180 rfl ?_
  refine ⟨?_, StF.copy hS h16 ⟨rfl, rfl⟩ (fun x x0 x1 => show zCpy (g 40) (g 4) 0 0 63 x = g 40 x from zCpy_in x0 x1) (fun x x0 x1 => show zCpy (g 41) (g 5) 0 0 63 x = g 41 x from zCpy_in x0 x1) (fun x x0 x1 => show zCpy (g 42) (g 6) 0 0 63 x = g 42 x from zCpy_in x0 x1) (fun x x0 x1 => show zCpy (g 43) (g 7) 0 0 63 x = g 43 x from zCpy_in x0 x1) (fun x x0 x1 => show zCpy (g 44) (g 8) 0 0 2 x = g 44 x from zCpy_in x0 x1) (fun x x0 x1 => show zCpy (g 45) (g 9) 0 0 16 x = g 45 x from zCpy_in x0 x1) (fun x x0 x1 => show zCpy (g 46) (g 10) 0 0 16 x = g 46 x from zCpy_in x0 x1) (fun x x0 x1 => show zCpy (g 47) (g 11) 0 0 16 x = g 47 x from zCpy_in x0 x1) (fun x x0 x1 => show zCpy (g 48) (g 12) 0 0 16 x = g 48 x from zCpy_in x0 x1) (fun x x0 x1 => show zCpy (g 49) (g 13) 0 0 16 x = g 49 x from zCpy_in x0 x1) (fun x x0 x1 => show zCpy (g 50) (g 14) 0 0 16 x = g 50 x from zCpy_in x0 x1)⟩
  repeat (first | exact zFr.rf _ _ | refine zFr.row ?_ (by decide) _ | refine zFr.set ?_ (by decide) _ _)
set_option maxRecDepth 100000 in
set_option maxHeartbeats 2000000 in
theorem c_X4_copyFrom_3_51 (g : ZH) {r : Int → Int} (h16 : r 192 ≤ 16) (hS : StAt g 51 r) : ZC 2 mX4_copyFrom [.inr 3, .inr 51] g (fun _ g' => zFr [3, 4, 5, 6, 7, 8, 9, 10, 11, 12, 13, 14] g g' ∧ StAt g' 3 r) := by
  refine ZC.of (by decide +kernel) (Nat.le_of_ble_eq_true rfl) ?_
  refine ZW.aload_n dX4_copyFrom_0 rfl ?_
  refine ZW.getR dX4_copyFrom_1 fl_X4_9 ⟨_, rfl, rfl⟩ ?_
  refine ZW.iconst dX4_copyFrom_4 ?_
  refine ZW.aload_n dX4_copyFrom_5 rfl ?_
  refine ZW.getR dX4_copyFrom_6 fl_X4_9 ⟨_, rfl, rfl⟩ ?_
  refine ZW.iconst dX4_copyFrom_9 ?_
  refine ZW.bipush dX4_copyFrom_10 rfl ?_
  refine ZW.copy dX4_copyFrom_12 (mmW_2 48 rfl rfl) (mmW_2 50 rfl rfl) (mmW_2 49 rfl rfl) (mmW_1 11 rfl rfl) rfl rfl (by decide) (by omega) (by decide) (Nat.le_of_ble_eq_true rfl) ?_
  refine ZW.aload_n dX4_copyFrom_15 rfl ?_
  refine ZW.getR dX4_copyFrom_16 fl_X4_15 ⟨_, rfl, rfl⟩ ?_
  refine ZW.iconst dX4_copyFrom_19 ?_
  refine ZW.aload_n dX4_copyFrom_20 rfl ?_
  refine ZW.getR dX4_copyFrom_21 fl_X4_15 ⟨_, rfl, rfl⟩ ?_
  refine ZW.iconst dX4_copyFrom_24 ?_
  refine ZW.bipush dX4_copyFrom_25 rfl ?_
  refine ZW.copy dX4_copyFrom_27 (mmW_2 48 rfl rfl) (mmW_2 50 rfl rfl) (mmW_2 49 rfl rfl) (mmW_1 11 rfl rfl) rfl rfl (by decide) (by omega) (by decide) (Nat.le_of_ble_eq_true rfl) ?_
  refine ZW.aload_n dX4_copyFrom_30 rfl ?_
  refine ZW.getR dX4_copyFrom_31 fl_X4_18 ⟨_, rfl, rfl⟩ ?_
  refine ZW.iconst dX4_copyFrom_34 ?_
  refine ZW.aload_n dX4_copyFrom_35 rfl ?_
  refine ZW.getR dX4_copyFrom_36 fl_X4_18 ⟨_, rfl, rfl⟩ ?_
  refine ZW.iconst dX4_copyFrom_39 ?_
  refine ZW.bipush dX4_copyFrom_40 rfl ?_
  refine ZW.copy dX4_copyFrom_42 (mmW_2 48 rfl rfl) (mmW_2 50 rfl rfl) (mmW_2 49 rfl rfl) (mmW_1 11 rfl rfl) rfl rfl (by decide) (by omega) (by decide) (Nat.le_of_ble_eq_true rfl) ?_
  refine ZW.aload_n dX4_copyFrom_45 rfl ?_
  refine ZW.getR dX4_copyFrom_46 fl_X4_21 ⟨_, rfl, rfl⟩ ?_
  refine ZW.iconst dX4_copyFrom_49 ?_
  refine ZW.aload_n dX4_copyFrom_50 rfl ?_
  refine ZW.getR dX4_copyFrom_51 fl_X4_21 ⟨_, rfl, rfl⟩ ?_
  refine ZW.iconst dX4_copyFrom_54 ?_
  refine ZW.bipush dX4_copyFrom_55 rfl ?_
  refine ZW.copy dX4_copyFrom_57 (mmW_2 48 rfl rfl) (mmW_2 50 rfl rfl) (mmW_2 49 rfl rfl) (mmW_1 11 rfl rfl) rfl rfl (by decide) (by omega) (by decide) (Nat.le_of_ble_eq_true rfl) ?_
  refine ZW.aload_n dX4_copyFrom_60 rfl ?_
  refine ZW.getR dX4_copyFrom_61 fl_X4_24 ⟨_, rfl, rfl⟩ ?_
  refine ZW.iconst dX4_copyFrom_64 ?_
  refine ZW.aload_n dX4_copyFrom_65 rfl ?_
  refine ZW.getR dX4_copyFrom_66 fl_X4_24 ⟨_, rfl, rfl⟩ ?_
  refine ZW.iconst dX4_copyFrom_69 ?_
  refine ZW.iconst dX4_copyFrom_70 ?_
  refine ZW.copy dX4_copyFrom_71 (mmW_2 48 rfl rfl) (mmW_2 50 rfl rfl) (mmW_2 49 rfl rfl) (mmW_1 11 rfl rfl) rfl rfl (by decide) (by omega) (by decide) (Nat.le_of_ble_eq_true rfl) ?_
  refine ZW.aload_n dX4_copyFrom_74 rfl ?_
  refine ZW.aload_n dX4_copyFrom_75 rfl ?_
  refine ZW.getI (fz := 6) dX4_copyFrom_76 fl_X4_61 ⟨_, rfl, rfl⟩ rfl rfl ?_
  refine ZW.puti (fz := 6) dX4_copyFrom_79 fp_X4_61 ⟨_, rfl, rfl⟩ rfl ?_
  refine ZW.aload_n dX4_copyFrom_82 rfl ?_
  refine ZW.getR dX4_copyFrom_83 fl_X4_27 ⟨_, rfl, rfl⟩ ?_
  refine ZW.iconst dX4_copyFrom_86 ?_
  refine ZW.aload_n dX4_copyFrom_87 rfl ?_
  refine ZW.getR dX4_copyFrom_88 fl_X4_27 ⟨_, rfl, rfl⟩ ?_
  refine ZW.iconst dX4_copyFrom_91 ?_
  refine ZW.bipush dX4_copyFrom_92 rfl ?_
  refine ZW.copy dX4_copyFrom_94 (mmW_2 48 rfl rfl) (mmW_2 50 rfl rfl) (mmW_2 49 rfl rfl) (mmW_1 11 rfl rfl) rfl rfl (by decide) (by omega) (by decide) (Nat.le_of_ble_eq_true rfl) ?_
  refine ZW.aload_n dX4_copyFrom_97 rfl ?_
  refine ZW.getR dX4_copyFrom_98 fl_X4_30 ⟨_, rfl, rfl⟩ ?_
  refine ZW.iconst dX4_copyFrom_101 ?_
  refine ZW.aload_n dX4_copyFrom_102 rfl ?_
  refine ZW.getR dX4_copyFrom_103 fl_X4_30 ⟨_, rfl, rfl⟩ ?_
  refine ZW.iconst dX4_copyFrom_106 ?_
  refine ZW.bipush dX4_copyFrom_107 rfl ?_
  refine ZW.copy dX4_copyFrom_109 (mmW_2 48 rfl rfl) (mmW_2 50 rfl rfl) (mmW_2 49 rfl rfl) (mmW_1 11 rfl rfl) rfl rfl (by decide) (by omega) (by decide) (Nat.le_of_ble_eq_true rfl) ?_
  refine ZW.aload_n dX4_copyFrom_112 rfl ?_
  refine ZW.getR dX4_copyFrom_113 fl_X4_33 ⟨_, rfl, rfl⟩ ?_
  refine ZW.iconst dX4_copyFrom_116 ?_
  refine ZW.aload_n dX4_copyFrom_117 rfl ?_
  refine ZW.getR dX4_copyFrom_118 fl_X4_33 ⟨_, rfl, rfl⟩ ?_
  refine ZW.iconst dX4_copyFrom_121 ?_
  refine ZW.bipush dX4_copyFrom_122 rfl ?_
  refine ZW.copy dX4_copyFrom_124 (mmW_2 48 rfl rfl) (mmW_2 50 rfl rfl) (mmW_2 49 rfl rfl) (mmW_1 11 rfl rfl) rfl rfl (by decide) (by omega) (by decide) (Nat.le_of_ble_eq_true rfl) ?_
  refine ZW.aload_n dX4_copyFrom_127 rfl ?_
  refine ZW.getR dX4_copyFrom_128 fl_X4_36 ⟨_, rfl, rfl⟩ ?_
  refine ZW.iconst dX4_copyFrom_131 ?_
  refine ZW.aload_n dX4_copyFrom_132 rfl ?_
  refine ZW.getR dX4_copyFrom_133 fl_X4_36 ⟨_, rfl, rfl⟩ ?_
  refine ZW.iconst dX4_copyFrom_136 ?_
  refine ZW.bipush dX4_copyFrom_137 rfl ?_
  refine ZW.copy dX4_copyFrom_139 (mmW_2 48 rfl rfl) (mmW_2 50 rfl rfl) (mmW_2 49 rfl rfl) (mmW_1 11 rfl rfl) rfl rfl (by decide) (by omega) (by decide) (Nat.le_of_ble_eq_true rfl) ?_
  refine ZW.aload_n dX4_copyFrom_142 rfl ?_
  refine ZW.getR dX4_copyFrom_143 fl_X4_39 ⟨_, rfl, rfl⟩ ?_
  refine ZW.iconst dX4_copyFrom_146 ?_
  refine ZW.aload_n dX4_copyFrom_147 rfl ?_
  refine ZW.getR dX4_copyFrom_148 fl_X4_39 ⟨_, rfl, rfl⟩ ?_
  refine ZW.iconst dX4_copyFrom_151 ?_
  refine ZW.bipush dX4_copyFrom_152 rfl ?_
  refine ZW.copy dX4_copyFrom_154 (mmW_2 48 rfl rfl) (mmW_2 50 rfl rfl) (mmW_2 49 rfl rfl) (mmW_1 11 rfl rfl) rfl rfl (by decide) (by omega) (by decide) (Nat.le_of_ble_eq_true rfl) ?_
  refine ZW.aload_n dX4_copyFrom_157 rfl ?_
  refine ZW.getR dX4_copyFrom_158 fl_X4_42 ⟨_, rfl, rfl⟩ ?_
  refine ZW.iconst dX4_copyFrom_161 ?_
  refine ZW.aload_n dX4_copyFrom_162 rfl ?_
  refine ZW.getR dX4_copyFrom_163 fl_X4_42 ⟨_, rfl, rfl⟩ ?_
  refine ZW.iconst dX4_copyFrom_166 ?_
  refine ZW.bipush dX4_copyFrom_167 rfl ?_
  refine ZW.copy dX4_copyFrom_169 (mmW_2 48 rfl rfl) (mmW_2 50 rfl rfl) (mmW_2 49 rfl rfl) (mmW_1 11 rfl rfl) rfl rfl (by decide) (by omega) (by decide) (Nat.le_of_ble_eq_true rfl) ?_
  refine ZW.aload_n dX4_copyFrom_172 rfl ?_
  refine ZW.aload_n dX4_copyFrom_173 rfl ?_
  refine ZW.getI (fz := 13) dX4_copyFrom_174 fl_X4_65 ⟨_, rfl, rfl⟩ rfl rfl ?_
  refine ZW.puti (fz := 13) dX4_copyFrom_177 fp_X4_65 ⟨_, rfl, rfl⟩ rfl ?_
  refine ZW.vret dX4_copyFrom_180 rfl ?_
  refine ⟨?_, StF.copy hS h16 ⟨rfl, rfl⟩ (fun x x0 x1 => show zCpy (g 52) (g 4) 0 0 63 x = g 52 x from zCpy_in x0 x1) (fun x x0 x1 => show zCpy (g 53) (g 5) 0 0 63 x = g 53 x from zCpy_in x0 x1) (fun x x0 x1 => show zCpy (g 54) (g 6) 0 0 63 x = g 54 x from zCpy_in x0 x1) (fun x x0 x1 => show zCpy (g 55) (g 7) 0 0 63 x = g 55 x from zCpy_in x0 x1) (fun x x0 x1 => show zCpy (g 56) (g 8) 0 0 2 x = g 56 x from zCpy_in x0 x1) (fun x x0 x1 => show zCpy (g 57) (g 9) 0 0 16 x = g 57 x from zCpy_in x0 x1) (fun x x0 x1 => show zCpy (g 58) (g 10) 0 0 16 x = g 58 x from zCpy_in x0 x1) (fun x x0 x1 => show zCpy (g 59) (g 11) 0 0 16 x = g 59 x from zCpy_in x0 x1) (fun x x0 x1 => show zCpy (g 60) (g 12) 0 0 16 x = g 60 x from zCpy_in x0 x1) (fun x x0 x1 => show zCpy (g 61) (g 13) 0 0 16 x = g 61 x from zCpy_in x0 x1) (fun x x0 x1 => show zCpy (g 62) (g 14) 0 0 16 x = g 62 x from zCpy_in x0 x1)⟩
  repeat (first | exact zFr.rf _ _ | refine zFr.row ?_ (by decide) _ | refine zFr.set ?_ (by decide) _ _)
set_option maxRecDepth 100000 in
set_option maxHeartbeats 2000000 in
theorem c_X4_copyFrom_3_63 (g : ZH) {r : Int → Int} (h16 : r 192 ≤ 16) (hS : StAt g 63 r) : ZC 2 mX4_copyFrom [.inr 3, .inr 63] g (fun _ g' => zFr [3, 4, 5, 6, 7, 8, 9, 10, 11, 12, 13, 14] g g' ∧ StAt g' 3 r) := by
  refine ZC.of (by decide +kernel) (Nat.le_of_ble_eq_true rfl) ?_
  refine ZW.aload_n dX4_copyFrom_0 rfl ?_
  refine ZW.getR dX4_copyFrom_1 fl_X4_9 ⟨_, rfl, rfl⟩ ?_
  refine ZW.iconst dX4_copyFrom_4 ?_
  refine ZW.aload_n dX4_copyFrom_5 rfl ?_
  refine ZW.getR dX4_copyFrom_6 fl_X4_9 ⟨_, rfl, rfl⟩ ?_
  refine ZW.iconst dX4_copyFrom_9 ?_
  refine ZW.bipush dX4_copyFrom_10 rfl ?_
  refine ZW.copy dX4_copyFrom_12 (mmW_2 48 rfl rfl) (mmW_2 50 rfl rfl) (mmW_2 49 rfl rfl) (mmW_1 11 rfl rfl) rfl rfl (by decide) (by omega) (by decide) (Nat.le_of_ble_eq_true rfl) ?_
  refine ZW.aload_n dX4_copyFrom_15 rfl ?_
  refine ZW.getR dX4_copyFrom_16 fl_X4_15 ⟨_, rfl, rfl⟩ ?_
  refine ZW.iconst dX4_copyFrom_19 ?_
  refine ZW.aload_n dX4_copyFrom_20 rfl ?_
  refine ZW.getR dX4_copyFrom_21 fl_X4_15 ⟨_, rfl, rfl⟩ ?_
  refine ZW.iconst dX4_copyFrom_24 ?_
  refine ZW.bipush dX4_copyFrom_25 rfl ?_
  refine ZW.copy dX4_copyFrom_27 (mmW_2 48 rfl rfl) (mmW_2 50 rfl rfl) (mmW_2 49 rfl rfl) (mmW_1 11 rfl rfl) rfl rfl (by decide) (by omega) (by decide) (Nat.le_of_ble_eq_true rfl) ?_
  refine ZW.aload_n dX4_copyFrom_30 rfl ?_
  refine ZW.getR dX4_copyFrom_31 fl_X4_18 ⟨_, rfl, rfl⟩ ?_
  refine ZW.iconst dX4_copyFrom_34 ?_
  refine ZW.aload_n dX4_copyFrom_35 rfl ?_
  refine ZW.getR dX4_copyFrom_36 fl_X4_18 ⟨_, rfl, rfl⟩ ?_
  refine ZW.iconst dX4_copyFrom_39 ?_
  refine ZW.bipush dX4_copyFrom_40 rfl ?_
  refine ZW.copy dX4_copyFrom_42 (mmW_2 48 rfl rfl) (mmW_2 50 rfl rfl) (mmW_2 49 rfl rfl) (mmW_1 11 rfl rfl) rfl rfl (by decide) (by omega) (by decide) (Nat.le_of_ble_eq_true rfl) ?_
  refine ZW.aload_n dX4_copyFrom_45 rfl ?_
  refine ZW.getR dX4_copyFrom_46 fl_X4_21 ⟨_, rfl, rfl⟩ ?_
  refine ZW.iconst dX4_copyFrom_49 ?_
  refine ZW.aload_n dX4_copyFrom_50 rfl ?_
  refine ZW.getR dX4_copyFrom_51 fl_X4_21 ⟨_, rfl, rfl⟩ ?_
  refine ZW.iconst dX4_copyFrom_54 ?_
  refine ZW.bipush dX4_copyFrom_55 rfl ?_
  refine ZW.copy dX4_copyFrom_57 (mmW_2 48 rfl rfl) (mmW_2 50 rfl rfl) (mmW_2 49 rfl rfl) (mmW_1 11 rfl rfl) rfl rfl (by decide) (by omega) (by decide) (Nat.le_of_ble_eq_true rfl) ?_
  refine ZW.aload_n dX4_copyFrom_60 rfl ?_
  refine ZW.getR dX4_copyFrom_61 fl_X4_24 ⟨_, rfl, rfl⟩ ?_
  refine ZW.iconst dX4_copyFrom_64 ?_
  refine ZW.aload_n dX4_copyFrom_65 rfl ?_
  refine ZW.getR dX4_copyFrom_66 fl_X4_24 ⟨_, rfl, rfl⟩ ?_
  refine ZW.iconst dX4_copyFrom_69 ?_
  refine ZW.iconst dX4_copyFrom_70 ?_
  refine ZW.copy dX4_copyFrom_71 (mmW_2 48 rfl rfl) (mmW_2 50 rfl rfl) (mmW_2 49 rfl rfl) (mmW_1 11 rfl rfl) rfl rfl (by decide) (by omega) (by decide) (Nat.le_of_ble_eq_true rfl) ?_
  refine ZW.aload_n dX4_copyFrom_74 rfl ?_
  refine ZW.aload_n dX4_copyFrom_75 rfl ?_
  refine ZW.getI (fz := 6) dX4_copyFrom_76 fl_X4_61 ⟨_, rfl, rfl⟩ rfl rfl ?_
  refine ZW.puti (fz := 6) dX4_copyFrom_79 fp_X4_61 ⟨_, rfl, rfl⟩ rfl ?_
  refine ZW.aload_n dX4_copyFrom_82 rfl ?_
  refine ZW.getR dX4_copyFrom_83 fl_X4_27 ⟨_, rfl, rfl⟩ ?_
  refine ZW.iconst dX4_copyFrom_86 ?_
  refine ZW.aload_n dX4_copyFrom_87 rfl ?_
  refine ZW.getR dX4_copyFrom_88 fl_X4_27 ⟨_, rfl, rfl⟩ ?_
  refine ZW.iconst dX4_copyFrom_91 ?_
  refine ZW.bipush dX4_copyFrom_92 rfl ?_
  refine ZW.copy dX4_copyFrom_94 (mmW_2 48 rfl rfl) (mmW_2 50 rfl rfl) (mmW_2 49 rfl rfl) (mmW_1 11 rfl rfl) rfl rfl (by decide) (by omega) (by decide) (Nat.le_of_ble_eq_true rfl) ?_
  refine ZW.aload_n dX4_copyFrom_97 rfl ?_
  refine ZW.getR dX4_copyFrom_98 fl_X4_30 ⟨_, rfl, rfl⟩ ?_
  refine ZW.iconst dX4_copyFrom_101 ?_
  refine ZW.aload_n dX4_copyFrom_102 rfl ?_
  refine ZW.getR dX4_copyFrom_103 fl_X4_30 ⟨_, rfl, rfl⟩ ?_
  refine ZW.iconst dX4_copyFrom_106 ?_
  refine ZW.bipush dX4_copyFrom_107 rfl ?_
  refine ZW.copy dX4_copyFrom_109 (mmW_2 48 rfl rfl) (mmW_2 50 rfl rfl) (mmW_2 49 rfl rfl) (mmW_1 11 rfl rfl) rfl rfl (by decide) (by omega) (by decide) (Nat.le_of_ble_eq_true rfl) ?_
  refine ZW.aload_n dX4_copyFrom_112 rfl ?_
  refine ZW.getR dX4_copyFrom_113 fl_X4_33 ⟨_, rfl, rfl⟩ ?_
  refine ZW.iconst dX4_copyFrom_116 ?_
  refine ZW.aload_n dX4_copyFrom_117 rfl ?_
  refine ZW.getR dX4_copyFrom_118 fl_X4_33 ⟨_, rfl, rfl⟩ ?_
  refine ZW.iconst dX4_copyFrom_121 ?_
  refine ZW.bipush dX4_copyFrom_122 rfl ?_
  refine ZW.copy dX4_copyFrom_124 (mmW_2 48 rfl rfl) (mmW_2 50 rfl rfl) (mmW_2 49 rfl rfl) (mmW_1 11 rfl rfl) rfl rfl (by decide) (by omega) (by decide) (Nat.le_of_ble_eq_true rfl) ?_
  refine ZW.aload_n dX4_copyFrom_127 rfl ?_
  refine ZW.getR dX4_copyFrom_128 fl_X4_36 ⟨_, rfl, rfl⟩ ?_
  refine ZW.iconst dX4_copyFrom_131 ?_
  refine ZW.aload_n dX4_copyFrom_132 rfl ?_
  refine ZW.getR dX4_copyFrom_133 fl_X4_36 ⟨_, rfl, rfl⟩ ?_
  refine ZW.iconst dX4_copyFrom_136 ?_
  refine ZW.bipush dX4_copyFrom_137 rfl ?_
  refine ZW.copy dX4_copyFrom_139 (mmW_2 48 rfl rfl) (mmW_2 50 rfl rfl) (mmW_2 49 rfl rfl) (mmW_1 11 rfl rfl) rfl rfl (by decide) (by omega) (by decide) (Nat.le_of_ble_eq_true rfl) ?_
  refine ZW.aload_n dX4_copyFrom_142 rfl ?_
  refine ZW.getR dX4_copyFrom_143 fl_X4_39 ⟨_, rfl, rfl⟩ ?_
  refine ZW.iconst dX4_copyFrom_146 ?_
  refine ZW.aload_n dX4_copyFrom_147 rfl ?_
  refine ZW.getR dX4_copyFrom_148 fl_X4_39 ⟨_, rfl, rfl⟩ ?_
  refine ZW.iconst dX4_copyFrom_151 ?_
  refine ZW.bipush dX4_copyFrom_152 rfl ?_
  refine ZW.copy dX4_copyFrom_154 (mmW_2 48 rfl rfl) (mmW_2 50 rfl rfl) (mmW_2 49 rfl rfl) (mmW_1 11 rfl rfl) rfl rfl (by decide) (by omega) (by decide) (Nat.le_of_ble_eq_true rfl) ?_
  refine ZW.aload_n dX4_copyFrom_157 rfl ?_
  refine ZW.getR dX4_copyFrom_158 fl_X4_42 ⟨_, rfl, rfl⟩ ?_
  refine ZW.iconst dX4_copyFrom_161 ?_
  refine ZW.aload_n dX4_copyFrom_162 rfl ?_
  refine ZW.getR dX4_copyFrom_163 fl_X4_42 ⟨_, rfl, rfl⟩ ?_
  refine ZW.iconst dX4_copyFrom_166 ?_
  refine ZW.bipush dX4_copyFrom_167 rfl ?_
  refine ZW.copy dX4_copyFrom_169 (mmW_2 48 rfl rfl) (mmW_2 50 rfl rfl) (mmW_2 49 rfl rfl) (mmW_1 11 rfl rfl) rfl rfl (by decide) (by omega) (by decide) (Nat.le_of_ble_eq_true rfl) ?_
  refine ZW.aload_n dX4_copyFrom_172 rfl ?_
  refine ZW.aload_n dX4_copyFrom_173 rfl ?_
  refine ZW.getI (fz := 13) dX4_copyFrom_174 fl_X4_65 ⟨_, rfl, rfl⟩ rfl rfl ?_
  refine ZW.puti (fz := 13) dX4_copyFrom_177 fp_X4_65 ⟨_, rfl, rfl⟩ rfl ?_
  refine ZW.vret dX4_copyFrom_180 rfl ?_
  refine ⟨?_, StF.copy hS h16 ⟨rfl, rfl⟩ (fun x x0 x1 => show zCpy (g 64) (g 4) 0 0 63 x = g 64 x from zCpy_in x0 x1) (fun x x0 x1 => show zCpy (g 65) (g 5) 0 0 63 x = g 65 x from zCpy_in x0 x1) (fun x x0 x1 => show zCpy (g 66) (g 6) 0 0 63 x = g 66 x from zCpy_in x0 x1) (fun x x0 x1 => show zCpy (g 67) (g 7) 0 0 63 x = g 67 x from zCpy_in x0 x1) (fun x x0 x1 => show zCpy (g 68) (g 8) 0 0 2 x = g 68 x from zCpy_in x0 x1) (fun x x0 x1 => show zCpy (g 69) (g 9) 0 0 16 x = g 69 x from zCpy_in x0 x1) (fun x x0 x1 => show zCpy (g 70) (g 10) 0 0 16 x = g 70 x from zCpy_in x0 x1) (fun x x0 x1 => show zCpy (g 71) (g 11) 0 0 16 x = g 71 x from zCpy_in x0 x1) (fun x x0 x1 => show zCpy (g 72) (g 12) 0 0 16 x = g 72 x from zCpy_in x0 x1) (fun x x0 x1 => show zCpy (g 73) (g 13) 0 0 16 x = g 73 x from zCpy_in x0 x1) (fun x x0 x1 => show zCpy (g 74) (g 14) 0 0 16 x = g 74 x from zCpy_in x0 x1)⟩
  repeat (first | exact zFr.rf _ _ | refine zFr.row ?_ (by decide) _ | refine zFr.set ?_ (by decide) _ _)
set_option maxRecDepth 100000 in
set_option maxHeartbeats 2000000 in
theorem c_X4_copyFrom_3_75 (g : ZH) {r : Int → Int} (h16 : r 192 ≤ 16) (hS : StAt g 75 r) : ZC 2 mX4_copyFrom [.inr 3, .inr 75] g (fun _ g' => zFr [3, 4, 5, 6, 7, 8, 9, 10, 11, 12, 13, 14] g g' ∧ StAt g' 3 r) := by
  refine ZC.of (by decide +kernel) (Nat.le_of_ble_eq_true rfl) ?_
  refine ZW.aload_n dX4_copyFrom_0 rfl ?_
  refine ZW.getR dX4_copyFrom_1 fl_X4_9 ⟨_, rfl, rfl⟩ ?_
  refine ZW.iconst dX4_copyFrom_4 ?_
  refine ZW.aload_n dX4_copyFrom_5 rfl ?_
  refine ZW.getR dX4_copyFrom_6 fl_X4_9 ⟨_, rfl, rfl⟩ ?_
  refine ZW.iconst dX4_copyFrom_9 ?_
  refine ZW.bipush dX4_copyFrom_10 rfl ?_
  refine ZW.copy dX4_copyFrom_12 (mmW_2 48 rfl rfl) (mmW_2 50 rfl rfl) (mmW_2 49 rfl rfl) (mmW_1 11 rfl rfl) rfl rfl (by decide) (by omega) (by decide) (Nat.le_of_ble_eq_true rfl) ?_
  refine ZW.aload_n dX4_copyFrom_15 rfl ?_
  refine ZW.getR dX4_copyFrom_16 fl_X4_15 ⟨_, rfl, rfl⟩ ?_
  refine ZW.iconst dX4_copyFrom_19 ?_
  refine ZW.aload_n dX4_copyFrom_20 rfl ?_
  refine ZW.getR dX4_copyFrom_21 fl_X4_15 ⟨_, rfl, rfl⟩ ?_
  refine ZW.iconst dX4_copyFrom_24 ?_
  refine ZW.bipush dX4_copyFrom_25 rfl ?_
  refine ZW.copy dX4_copyFrom_27 (mmW_2 48 rfl rfl) (mmW_2 50 rfl rfl) (mmW_2 49 rfl rfl) (mmW_1 11 rfl rfl) rfl rfl (by decide) (by omega) (by decide) (Nat.le_of_ble_eq_true rfl) ?_
  refine ZW.aload_n dX4_copyFrom_30 rfl ?_
  refine ZW.getR dX4_copyFrom_31 fl_X4_18 ⟨_, rfl, rfl⟩ ?_
  refine ZW.iconst dX4_copyFrom_34 ?_
  refine ZW.aload_n dX4_copyFrom_35 rfl ?_
  refine ZW.getR dX4_copyFrom_36 fl_X4_18 ⟨_, rfl, rfl⟩ ?_
  refine ZW.iconst dX4_copyFrom_39 ?_
  refine ZW.bipush dX4_copyFrom_40 rfl ?_
  refine ZW.copy dX4_copyFrom_42 (mmW_2 48 rfl rfl) (mmW_2 50 rfl rfl) (mmW_2 49 rfl rfl) (mmW_1 11 rfl rfl) rfl rfl (by decide) (by omega) (by decide) (Nat.le_of_ble_eq_true rfl) ?_
  refine ZW.aload_n dX4_copyFrom_45 rfl ?_
  refine ZW.getR dX4_copyFrom_46 fl_X4_21 ⟨_, rfl, rfl⟩ ?_
  refine ZW.iconst dX4_copyFrom_49 ?_
  refine ZW.aload_n dX4_copyFrom_50 rfl ?_
  refine ZW.getR dX4_copyFrom_51 fl_X4_21 ⟨_, rfl, rfl⟩ ?_
  refine ZW.iconst dX4_copyFrom_54 ?_
  refine ZW.bipush dX4_copyFrom_55 rfl ?_
  refine ZW.copy dX4_copyFrom_57 (mmW_2 48 rfl rfl) (mmW_2 50 rfl rfl) (mmW_2 49 rfl rfl) (mmW_1 11 rfl rfl) rfl rfl (by decide) (by omega) (by decide) (Nat.le_of_ble_eq_true rfl) ?_
  refine ZW.aload_n dX4_copyFrom_60 rfl ?_
  refine ZW.getR dX4_copyFrom_61 fl_X4_24 ⟨_, rfl, rfl⟩ ?_
  refine ZW.iconst dX4_copyFrom_64 ?_
  refine ZW.aload_n dX4_copyFrom_65 rfl ?_
  refine ZW.getR dX4_copyFrom_66 fl_X4_24 ⟨_, rfl, rfl⟩ ?_
  refine ZW.iconst dX4_copyFrom_69 ?_
  refine ZW.iconst dX4_copyFrom_70 ?_
  refine ZW.copy dX4_copyFrom_71 (mmW_2 48 rfl rfl) (mmW_2 50 rfl rfl) (mmW_2 49 rfl rfl) (mmW_1 11 rfl rfl) rfl rfl (by decide) (by omega) (by decide) (Nat.le_of_ble_eq_true rfl) ?_
  refine ZW.aload_n dX4_copyFrom_74 rfl ?_
  refine ZW.aload_n dX4_copyFrom_75 rfl ?_
  refine ZW.getI (fz := 6) dX4_copyFrom_76 fl_X4_61 ⟨_, rfl, rfl⟩ rfl rfl ?_
  refine ZW.puti (fz := 6) dX4_copyFrom_79 fp_X4_61 ⟨_, rfl, rfl⟩ rfl ?_
  refine ZW.aload_n dX4_copyFrom_82 rfl ?_
  refine ZW.getR dX4_copyFrom_83 fl_X4_27 ⟨_, rfl, rfl⟩ ?_
  refine ZW.iconst dX4_copyFrom_86 ?_
  refine ZW.aload_n dX4_copyFrom_87 rfl ?_
  refine ZW.getR dX4_copyFrom_88 fl_X4_27 ⟨_, rfl, rfl⟩ ?_
  refine ZW.iconst dX4_copyFrom_91 ?_
  refine ZW.bipush dX4_copyFrom_92 rfl ?_
  refine ZW.copy dX4_copyFrom_94 (mmW_2 48 rfl rfl) (mmW_2 50 rfl rfl) (mmW_2 49 rfl rfl) (mmW_1 11 rfl rfl) rfl rfl (by decide) (by omega) (by decide) (Nat.le_of_ble_eq_true rfl) ?_
  refine ZW.aload_n dX4_copyFrom_97 rfl ?_
  refine ZW.getR dX4_copyFrom_98 fl_X4_30 ⟨_, rfl, rfl⟩ ?_
  refine ZW.iconst dX4_copyFrom_101 ?_
  refine ZW.aload_n dX4_copyFrom_102 rfl ?_
  refine ZW.getR dX4_copyFrom_103 fl_X4_30 ⟨_, rfl, rfl⟩ ?_
  refine ZW.iconst dX4_copyFrom_106 ?_
  refine ZW.bipush dX4_copyFrom_107 rfl ?_
  refine ZW.copy dX4_copyFrom_109 (mmW_2 48 rfl rfl) (mmW_2 50 rfl rfl) (mmW_2 49 rfl rfl) (mmW_1 11 rfl rfl) rfl rfl (by decide) (by omega) (by decide) (Nat.le_of_ble_eq_true rfl) ?_
  refine ZW.aload_n dX4_copyFrom_112 rfl ?_
  refine ZW.getR dX4_copyFrom_113 fl_X4_33 ⟨_, rfl, rfl⟩ ?_
  refine ZW.iconst dX4_copyFrom_116 ?_
  refine ZW.aload_n dX4_copyFrom_117 rfl ?_
  refine ZW.getR dX4_copyFrom_118 fl_X4_33 ⟨_, rfl, rfl⟩ ?_
  refine ZW.iconst dX4_copyFrom_121 ?_
  refine ZW.bipush dX4_copyFrom_122 rfl ?_
  refine ZW.copy dX4_copyFrom_124 (mmW_2 48 rfl rfl) (mmW_2 50 rfl rfl) (mmW_2 49 rfl rfl) (mmW_1 11 rfl rfl) rfl rfl (by decide) (by omega) (by decide) (Nat.le_of_ble_eq_true rfl) ?_
  refine ZW.aload_n dX4_copyFrom_127 rfl ?_
  refine ZW.getR dX4_copyFrom_128 fl_X4_36 ⟨_, rfl, rfl⟩ ?_
  refine ZW.iconst dX4_copyFrom_131 ?_
  refine ZW.aload_n dX4_copyFrom_132 rfl ?_
  refine ZW.getR dX4_copyFrom_133 fl_X4_36 ⟨_, rfl, rfl⟩ ?_
  refine ZW.iconst dX4_copyFrom_136 ?_
  refine ZW.bipush dX4_copyFrom_137 rfl ?_
  refine ZW.copy dX4_copyFrom_139 (mmW_2 48 rfl rfl) (mmW_2 50 rfl rfl) (mmW_2 49 rfl rfl) (mmW_1 11 rfl rfl) rfl rfl (by decide) (by omega) (by decide) (Nat.le_of_ble_eq_true rfl) ?_
  refine ZW.aload_n dX4_copyFrom_142 rfl ?_
  refine ZW.getR dX4_copyFrom_143 fl_X4_39 ⟨_, rfl, rfl⟩ ?_
  refine ZW.iconst dX4_copyFrom_146 ?_
  refine ZW.aload_n dX4_copyFrom_147 rfl ?_
  refine ZW.getR dX4_copyFrom_148 fl_X4_39 ⟨_, rfl, rfl⟩ ?_
  refine ZW.iconst dX4_copyFrom_151 ?_
  refine ZW.bipush dX4_copyFrom_152 rfl ?_
  refine ZW.copy dX4_copyFrom_154 (mmW_2 48 rfl rfl) (mmW_2 50 rfl rfl) (mmW_2 49 rfl rfl) (mmW_1 11 rfl rfl) rfl rfl (by decide) (by omega) (by decide) (Nat.le_of_ble_eq_true rfl) ?_
  refine ZW.aload_n dX4_copyFrom_157 rfl ?_
  refine ZW.getR dX4_copyFrom_158 fl_X4_42 ⟨_, rfl, rfl⟩ ?_
  refine ZW.iconst dX4_copyFrom_161 ?_
  refine ZW.aload_n dX4_copyFrom_162 rfl ?_
  refine ZW.getR dX4_copyFrom_163 fl_X4_42 ⟨_, rfl, rfl⟩ ?_
  refine ZW.iconst dX4_copyFrom_166 ?_
  refine ZW.bipush dX4_copyFrom_167 rfl ?_
  refine ZW.copy dX4_copyFrom_169 (mmW_2 48 rfl rfl) (mmW_2 50 rfl rfl) (mmW_2 49 rfl rfl) (mmW_1 11 rfl rfl) rfl rfl (by decide) (by omega) (by decide) (Nat.le_of_ble_eq_true rfl) ?_
  refine ZW.aload_n dX4_copyFrom_172 rfl ?_
  refine ZW.aload_n dX4_copyFrom_173 rfl ?_
  refine ZW.getI (fz := 13) dX4_copyFrom_174 fl_X4_65 ⟨_, rfl, rfl⟩ rfl rfl ?_
  refine ZW.puti (fz := 13) dX4_copyFrom_177 fp_X4_65 ⟨_, rfl, rfl⟩ rfl ?_
  refine ZW.vret dX4_copyFrom_180 rfl ?_
  refine ⟨?_, StF.copy hS h16 ⟨rfl, rfl⟩ (fun x x0 x1 => show zCpy (g 76) (g 4) 0 0 63 x = g 76 x from zCpy_in x0 x1) (fun x x0 x1 => show zCpy (g 77) (g 5) 0 0 63 x = g 77 x from zCpy_in x0 x1) (fun x x0 x1 => show zCpy (g 78) (g 6) 0 0 63 x = g 78 x from zCpy_in x0 x1) (fun x x0 x1 => show zCpy (g 79) (g 7) 0 0 63 x = g 79 x from zCpy_in x0 x1) (fun x x0 x1 => show zCpy (g 80) (g 8) 0 0 2 x = g 80 x from zCpy_in x0 x1) (fun x x0 x1 => show zCpy (g 81) (g 9) 0 0 16 x = g 81 x from zCpy_in x0 x1) (fun x x0 x1 => show zCpy (g 82) (g 10) 0 0 16 x = g 82 x from zCpy_in x0 x1) (fun x x0 x1 => show zCpy (g 83) (g 11) 0 0 16 x = g 83 x from zCpy_in x0 x1) (fun x x0 x1 => show zCpy (g 84) (g 12) 0 0 16 x = g 84 x from zCpy_in x0 x1) (fun x x0 x1 => show zCpy (g 85) (g 13) 0 0 16 x = g 85 x from zCpy_in x0 x1) (fun x x0 x1 => show zCpy (g 86) (g 14) 0 0 16 x = g 86 x from zCpy_in x0 x1)⟩
  repeat (first | exact zFr.rf _ _ | refine zFr.row ?_ (by decide) _ | refine zFr.set ?_ (by decide) _ _)
set_option maxRecDepth 100000 in
set_option maxHeartbeats 2000000 in
theorem c_X4_copyFrom_15_3 (g : ZH) {r : Int → Int} (h16 : r 192 ≤ 16) (hS : StAt g 3 r) : ZC 2 mX4_copyFrom [.inr 15, .inr 3] g (fun _ g' => zFr [15, 16, 17, 18, 19, 20, 21, 22, 23, 24, 25, 26] g g' ∧ StAt g' 15 r) := by
  refine ZC.of (by decide +kernel) (Nat.le_of_ble_eq_true rfl) ?_
  refine ZW.aload_n dX4_copyFrom_0 rfl ?_
  refine ZW.getR dX4_copyFrom_1 fl_X4_9 ⟨_, rfl, rfl⟩ ?_
  refine ZW.iconst dX4_copyFrom_4 ?_
  refine ZW.aload_n dX4_copyFrom_5 rfl ?_
  refine ZW.getR dX4_copyFrom_6 fl_X4_9 ⟨_, rfl, rfl⟩ ?_
  refine ZW.iconst dX4_copyFrom_9 ?_
  refine ZW.bipush dX4_copyFrom_10 rfl ?_
  refine ZW.copy dX4_copyFrom_12 (mmW_2 48 rfl rfl) (mmW_2 50 rfl rfl) (mmW_2 49 rfl rfl) (mmW_1 11 rfl rfl) rfl rfl (by decide) (by omega) (by decide) (Nat.le_of_ble_eq_true rfl) ?_
  refine ZW.aload_n dX4_copyFrom_15 rfl ?_
  refine ZW.getR dX4_copyFrom_16 fl_X4_15 ⟨_, rfl, rfl⟩ ?_
  refine ZW.iconst dX4_copyFrom_19 ?_
  refine ZW.aload_n dX4_copyFrom_20 rfl ?_
  refine ZW.getR dX4_copyFrom_21 fl_X4_15 ⟨_, rfl, rfl⟩ ?_
  refine ZW.iconst dX4_copyFrom_24 ?_
  refine ZW.bipush dX4_copyFrom_25 rfl ?_
  refine ZW.copy dX4_copyFrom_27 (mmW_2 48 rfl rfl) (mmW_2 50 rfl rfl) (mmW_2 49 rfl rfl) (mmW_1 11 rfl rfl) rfl rfl (by decide) (by omega) (by decide) (Nat.le_of_ble_eq_true rfl) ?_
  refine ZW.aload_n dX4_copyFrom_30 rfl ?_
  refine ZW.getR dX4_copyFrom_31 fl_X4_18 ⟨_, rfl, rfl⟩ ?_
  refine ZW.iconst dX4_copyFrom_34 ?_
  refine ZW.aload_n dX4_copyFrom_35 rfl ?_
  refine ZW.getR dX4_copyFrom_36 fl_X4_18 ⟨_, rfl, rfl⟩ ?_
  refine ZW.iconst dX4_copyFrom_39 ?_
  refine ZW.bipush dX4_copyFrom_40 rfl ?_
  refine ZW.copy dX4_copyFrom_42 (mmW_2 48 rfl rfl) (mmW_2 50 rfl rfl) (mmW_2 49 rfl rfl) (mmW_1 11 rfl rfl) rfl rfl (by decide) (by omega) (by decide) (Nat.le_of_ble_eq_true rfl) ?_
  refine ZW.aload_n dX4_copyFrom_45 rfl ?_
  refine ZW.getR dX4_copyFrom_46 fl_X4_21 ⟨_, rfl, rfl⟩ ?_
  refine ZW.iconst dX4_copyFrom_49 ?_
  refine ZW.aload_n dX4_copyFrom_50 rfl ?_
  refine ZW.getR dX4_copyFrom_51 fl_X4_21 ⟨_, rfl, rfl⟩ ?_
  refine ZW.iconst dX4_copyFrom_54 ?_
  refine ZW.bipush dX4_copyFrom_55 rfl ?_
  refine ZW.copy dX4_copyFrom_57 (mmW_2 48 rfl rfl) (mmW_2 50 rfl rfl) (mmW_2 49 rfl rfl) (mmW_1 11 rfl rfl) rfl rfl (by decide) (by omega) (by decide) (Nat.le_of_ble_eq_true rfl) ?_
  refine ZW.aload_n dX4_copyFrom_60 rfl ?_
  refine ZW.getR dX4_copyFrom_61 fl_X4_24 ⟨_, rfl, rfl⟩ ?_
  refine ZW.iconst dX4_copyFrom_64 ?_
  refine ZW.aload_n dX4_copyFrom_65 rfl ?_
  refine ZW.getR dX4_copyFrom_66 fl_X4_24 ⟨_, rfl, rfl⟩ ?_
  refine ZW.iconst dX4_copyFrom_69 ?_
  refine ZW.iconst dX4_copyFrom_70 ?_
  refine ZW.copy dX4_copyFrom_71 (mmW_2 48 rfl rfl) (mmW_2 50 rfl rfl) (mmW_2 49 rfl rfl) (mmW_1 11 rfl rfl) rfl rfl (by decide) (by omega) (by decide) (Nat.le_of_ble_eq_true rfl) ?_
  refine ZW.aload_n dX4_copyFrom_74 rfl ?_
  refine ZW.aload_n dX4_copyFrom_75 rfl ?_
  refine ZW.getI (fz := 6) dX4_copyFrom_76 fl_X4_61 ⟨_, rfl, rfl⟩ rfl rfl ?_
  refine ZW.puti (fz := 6) dX4_copyFrom_79 fp_X4_61 ⟨_, rfl, rfl⟩ rfl ?_
  refine ZW.aload_n dX4_copyFrom_82 rfl ?_
  refine ZW.getR dX4_copyFrom_83 fl_X4_27 ⟨_, rfl, rfl⟩ ?_
  refine ZW.iconst dX4_copyFrom_86 ?_
  refine ZW.aload_n dX4_copyFrom_87 rfl ?_
  refine ZW.getR dX4_copyFrom_88 fl_X4_27 ⟨_, rfl, rfl⟩ ?_
  refine ZW.iconst dX4_copyFrom_91 ?_
  refine ZW.bipush dX4_copyFrom_92 rfl ?_
  refine ZW.copy dX4_copyFrom_94 (mmW_2 48 rfl rfl) (mmW_2 50 rfl rfl) (mmW_2 49 rfl rfl) (mmW_1 11 rfl rfl) rfl rfl (by decide) (by omega) (by decide) (Nat.le_of_ble_eq_true rfl) ?_
  refine ZW.aload_n dX4_copyFrom_97 rfl ?_
  refine ZW.getR dX4_copyFrom_98 fl_X4_30 ⟨_, rfl, rfl⟩ ?_
  refine ZW.iconst dX4_copyFrom_101 ?_
  refine ZW.aload_n dX4_copyFrom_102 rfl ?_
  refine ZW.getR dX4_copyFrom_103 fl_X4_30 ⟨_, rfl, rfl⟩ ?_
  refine ZW.iconst dX4_copyFrom_106 ?_
  refine ZW.bipush dX4_copyFrom_107 rfl ?_
  refine ZW.copy dX4_copyFrom_109 (mmW_2 48 rfl rfl) (mmW_2 50 rfl rfl) (mmW_2 49 rfl rfl) (mmW_1 11 rfl rfl) rfl rfl (by decide) (by omega) (by decide) (Nat.le_of_ble_eq_true rfl) ?_
  refine ZW.aload_n dX4_copyFrom_112 rfl ?_
  refine ZW.getR dX4_copyFrom_113 fl_X4_33 ⟨_, rfl, rfl⟩ ?_
  refine ZW.iconst dX4_copyFrom_116 ?_
  refine ZW.aload_n dX4_copyFrom_117 rfl ?_
  refine ZW.getR dX4_copyFrom_118 fl_X4_33 ⟨_, rfl, rfl⟩ ?_
  refine ZW.iconst dX4_copyFrom_121 ?_
  refine ZW.bipush dX4_copyFrom_122 rfl ?_
  refine ZW.copy dX4_copyFrom_124 (mmW_2 48 rfl rfl) (mmW_2 50 rfl rfl) (mmW_2 49 rfl rfl) (mmW_1 11 rfl rfl) rfl rfl (by decide) (by omega) (by decide) (Nat.le_of_ble_eq_true rfl) ?_
  refine ZW.aload_n dX4_copyFrom_127 rfl ?_
  refine ZW.getR dX4_copyFrom_128 fl_X4_36 ⟨_, rfl, rfl⟩ ?_
  refine ZW.iconst dX4_copyFrom_131 ?_
  refine ZW.aload_n dX4_copyFrom_132 rfl ?_
  refine ZW.getR dX4_copyFrom_133 fl_X4_36 ⟨_, rfl, rfl⟩ ?_
  refine ZW.iconst dX4_copyFrom_136 ?_
  refine ZW.bipush dX4_copyFrom_137 rfl ?_
  refine ZW.copy dX4_copyFrom_139 (mmW_2 48 rfl rfl) (mmW_2 50 rfl rfl) (mmW_2 49 rfl rfl) (mmW_1 11 rfl rfl) rfl rfl (by decide) (by omega) (by decide) (Nat.le_of_ble_eq_true rfl) ?_
  refine ZW.aload_n dX4_copyFrom_142 rfl ?_
  refine ZW.getR dX4_copyFrom_143 fl_X4_39 ⟨_, rfl, rfl⟩ ?_
  refine ZW.iconst dX4_copyFrom_146 ?_
  refine ZW.aload_n dX4_copyFrom_147 rfl ?_
  refine ZW.getR dX4_copyFrom_148 fl_X4_39 ⟨_, rfl, rfl⟩ ?_
  refine ZW.iconst dX4_copyFrom_151 ?_
  refine ZW.bipush dX4_copyFrom_152 rfl ?_
  refine ZW.copy dX4_copyFrom_154 (mmW_2 48 rfl rfl) (mmW_2 50 rfl rfl) (mmW_2 49 rfl rfl) (mmW_1 11 rfl rfl) rfl rfl (by decide) (by omega) (by decide) (Nat.le_of_ble_eq_true rfl) ?_
  refine ZW.aload_n dX4_copyFrom_157 rfl ?_
  refine ZW.getR dX4_copyFrom_158 fl_X4_42 ⟨_, rfl, rfl⟩ ?_
  refine ZW.iconst dX4_copyFrom_161 ?_
  refine ZW.aload_n dX4_copyFrom_162 rfl ?_
  refine ZW.getR dX4_copyFrom_163 fl_X4_42 ⟨_, rfl, rfl⟩ ?_
  refine ZW.iconst dX4_copyFrom_166 ?_
  refine ZW.bipush dX4_copyFrom_167 rfl ?_
  refine ZW.copy dX4_copyFrom_169 (mmW_2 48 rfl rfl) (mmW_2 50 rfl rfl) (mmW_2 49 rfl rfl) (mmW_1 11 rfl rfl) rfl rfl (by decide) (by omega) (by decide) (Nat.le_of_ble_eq_true rfl) ?_
  refine ZW.aload_n dX4_copyFrom_172 rfl ?_
  refine ZW.aload_n dX4_copyFrom_173 rfl ?_
  refine ZW.getI (fz := 13) dX4_copyFrom_174 fl_X4_65 ⟨_, rfl, rfl⟩ rfl rfl ?_
  refine ZW.puti (fz := 13) dX4_copyFrom_177 fp_X4_65 ⟨_, rfl, rfl⟩ rfl ?_
  refine ZW.vret dX4_copyFrom_180 rfl ?_
  refine ⟨?_, StF.copy hS h16 ⟨rfl, rfl⟩ (fun x x0 x1 => show zCpy (g 4) (g 16) 0 0 63 x = g 4 x from zCpy_in x0 x1) (fun x x0 x1 => show zCpy (g 5) (g 17) 0 0 63 x = g 5 x from zCpy_in x0 x1) (fun x x0 x1 => show zCpy (g 6) (g 18) 0 0 63 x = g 6 x from zCpy_in x0 x1) (fun x x0 x1 => show zCpy (g 7) (g 19) 0 0 63 x = g 7 x from zCpy_in x0 x1) (fun x x0 x1 => show zCpy (g 8) (g 20) 0 0 2 x = g 8 x from zCpy_in x0 x1) (fun x x0 x1 => show zCpy (g 9) (g 21) 0 0 16 x = g 9 x from zCpy_in x0 x1) (fun x x0 x1 => show zCpy (g 10) (g 22) 0 0 16 x = g 10 x from zCpy_in x0 x1) (fun x x0 x1 => show zCpy (g 11) (g 23) 0 0 16 x = g 11 x from zCpy_in x0 x1) (fun x x0 x1 => show zCpy (g 12) (g 24) 0 0 16 x = g 12 x from zCpy_in x0 x1) (fun x x0 x1 => show zCpy (g 13) (g 25) 0 0 16 x = g 13 x from zCpy_in x0 x1) (fun x x0 x1 => show zCpy (g 14) (g 26) 0 0 16 x = g 14 x from zCpy_in x0 x1)⟩
  repeat (first | exact zFr.rf _ _ | refine zFr.row ?_ (by decide) _ | refine zFr.set ?_ (by decide) _ _)
set_option maxRecDepth 100000 in
set_option maxHeartbeats 2000000 in
theorem c_X4_copyFrom_27_3 (g : ZH) {r : Int → Int} (h16 : r 192 ≤ 16) (hS : StAt g 3 r) : ZC 2 mX4_copyFrom [.inr 27, .inr 3] g (fun _ g' => zFr [27, 28, 29, 30, 31, 32, 33, 34, 35, 36, 37, 38] g g' ∧ StAt g' 27 r) := by
  refine ZC.of (by decide +kernel) (Nat.le_of_ble_eq_true rfl) ?_
  refine ZW.aload_n dX4_copyFrom_0 rfl ?_
  refine ZW.getR dX4_copyFrom_1 fl_X4_9 ⟨_, rfl, rfl⟩ ?_
  refine ZW.iconst dX4_copyFrom_4 ?_
  refine ZW.aload_n dX4_copyFrom_5 rfl ?_
  refine ZW.getR dX4_copyFrom_6 fl_X4_9 ⟨_, rfl, rfl⟩ ?_
  refine ZW.iconst dX4_copyFrom_9 ?_
  refine ZW.bipush dX4_copyFrom_10 rfl ?_
  refine ZW.copy dX4_copyFrom_12 (mmW_2 48 rfl rfl) (mmW_2 50 rfl rfl) (mmW_2 49 rfl rfl) (mmW_1 11 rfl rfl) rfl rfl (by decide) (by omega) (by decide) (Nat.le_of_ble_eq_true rfl) ?_
  refine ZW.aload_n dX4_copyFrom_15 rfl ?_
  refine ZW.getR dX4_copyFrom_16 fl_X4_15 ⟨_, rfl, rfl⟩ ?_
  refine ZW.iconst dX4_copyFrom_19 ?_
  refine ZW.aload_n dX4_copyFrom_20 rfl ?_
  refine ZW.getR dX4_copyFrom_21 fl_X4_15 ⟨_, rfl, rfl⟩ ?_
  refine ZW.iconst dX4_copyFrom_24 ?_
  refine ZW.bipush dX4_copyFrom_25 rfl ?_
  refine ZW.copy dX4_copyFrom_27 (mmW_2 48 rfl rfl) (mmW_2 50 rfl rfl) (mmW_2 49 rfl rfl) (mmW_1 11 rfl rfl) rfl rfl (by decide) (by omega) (by decide) (Nat.le_of_ble_eq_true rfl) ?_
  refine ZW.aload_n dX4_copyFrom_30 rfl ?_
  refine ZW.getR dX4_copyFrom_31 fl_X4_18 ⟨_, rfl, rfl⟩ ?_
  refine ZW.iconst dX4_copyFrom_34 ?_
  refine ZW.aload_n dX4_copyFrom_35 rfl ?_
  refine ZW.getR dX4_copyFrom_36 fl_X4_18 ⟨_, rfl, rfl⟩ ?_
  refine ZW.iconst dX4_copyFrom_39 ?_
  refine ZW.bipush dX4_copyFrom_40 rfl ?_
  refine ZW.copy dX4_copyFrom_42 (mmW_2 48 rfl rfl) (mmW_2 50 rfl rfl) (mmW_2 49 rfl rfl) (mmW_1 11 rfl rfl) rfl rfl (by decide) (by omega) (by decide) (Nat.le_of_ble_eq_true rfl) ?_
  refine ZW.aload_n dX4_copyFrom_45 rfl ?_
  refine ZW.getR dX4_copyFrom_46 fl_X4_21 ⟨_, rfl, rfl⟩ ?_
  refine ZW.iconst dX4_copyFrom_49 ?_
  refine ZW.aload_n dX4_copyFrom_50 rfl ?_
  refine ZW.getR dX4_copyFrom_51 fl_X4_21 ⟨_, rfl, rfl⟩ ?_
  refine ZW.iconst dX4_copyFrom_54 ?_
  refine ZW.bipush dX4_copyFrom_55 rfl ?_
  refine ZW.copy dX4_copyFrom_57 (mmW_2 48 rfl rfl) (mmW_2 50 rfl rfl) (mmW_2 49 rfl rfl) (mmW_1 11 rfl rfl) rfl rfl (by decide) (by omega) (by decide) (Nat.le_of_ble_eq_true rfl) ?_
  refine ZW.aload_n dX4_copyFrom_60 rfl ?_
  refine ZW.getR dX4_copyFrom_61 fl_X4_24 ⟨_, rfl, rfl⟩ ?_
  refine ZW.iconst dX4_copyFrom_64 ?_
  refine ZW.aload_n dX4_copyFrom_65 rfl ?_
  refine ZW.getR dX4_copyFrom_66 fl_X4_24 ⟨_, rfl, rfl⟩ ?_
  refine ZW.iconst dX4_copyFrom_69 ?_
  refine ZW.iconst dX4_copyFrom_70 ?_
  refine ZW.copy dX4_copyFrom_71 (mmW_2 48 rfl rfl) (mmW_2 50 rfl rfl) (mmW_2 49 rfl rfl) (mmW_1 11 rfl rfl) rfl rfl (by decide) (by omega) (by decide) (Nat.le_of_ble_eq_true rfl) ?_
  refine ZW.aload_n dX4_copyFrom_74 rfl ?_
  refine ZW.aload_n dX4_copyFrom_75 rfl ?_
  refine ZW.getI (fz := 6) dX4_copyFrom_76 fl_X4_61 ⟨_, rfl, rfl⟩ rfl rfl ?_
  refine ZW.puti (fz := 6) dX4_copyFrom_79 fp_X4_61 ⟨_, rfl, rfl⟩ rfl ?_
  refine ZW.aload_n dX4_copyFrom_82 rfl ?_
  refine ZW.getR dX4_copyFrom_83 fl_X4_27 ⟨_, rfl, rfl⟩ ?_
  refine ZW.iconst dX4_copyFrom_86 ?_
  refine ZW.aload_n dX4_copyFrom_87 rfl ?_
  refine ZW.getR dX4_copyFrom_88 fl_X4_27 ⟨_, rfl, rfl⟩ ?_
  refine ZW.iconst dX4_copyFrom_91 ?_
  refine ZW.bipush dX4_copyFrom_92 rfl ?_
  refine ZW.copy dX4_copyFrom_94 (mmW_2 48 rfl rfl) (mmW_2 50 rfl rfl) (mmW_2 49 rfl rfl) (mmW_1 11 rfl rfl) rfl rfl (by decide) (by omega) (by decide) (Nat.le_of_ble_eq_true rfl) ?_
  refine ZW.aload_n dX4_copyFrom_97 rfl ?_
  refine ZW.getR dX4_copyFrom_98 fl_X4_30 ⟨_, rfl, rfl⟩ ?_
  refine ZW.iconst dX4_copyFrom_101 ?_
  refine ZW.aload_n dX4_copyFrom_102 rfl ?_
  refine ZW.getR dX4_copyFrom_103 fl_X4_30 ⟨_, rfl, rfl⟩ ?_
  refine ZW.iconst dX4_copyFrom_106 ?_
  refine ZW.bipush dX4_copyFrom_107 rfl ?_
  refine ZW.copy dX4_copyFrom_109 (mmW_2 48 rfl rfl) (mmW_2 50 rfl rfl) (mmW_2 49 rfl rfl) (mmW_1 11 rfl rfl) rfl rfl (by decide) (by omega) (by decide) (Nat.le_of_ble_eq_true rfl) ?_
  refine ZW.aload_n dX4_copyFrom_112 rfl ?_
  refine ZW.getR dX4_copyFrom_113 fl_X4_33 ⟨_, rfl, rfl⟩ ?_
  refine ZW.iconst dX4_copyFrom_116 ?_
  refine ZW.aload_n dX4_copyFrom_117 rfl ?_
  refine ZW.getR dX4_copyFrom_118 fl_X4_33 ⟨_, rfl, rfl⟩ ?_
  refine ZW.iconst dX4_copyFrom_121 ?_
  refine ZW.bipush dX4_copyFrom_122 rfl ?_
  refine ZW.copy dX4_copyFrom_124 (mmW_2 48 rfl rfl) (mmW_2 50 rfl rfl) (mmW_2 49 rfl rfl) (mmW_1 11 rfl rfl) rfl rfl (by decide) (by omega) (by decide) (Nat.le_of_ble_eq_true rfl) ?_
  refine ZW.aload_n dX4_copyFrom_127 rfl ?_
  refine ZW.getR dX4_copyFrom_128 fl_X4_36 ⟨_, rfl, rfl⟩ ?_
  refine ZW.iconst dX4_copyFrom_131 ?_
  refine ZW.aload_n dX4_copyFrom_132 rfl ?_
  refine ZW.getR dX4_copyFrom_133 fl_X4_36 ⟨_, rfl, rfl⟩ ?_
  refine ZW.iconst dX4_copyFrom_136 ?_
  refine ZW.bipush dX4_copyFrom_137 rfl ?_
  refine ZW.copy dX4_copyFrom_139 (mmW_2 48 rfl rfl) (mmW_2 50 rfl rfl) (mmW_2 49 rfl rfl) (mmW_1 11 rfl rfl) rfl rfl (by decide) (by omega) (by decide) (Nat.le_of_ble_eq_true rfl) ?_
  refine ZW.aload_n dX4_copyFrom_142 rfl ?_
  refine ZW.getR dX4_copyFrom_143 fl_X4_39 ⟨_, rfl, rfl⟩ ?_
  refine ZW.iconst dX4_copyFrom_146 ?_
  refine ZW.aload_n dX4_copyFrom_147 rfl ?_
  refine ZW.getR dX4_copyFrom_148 fl_X4_39 ⟨_, rfl, rfl⟩ ?_
  refine ZW.iconst dX4_copyFrom_151 ?_
  refine ZW.bipush dX4_copyFrom_152 rfl ?_
  refine ZW.copy dX4_copyFrom_154 (mmW_2 48 rfl rfl) (mmW_2 50 rfl rfl) (mmW_2 49 rfl rfl) (mmW_1 11 rfl rfl) rfl rfl (by decide) (by omega) (by decide) (Nat.le_of_ble_eq_true rfl) ?_
  refine ZW.aload_n dX4_copyFrom_157 rfl ?_
  refine ZW.getR dX4_copyFrom_158 fl_X4_42 ⟨_, rfl, rfl⟩ ?_
  refine ZW.iconst dX4_copyFrom_161 ?_
  refine ZW.aload_n dX4_copyFrom_162 rfl ?_
  refine ZW.getR dX4_copyFrom_163 fl_X4_42 ⟨_, rfl, rfl⟩ ?_
  refine ZW.iconst dX4_copyFrom_166 ?_
  refine ZW.bipush dX4_copyFrom_167 rfl ?_
  refine ZW.copy dX4_copyFrom_169 (mmW_2 48 rfl rfl) (mmW_2 50 rfl rfl) (mmW_2 49 rfl rfl) (mmW_1 11 rfl rfl) rfl rfl (by decide) (by omega) (by decide) (Nat.le_of_ble_eq_true rfl) ?_
  refine ZW.aload_n dX4_copyFrom_172 rfl ?_
  refine ZW.aload_n dX4_copyFrom_173 rfl ?_
  refine ZW.getI (fz := 13) dX4_copyFrom_174 fl_X4_65 ⟨_, rfl, rfl⟩ rfl rfl ?_
  refine ZW.puti (fz := 13) dX4_copyFrom_177 fp_X4_65 ⟨_, rfl, rfl⟩ rfl ?_
  refine ZW.vret dX4_copyFrom_180 rfl ?_
  refine ⟨?_, StF.copy hS h16 ⟨rfl, rfl⟩ (fun x x0 x1 => show zCpy (g 4) (g 28) 0 0 63 x = g 4 x from zCpy_in x0 x1) (fun x x0 x1 => show zCpy (g 5) (g 29) 0 0 63 x = g 5 x from zCpy_in x0 x1) (fun x x0 x1 => show zCpy (g 6) (g 30) 0 0 63 x = g 6 x from zCpy_in x0 x1) (fun x x0 x1 => show zCpy (g 7) (g 31) 0 0 63 x = g 7 x from zCpy_in x0 x1) (fun x x0 x1 => show zCpy (g 8) (g 32) 0 0 2 x = g 8 x from zCpy_in x0 x1) (fun x x0 x1 => show zCpy (g 9) (g 33) 0 0 16 x = g 9 x from zCpy_in x0 x1) (fun x x0 x1 => show zCpy (g 10) (g 34) 0 0 16 x = g 10 x from zCpy_in x0 x1) (fun x x0 x1 => show zCpy (g 11) (g 35) 0 0 16 x = g 11 x from zCpy_in x0 x1) (fun x x0 x1 => show zCpy (g 12) (g 36) 0 0 16 x = g 12 x from zCpy_in x0 x1) (fun x x0 x1 => show zCpy (g 13) (g 37) 0 0 16 x = g 13 x from zCpy_in x0 x1) (fun x x0 x1 => show zCpy (g 14) (g 38) 0 0 16 x = g 14 x from zCpy_in x0 x1)⟩
  repeat (first | exact zFr.rf _ _ | refine zFr.row ?_ (by decide) _ | refine zFr.set ?_ (by decide) _ _)
set_option maxRecDepth 100000 in
set_option maxHeartbeats 2000000 in
theorem c_X4_copyFrom_3_15 (g : ZH) {r : Int → Int} (h16 : r 192 ≤ 16) (hS : StAt g 15 r) : ZC 2 mX4_copyFrom [.inr 3, .inr 15] g (fun _ g' => zFr [3, 4, 5, 6, 7, 8, 9, 10, 11, 12, 13, 14] g g' ∧ StAt g' 3 r) := by
  refine ZC.of (by decide +kernel) (Nat.le_of_ble_eq_true rfl) ?_
  refine ZW.aload_n dX4_copyFrom_0 rfl ?_
  refine ZW.getR dX4_copyFrom_1 fl_X4_9 ⟨_, rfl, rfl⟩ ?_
  refine ZW.iconst dX4_copyFrom_4 ?_
  refine ZW.aload_n dX4_copyFrom_5 rfl ?_
  refine ZW.getR dX4_copyFrom_6 fl_X4_9 ⟨_, rfl, rfl⟩ ?_
  refine ZW.iconst dX4_copyFrom_9 ?_
  refine ZW.bipush dX4_copyFrom_10 rfl ?_
  refine ZW.copy dX4_copyFrom_12 (mmW_2 48 rfl rfl) (mmW_2 50 rfl rfl) (mmW_2 49 rfl rfl) (mmW_1 11 rfl rfl) rfl rfl (by decide) (by omega) (by decide) (Nat.le_of_ble_eq_true rfl) ?_
  refine ZW.aload_n dX4_copyFrom_15 rfl ?_
  refine ZW.getR dX4_copyFrom_16 fl_X4_15 ⟨_, rfl, rfl⟩ ?_
  refine ZW.iconst dX4_copyFrom_19 ?_
  refine ZW.aload_n dX4_copyFrom_20 rfl ?_
  refine ZW.getR dX4_copyFrom_21 fl_X4_15 ⟨_, rfl, rfl⟩ ?_
  refine ZW.iconst dX4_copyFrom_24 ?_
  refine ZW.bipush dX4_copyFrom_25 rfl ?_
  refine ZW.copy dX4_copyFrom_27 (mmW_2 48 rfl rfl) (mmW_2 50 rfl rfl) (mmW_2 49 rfl rfl) (mmW_1 11 rfl rfl) rfl rfl (by decide) (by omega) (by decide) (Nat.le_of_ble_eq_true rfl) ?_
  refine ZW.aload_n dX4_copyFrom_30 rfl ?_
  refine ZW.getR dX4_copyFrom_31 fl_X4_18 ⟨_, rfl, rfl⟩ ?_
  refine ZW.iconst dX4_copyFrom_34 ?_
  refine ZW.aload_n dX4_copyFrom_35 rfl ?_
  refine ZW.getR dX4_copyFrom_36 fl_X4_18 ⟨_, rfl, rfl⟩ ?_
  refine ZW.iconst dX4_copyFrom_39 ?_
  refine ZW.bipush dX4_copyFrom_40 rfl ?_
  refine ZW.copy dX4_copyFrom_42 (mmW_2 48 rfl rfl) (mmW_2 50 rfl rfl) (mmW_2 49 rfl rfl) (mmW_1 11 rfl rfl) rfl rfl (by decide) (by omega) (by decide) (Nat.le_of_ble_eq_true rfl) ?_
  refine ZW.aload_n dX4_copyFrom_45 rfl ?_
  refine ZW.getR dX4_copyFrom_46 fl_X4_21 ⟨_, rfl, rfl⟩ ?_
  refine ZW.iconst dX4_copyFrom_49 ?_
  refine ZW.aload_n dX4_copyFrom_50 rfl ?_
  refine ZW.getR dX4_copyFrom_51 fl_X4_21 ⟨_, rfl, rfl⟩ ?_
  refine ZW.iconst dX4_copyFrom_54 ?_
  refine ZW.bipush dX4_copyFrom_55 rfl ?_
  refine ZW.copy dX4_copyFrom_57 (mmW_2 48 rfl rfl) (mmW_2 50 rfl rfl) (mmW_2 49 rfl rfl) (mmW_1 11 rfl rfl) rfl rfl (by decide) (by omega) (by decide) (Nat.le_of_ble_eq_true rfl) ?_
  refine ZW.aload_n dX4_copyFrom_60 rfl ?_
  refine ZW.getR dX4_copyFrom_61 fl_X4_24 ⟨_, rfl, rfl⟩ ?_
  refine ZW.iconst dX4_copyFrom_64 ?_
  refine ZW.aload_n dX4_copyFrom_65 rfl ?_
  refine ZW.getR dX4_copyFrom_66 fl_X4_24 ⟨_, rfl, rfl⟩ ?_
  refine ZW.iconst dX4_copyFrom_69 ?_
  refine ZW.iconst dX4_copyFrom_70 ?_
  refine ZW.copy dX4_copyFrom_71 (mmW_2 48 rfl rfl) (mmW_2 50 rfl rfl) (mmW_2 49 rfl rfl) (mmW_1 11 rfl rfl) rfl rfl (by decide) (by omega) (by decide) (Nat.le_of_ble_eq_true rfl) ?_
  refine ZW.aload_n dX4_copyFrom_74 rfl ?_
  refine ZW.aload_n dX4_copyFrom_75 rfl ?_
  refine ZW.getI (fz := 6) dX4_copyFrom_76 fl_X4_61 ⟨_, rfl, rfl⟩ rfl rfl ?_
  refine ZW.puti (fz := 6) dX4_copyFrom_79 fp_X4_61 ⟨_, rfl, rfl⟩ rfl ?_
  refine ZW.aload_n dX4_copyFrom_82 rfl ?_
  refine ZW.getR dX4_copyFrom_83 fl_X4_27 ⟨_, rfl, rfl⟩ ?_
  refine ZW.iconst dX4_copyFrom_86 ?_
  refine ZW.aload_n dX4_copyFrom_87 rfl ?_
  refine ZW.getR dX4_copyFrom_88 fl_X4_27 ⟨_, rfl, rfl⟩ ?_
  refine ZW.iconst dX4_copyFrom_91 ?_
  refine ZW.bipush dX4_copyFrom_92 rfl ?_
  refine ZW.copy dX4_copyFrom_94 (mmW_2 48 rfl rfl) (mmW_2 50 rfl rfl) (mmW_2 49 rfl rfl) (mmW_1 11 rfl rfl) rfl rfl (by decide) (by omega) (by decide) (Nat.le_of_ble_eq_true rfl) ?_
  refine ZW.aload_n dX4_copyFrom_97 rfl ?_
  refine ZW.getR dX4_copyFrom_98 fl_X4_30 ⟨_, rfl, rfl⟩ ?_
  refine ZW.iconst dX4_copyFrom_101 ?_
  refine ZW.aload_n dX4_copyFrom_102 rfl ?_
  refine ZW.getR dX4_copyFrom_103 fl_X4_30 ⟨_, rfl, rfl⟩ ?_
  refine ZW.iconst dX4_copyFrom_106 ?_
  refine ZW.bipush dX4_copyFrom_107 rfl ?_
  refine ZW.copy dX4_copyFrom_109 (mmW_2 48 rfl rfl) (mmW_2 50 rfl rfl) (mmW_2 49 rfl rfl) (mmW_1 11 rfl rfl) rfl rfl (by decide) (by omega) (by decide) (Nat.le_of_ble_eq_true rfl) ?_
  refine ZW.aload_n dX4_copyFrom_112 rfl ?_
  refine ZW.getR dX4_copyFrom_113 fl_X4_33 ⟨_, rfl, rfl⟩ ?_
  refine ZW.iconst dX4_copyFrom_116 ?_
  refine ZW.aload_n dX4_copyFrom_117 rfl ?_
  refine ZW.getR dX4_copyFrom_118 fl_X4_33 ⟨_, rfl, rfl⟩ ?_
  refine ZW.iconst dX4_copyFrom_121 ?_
  refine ZW.bipush dX4_copyFrom_122 rfl ?_
  refine ZW.copy dX4_copyFrom_124 (mmW_2 48 rfl rfl) (mmW_2 50 rfl rfl) (mmW_2 49 rfl rfl) (mmW_1 11 rfl rfl) rfl rfl (by decide) (by omega) (by decide) (Nat.le_of_ble_eq_true rfl) ?_
  refine ZW.aload_n dX4_copyFrom_127 rfl ?_
  refine ZW.getR dX4_copyFrom_128 fl_X4_36 ⟨_, rfl, rfl⟩ ?_
  refine ZW.iconst dX4_copyFrom_131 ?_
  refine ZW.aload_n dX4_copyFrom_132 rfl ?_
  refine ZW.getR dX4_copyFrom_133 fl_X4_36 ⟨_, rfl, rfl⟩ ?_
  refine ZW.iconst dX4_copyFrom_136 ?_
  refine ZW.bipush dX4_copyFrom_137 rfl ?_
  refine ZW.copy dX4_copyFrom_139 (mmW_2 48 rfl rfl) (mmW_2 50 rfl rfl) (mmW_2 49 rfl rfl) (mmW_1 11 rfl rfl) rfl rfl (by decide) (by omega) (by decide) (Nat.le_of_ble_eq_true rfl) ?_
  refine ZW.aload_n dX4_copyFrom_142 rfl ?_
  refine ZW.getR dX4_copyFrom_143 fl_X4_39 ⟨_, rfl, rfl⟩ ?_
  refine ZW.iconst dX4_copyFrom_146 ?_
  refine ZW.aload_n dX4_copyFrom_147 rfl ?_
  refine ZW.getR dX4_copyFrom_148 fl_X4_39 ⟨_, rfl, rfl⟩ ?_
  refine ZW.iconst dX4_copyFrom_151 ?_
  refine ZW.bipush dX4_copyFrom_152 rfl ?_
  refine ZW.copy dX4_copyFrom_154 (mmW_2 48 rfl rfl) (mmW_2 50 rfl rfl) (mmW_2 49 rfl rfl) (mmW_1 11 rfl rfl) rfl rfl (by decide) (by omega) (by decide) (Nat.le_of_ble_eq_true rfl) ?_
  refine ZW.aload_n dX4_copyFrom_157 rfl ?_
  refine ZW.getR dX4_copyFrom_158 fl_X4_42 ⟨_, rfl, rfl⟩ ?_
  refine ZW.iconst dX4_copyFrom_161 ?_
  refine ZW.aload_n dX4_copyFrom_162 rfl ?_
  refine ZW.getR dX4_copyFrom_163 fl_X4_42 ⟨_, rfl, rfl⟩ ?_
  refine ZW.iconst dX4_copyFrom_166 ?_
  refine ZW.bipush dX4_copyFrom_167 rfl ?_
  refine ZW.copy dX4_copyFrom_169 (mmW_2 48 rfl rfl) (mmW_2 50 rfl rfl) (mmW_2 49 rfl rfl) (mmW_1 11 rfl rfl) rfl rfl (by decide) (by omega) (by decide) (Nat.le_of_ble_eq_true rfl) ?_
  refine ZW.aload_n dX4_copyFrom_172 rfl ?_
  refine ZW.aload_n dX4_copyFrom_173 rfl ?_
  refine ZW.getI (fz := 13) dX4_copyFrom_174 fl_X4_65 ⟨_, rfl, rfl⟩ rfl rfl ?_
  refine ZW.puti (fz := 13) dX4_copyFrom_177 fp_X4_65 ⟨_, rfl, rfl⟩ rfl ?_
  refine ZW.vret dX4_copyFrom_180 rfl ?_
  refine ⟨?_, StF.copy hS h16 ⟨rfl, rfl⟩ (fun x x0 x1 => show zCpy (g 16) (g 4) 0 0 63 x = g 16 x from zCpy_in x0 x1) (fun x x0 x1 => show zCpy (g 17) (g 5) 0 0 63 x = g 17 x from zCpy_in x0 x1) (fun x x0 x1 => show zCpy (g 18) (g 6) 0 0 63 x = g 18 x from zCpy_in x0 x1) (fun x x0 x1 => show zCpy (g 19) (g 7) 0 0 63 x = g 19 x from zCpy_in x0 x1) (fun x x0 x1 => show zCpy (g 20) (g 8) 0 0 2 x = g 20 x from zCpy_in x0 x1) (fun x x0 x1 => show zCpy (g 21) (g 9) 0 0 16 x = g 21 x from zCpy_in x0 x1) (fun x x0 x1 => show zCpy (g 22) (g 10) 0 0 16 x = g 22 x from zCpy_in x0 x1) (fun x x0 x1 => show zCpy (g 23) (g 11) 0 0 16 x = g 23 x from zCpy_in x0 x1) (fun x x0 x1 => show zCpy (g 24) (g 12) 0 0 16 x = g 24 x from zCpy_in x0 x1) (fun x x0 x1 => show zCpy (g 25) (g 13) 0 0 16 x = g 25 x from zCpy_in x0 x1) (fun x x0 x1 => show zCpy (g 26) (g 14) 0 0 16 x = g 26 x from zCpy_in x0 x1)⟩
  repeat (first | exact zFr.rf _ _ | refine zFr.row ?_ (by decide) _ | refine zFr.set ?_ (by decide) _ _)
set_option maxRecDepth 100000 in
set_option maxHeartbeats 2000000 in
theorem c_X4_copyFrom_3_27 (g : ZH) {r : Int → Int} (h16 : r 192 ≤ 16) (hS : StAt g 27 r) : ZC 2 mX4_copyFrom [.inr 3, .inr 27] g (fun _ g' => zFr [3, 4, 5, 6, 7, 8, 9, 10, 11, 12, 13, 14] g g' ∧ StAt g' 3 r) := by
  refine ZC.of (by decide +kernel) (Nat.le_of_ble_eq_true rfl) ?_
  refine ZW.aload_n dX4_copyFrom_0 rfl ?_
  refine ZW.getR dX4_copyFrom_1 fl_X4_9 ⟨_, rfl, rfl⟩ ?_
  refine ZW.iconst dX4_copyFrom_4 ?_
  refine ZW.aload_n dX4_copyFrom_5 rfl ?_
  refine ZW.getR dX4_copyFrom_6 fl_X4_9 ⟨_, rfl, rfl⟩ ?_
  refine ZW.iconst dX4_copyFrom_9 ?_
  refine ZW.bipush dX4_copyFrom_10 rfl ?_
  refine ZW.copy dX4_copyFrom_12 (mmW_2 48 rfl rfl) (mmW_2 50 rfl rfl) (mmW_2 49 rfl rfl) (mmW_1 11 rfl rfl) rfl rfl (by decide) (by omega) (by decide) (Nat.le_of_ble_eq_true rfl) ?_
  refine ZW.aload_n dX4_copyFrom_15 rfl ?_
  refine ZW.getR dX4_copyFrom_16 fl_X4_15 ⟨_, rfl, rfl⟩ ?_
  refine ZW.iconst dX4_copyFrom_19 ?_
  refine ZW.aload_n dX4_copyFrom_20 rfl ?_
  refine ZW.getR dX4_copyFrom_21 fl_X4_15 ⟨_, rfl, rfl⟩ ?_
  refine ZW.iconst dX4_copyFrom_24 ?_
  refine ZW.bipush dX4_copyFrom_25 rfl ?_
  refine ZW.copy dX4_copyFrom_27 (mmW_2 48 rfl rfl) (mmW_2 50 rfl rfl) (mmW_2 49 rfl rfl) (mmW_1 11 rfl rfl) rfl rfl (by decide) (by omega) (by decide) (Nat.le_of_ble_eq_true rfl) ?_
  refine ZW.aload_n dX4_copyFrom_30 rfl ?_
  refine ZW.getR dX4_copyFrom_31 fl_X4_18 ⟨_, rfl, rfl⟩ ?_
  refine ZW.iconst dX4_copyFrom_34 ?_
  refine ZW.aload_n dX4_copyFrom_35 rfl ?_
  refine ZW.getR dX4_copyFrom_36 fl_X4_18 ⟨_, rfl, rfl⟩ ?_
  refine ZW.iconst dX4_copyFrom_39 ?_
  refine ZW.bipush dX4_copyFrom_40 rfl ?_
  refine ZW.copy dX4_copyFrom_42 (mmW_2 48 rfl rfl) (mmW_2 50 rfl rfl) (mmW_2 49 rfl rfl) (mmW_1 11 rfl rfl) rfl rfl (by decide) (by omega) (by decide) (Nat.le_of_ble_eq_true rfl) ?_
  refine ZW.aload_n dX4_copyFrom_45 rfl ?_
  refine ZW.getR dX4_copyFrom_46 fl_X4_21 ⟨_, rfl, rfl⟩ ?_
  refine ZW.iconst dX4_copyFrom_49 ?_
  refine ZW.aload_n dX4_copyFrom_50 rfl ?_
  refine ZW.getR dX4_copyFrom_51 fl_X4_21 ⟨_, rfl, rfl⟩ ?_
  refine ZW.iconst dX4_copyFrom_54 ?_
  refine ZW.bipush dX4_copyFrom_55 rfl ?_
  refine ZW.copy dX4_copyFrom_57 (mmW_2 48 rfl rfl) (mmW_2 50 rfl rfl) (mmW_2 49 rfl rfl) (mmW_1 11 rfl rfl) rfl rfl (by decide) (by omega) (by decide) (Nat.le_of_ble_eq_true rfl) ?_
  refine ZW.aload_n dX4_copyFrom_60 rfl ?_
  refine ZW.getR dX4_copyFrom_61 fl_X4_24 ⟨_, rfl, rfl⟩ ?_
  refine ZW.iconst dX4_copyFrom_64 ?_
  refine ZW.aload_n dX4_copyFrom_65 rfl ?_
  refine ZW.getR dX4_copyFrom_66 fl_X4_24 ⟨_, rfl, rfl⟩ ?_
  refine ZW.iconst dX4_copyFrom_69 ?_
  refine ZW.iconst dX4_copyFrom_70 ?_
  refine ZW.copy dX4_copyFrom_71 (mmW_2 48 rfl rfl) (mmW_2 50 rfl rfl) (mmW_2 49 rfl rfl) (mmW_1 11 rfl rfl) rfl rfl (by decide) (by omega) (by decide) (Nat.le_of_ble_eq_true rfl) ?_
  refine ZW.aload_n dX4_copyFrom_74 rfl ?_
  refine ZW.aload_n dX4_copyFrom_75 rfl ?_
  refine ZW.getI (fz := 6) dX4_copyFrom_76 fl_X4_61 ⟨_, rfl, rfl⟩ rfl rfl ?_
  refine ZW.puti (fz := 6) dX4_copyFrom_79 fp_X4_61 ⟨_, rfl, rfl⟩ rfl ?_
  refine ZW.aload_n dX4_copyFrom_82 rfl ?_
  refine ZW.getR dX4_copyFrom_83 fl_X4_27 ⟨_, rfl, rfl⟩ ?_
  refine ZW.iconst dX4_copyFrom_86 ?_
  refine ZW.aload_n dX4_copyFrom_87 rfl ?_
  refine ZW.getR dX4_copyFrom_88 fl_X4_27 ⟨_, rfl, rfl⟩ ?_
  refine ZW.iconst dX4_copyFrom_91 ?_
  refine ZW.bipush dX4_copyFrom_92 rfl ?_
  refine ZW.copy dX4_copyFrom_94 (mmW_2 48 rfl rfl) (mmW_2 50 rfl rfl) (mmW_2 49 rfl rfl) (mmW_1 11 rfl rfl) rfl rfl (by decide) (by omega) (by decide) (Nat.le_of_ble_eq_true rfl) ?_
  refine ZW.aload_n dX4_copyFrom_97 rfl ?_
  refine ZW.getR dX4_copyFrom_98 fl_X4_30 ⟨_, rfl, rfl⟩ ?_
  refine ZW.iconst dX4_copyFrom_101 ?_
  refine ZW.aload_n dX4_copyFrom_102 rfl ?_
  refine ZW.getR dX4_copyFrom_103 fl_X4_30 ⟨_, rfl, rfl⟩ ?_
  refine ZW.iconst dX4_copyFrom_106 ?_
  refine ZW.bipush dX4_copyFrom_107 rfl ?_
  refine ZW.copy dX4_copyFrom_109 (mmW_2 48 rfl rfl) (mmW_2 50 rfl rfl) (mmW_2 49 rfl rfl) (mmW_1 11 rfl rfl) rfl rfl (by decide) (by omega) (by decide) (Nat.le_of_ble_eq_true rfl) ?_
  refine ZW.aload_n dX4_copyFrom_112 rfl ?_
  refine ZW.getR dX4_copyFrom_113 fl_X4_33 ⟨_, rfl, rfl⟩ ?_
  refine ZW.iconst dX4_copyFrom_116 ?_
  refine ZW.aload_n dX4_copyFrom_117 rfl ?_
  refine ZW.getR dX4_copyFrom_118 fl_X4_33 ⟨_, rfl, rfl⟩ ?_
  refine ZW.iconst dX4_copyFrom_121 ?_
  refine ZW.bipush dX4_copyFrom_122 rfl ?_
  refine ZW.copy dX4_copyFrom_124 (mmW_2 48 rfl rfl) (mmW_2 50 rfl rfl) (mmW_2 49 rfl rfl) (mmW_1 11 rfl rfl) rfl rfl (by decide) (by omega) (by decide) (Nat.le_of_ble_eq_true rfl) ?_
  refine ZW.aload_n dX4_copyFrom_127 rfl ?_
  refine ZW.getR dX4_copyFrom_128 fl_X4_36 ⟨_, rfl, rfl⟩ ?_
  refine ZW.iconst dX4_copyFrom_131 ?_
  refine ZW.aload_n dX4_copyFrom_132 rfl ?_
  refine ZW.getR dX4_copyFrom_133 fl_X4_36 ⟨_, rfl, rfl⟩ ?_
  refine ZW.iconst dX4_copyFrom_136 ?_
  refine ZW.bipush dX4_copyFrom_137 rfl ?_
  refine ZW.copy dX4_copyFrom_139 (mmW_2 48 rfl rfl) (mmW_2 50 rfl rfl) (mmW_2 49 rfl rfl) (mmW_1 11 rfl rfl) rfl rfl (by decide) (by omega) (by decide) (Nat.le_of_ble_eq_true rfl) ?_
  refine ZW.aload_n dX4_copyFrom_142 rfl ?_
  refine ZW.getR dX4_copyFrom_143 fl_X4_39 ⟨_, rfl, rfl⟩ ?_
  refine ZW.iconst dX4_copyFrom_146 ?_
  refine ZW.aload_n dX4_copyFrom_147 rfl ?_
  refine ZW.getR dX4_copyFrom_148 fl_X4_39 ⟨_, rfl, rfl⟩ ?_
  refine ZW.iconst dX4_copyFrom_151 ?_
  refine ZW.bipush dX4_copyFrom_152 rfl ?_
  refine ZW.copy dX4_copyFrom_154 (mmW_2 48 rfl rfl) (mmW_2 50 rfl rfl) (mmW_2 49 rfl rfl) (mmW_1 11 rfl rfl) rfl rfl (by decide) (by omega) (by decide) (Nat.le_of_ble_eq_true rfl) ?_
  refine ZW.aload_n dX4_copyFrom_157 rfl ?_
  refine ZW.getR dX4_copyFrom_158 fl_X4_42 ⟨_, rfl, rfl⟩ ?_
  refine ZW.iconst dX4_copyFrom_161 ?_
  refine ZW.aload_n dX4_copyFrom_162 rfl ?_
  refine ZW.getR dX4_copyFrom_163 fl_X4_42 ⟨_, rfl, rfl⟩ ?_
  refine ZW.iconst dX4_copyFrom_166 ?_
  refine ZW.bipush dX4_copyFrom_167 rfl ?_
  refine ZW.copy dX4_copyFrom_169 (mmW_2 48 rfl rfl) (mmW_2 50 rfl rfl) (mmW_2 49 rfl rfl) (mmW_1 11 rfl rfl) rfl rfl (by decide) (by omega) (by decide) (Nat.le_of_ble_eq_true rfl) ?_
  refine ZW.aload_n dX4_copyFrom_172 rfl ?_
  refine ZW.aload_n dX4_copyFrom_173 rfl ?_
  refine ZW.getI (fz := 13) dX4_copyFrom_174 fl_X4_65 ⟨_, rfl, rfl⟩ rfl rfl ?_
  refine ZW.puti (fz := 13) dX4_copyFrom_177 fp_X4_65 ⟨_, rfl, rfl⟩ rfl ?_
  refine ZW.vret dX4_copyFrom_180 rfl ?_
  refine ⟨?_, StF.copy hS h16 ⟨rfl, rfl⟩ (fun x x0 x1 => show zCpy (g 28) (g 4) 0 0 63 x = g 28 x from zCpy_in x0 x1) (fun x x0 x1 => show zCpy (g 29) (g 5) 0 0 63 x = g 29 x from zCpy_in x0 x1) (fun x x0 x1 => show zCpy (g 30) (g 6) 0 0 63 x = g 30 x from zCpy_in x0 x1) (fun x x0 x1 => show zCpy (g 31) (g 7) 0 0 63 x = g 31 x from zCpy_in x0 x1) (fun x x0 x1 => show zCpy (g 32) (g 8) 0 0 2 x = g 32 x from zCpy_in x0 x1) (fun x x0 x1 => show zCpy (g 33) (g 9) 0 0 16 x = g 33 x from zCpy_in x0 x1) (fun x x0 x1 => show zCpy (g 34) (g 10) 0 0 16 x = g 34 x from zCpy_in x0 x1) (fun x x0 x1 => show zCpy (g 35) (g 11) 0 0 16 x = g 35 x from zCpy_in x0 x1) (fun x x0 x1 => show zCpy (g 36) (g 12) 0 0 16 x = g 36 x from zCpy_in x0 x1) (fun x x0 x1 => show zCpy (g 37) (g 13) 0 0 16 x = g 37 x from zCpy_in x0 x1) (fun x x0 x1 => show zCpy (g 38) (g 14) 0 0 16 x = g 38 x from zCpy_in x0 x1)⟩
  repeat (first | exact zFr.rf _ _ | refine zFr.row ?_ (by decide) _ | refine zFr.set ?_ (by decide) _ _)
