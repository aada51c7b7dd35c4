-- the constructors' links
theorem ff_X0_9 : mmFF RX0 9 0 0 := ⟨RX0, TX0, 1, _, rfl, by decide, inX0, mmW_1 37 rfl rfl, rfl, rfl, tyX0_ok 0 (by decide), fun _ => ⟨rfl, rfl⟩, ⟨tyX0, tyX0_ok⟩, nmX0⟩
theorem ff_X4_45 : mmFF RX4 45 4 0 := ⟨RX4, TX4, 14, _, rfl, by decide, inX4, mmW_1 55 rfl rfl, rfl, rfl, tyX4_ok 0 (by decide), fun _ => ⟨rfl, rfl⟩, ⟨tyX4, tyX4_ok⟩, nmX4⟩
theorem ff_X4_9 : mmFF RX4 9 4 1 := ⟨RX4, TX4, 14, _, rfl, by decide, inX4, mmW_1 56 rfl rfl, rfl, rfl, tyX4_ok 1 (by decide), fun _ => ⟨rfl, rfl⟩, ⟨tyX4, tyX4_ok⟩, nmX4⟩
theorem ff_X4_15 : mmFF RX4 15 4 2 := ⟨RX4, TX4, 14, _, rfl, by decide, inX4, mmW_1 60 rfl rfl, rfl, rfl, tyX4_ok 2 (by decide), fun _ => ⟨rfl, rfl⟩, ⟨tyX4, tyX4_ok⟩, nmX4⟩
theorem ff_X4_18 : mmFF RX4 18 4 3 := ⟨RX4, TX4, 14, _, rfl, by decide, inX4, mmW_1 62 rfl rfl, rfl, rfl, tyX4_ok 3 (by decide), fun _ => ⟨rfl, rfl⟩, ⟨tyX4, tyX4_ok⟩, nmX4⟩
theorem ff_X4_21 : mmFF RX4 21 4 4 := ⟨RX4, TX4, 14, _, rfl, by decide, inX4, mmW_1 65 rfl rfl, rfl, rfl, tyX4_ok 4 (by decide), fun _ => ⟨rfl, rfl⟩, ⟨tyX4, tyX4_ok⟩, nmX4⟩
theorem ff_X4_24 : mmFF RX4 24 4 5 := ⟨RX4, TX4, 14, _, rfl, by decide, inX4, mmW_1 67 rfl rfl, rfl, rfl, tyX4_ok 5 (by decide), fun _ => ⟨rfl, rfl⟩, ⟨tyX4, tyX4_ok⟩, nmX4⟩
theorem ff_X4_27 : mmFF RX4 27 4 7 := ⟨RX4, TX4, 14, _, rfl, by decide, inX4, mmW_1 72 rfl rfl, rfl, rfl, tyX4_ok 7 (by decide), fun _ => ⟨rfl, rfl⟩, ⟨tyX4, tyX4_ok⟩, nmX4⟩
theorem ff_X4_30 : mmFF RX4 30 4 8 := ⟨RX4, TX4, 14, _, rfl, by decide, inX4, mmW_1 76 rfl rfl, rfl, rfl, tyX4_ok 8 (by decide), fun _ => ⟨rfl, rfl⟩, ⟨tyX4, tyX4_ok⟩, nmX4⟩
theorem ff_X4_33 : mmFF RX4 33 4 9 := ⟨RX4, TX4, 14, _, rfl, by decide, inX4, mmW_1 79 rfl rfl, rfl, rfl, tyX4_ok 9 (by decide), fun _ => ⟨rfl, rfl⟩, ⟨tyX4, tyX4_ok⟩, nmX4⟩
theorem ff_X4_36 : mmFF RX4 36 4 10 := ⟨RX4, TX4, 14, _, rfl, by decide, inX4, mmW_1 83 rfl rfl, rfl, rfl, tyX4_ok 10 (by decide), fun _ => ⟨rfl, rfl⟩, ⟨tyX4, tyX4_ok⟩, nmX4⟩
theorem ff_X4_39 : mmFF RX4 39 4 11 := ⟨RX4, TX4, 14, _, rfl, by decide, inX4, mmW_1 86 rfl rfl, rfl, rfl, tyX4_ok 11 (by decide), fun _ => ⟨rfl, rfl⟩, ⟨tyX4, tyX4_ok⟩, nmX4⟩
theorem ff_X4_42 : mmFF RX4 42 4 12 := ⟨RX4, TX4, 14, _, rfl, by decide, inX4, mmW_1 88 rfl rfl, rfl, rfl, tyX4_ok 12 (by decide), fun _ => ⟨rfl, rfl⟩, ⟨tyX4, tyX4_ok⟩, nmX4⟩
theorem ff_X2_11 : mmFF RX2 11 2 0 := ⟨RX2, TX2, 3, _, rfl, by decide, inX2, mmW_1 130 rfl rfl, rfl, rfl, tyX2_ok 0 (by decide), fun _ => ⟨rfl, rfl⟩, ⟨tyX2, tyX2_ok⟩, nmX2⟩
theorem ff_X3_9 : mmFF RX3 9 3 0 := ⟨RX3, TX3, 9, _, rfl, by decide, inX3, mmW_1 147 rfl rfl, rfl, rfl, tyX3_ok 0 (by decide), fun _ => ⟨rfl, rfl⟩, ⟨tyX3, tyX3_ok⟩, nmX3⟩
theorem ff_X3_13 : mmFF RX3 13 3 3 := ⟨RX3, TX3, 9, _, rfl, by decide, inX3, mmW_1 152 rfl rfl, rfl, rfl, tyX3_ok 3 (by decide), fun _ => ⟨rfl, rfl⟩, ⟨tyX3, tyX3_ok⟩, nmX3⟩
theorem ff_X3_16 : mmFF RX3 16 3 4 := ⟨RX3, TX3, 9, _, rfl, by decide, inX3, mmW_1 154 rfl rfl, rfl, rfl, tyX3_ok 4 (by decide), fun _ => ⟨rfl, rfl⟩, ⟨tyX3, tyX3_ok⟩, nmX3⟩
theorem ff_X3_20 : mmFF RX3 20 3 5 := ⟨RX3, TX3, 9, _, rfl, by decide, inX3, mmW_1 156 rfl rfl, rfl, rfl, tyX3_ok 5 (by decide), fun _ => ⟨rfl, rfl⟩, ⟨tyX3, tyX3_ok⟩, nmX3⟩
theorem ff_X6_15 : mmFF RX6 15 6 0 := ⟨RX6, TX6, 2, _, rfl, by decide, inX6, mmW_1 187 rfl rfl, rfl, rfl, tyX6_ok 0 (by decide), fun _ => ⟨rfl, rfl⟩, ⟨tyX6, tyX6_ok⟩, nmX6⟩
theorem ff_X6_9 : mmFF RX6 9 6 1 := ⟨RX6, TX6, 2, _, rfl, by decide, inX6, mmW_1 188 rfl rfl, rfl, rfl, tyX6_ok 1 (by decide), fun _ => ⟨rfl, rfl⟩, ⟨tyX6, tyX6_ok⟩, nmX6⟩
theorem ff_X5_19 : mmFF RX5 19 5 0 := ⟨RX5, TX5, 3, _, rfl, by decide, inX5, mmW_1 201 rfl rfl, rfl, rfl, tyX5_ok 0 (by decide), fun _ => ⟨rfl, rfl⟩, ⟨tyX5, tyX5_ok⟩, nmX5⟩
theorem ff_X5_9 : mmFF RX5 9 5 1 := ⟨RX5, TX5, 3, _, rfl, by decide, inX5, mmW_1 202 rfl rfl, rfl, rfl, tyX5_ok 1 (by decide), fun _ => ⟨rfl, rfl⟩, ⟨tyX5, tyX5_ok⟩, nmX5⟩
theorem ff_X5_15 : mmFF RX5 15 5 2 := ⟨RX5, TX5, 3, _, rfl, by decide, inX5, mmW_1 204 rfl rfl, rfl, rfl, tyX5_ok 2 (by decide), fun _ => ⟨rfl, rfl⟩, ⟨tyX5, tyX5_ok⟩, nmX5⟩
theorem ff_X1_7 : mmFF RX1 7 1 0 := ⟨RX1, TX1, 6, _, rfl, by decide, inX1, mmW_1 219 rfl rfl, rfl, rfl, tyX1_ok 0 (by decide), fun _ => ⟨rfl, rfl⟩, ⟨tyX1, tyX1_ok⟩, nmX1⟩
theorem ff_X1_13 : mmFF RX1 13 1 1 := ⟨RX1, TX1, 6, _, rfl, by decide, inX1, mmW_1 220 rfl rfl, rfl, rfl, tyX1_ok 1 (by decide), fun _ => ⟨rfl, rfl⟩, ⟨tyX1, tyX1_ok⟩, nmX1⟩
theorem ff_X7_10 : mmFF RX7 10 7 0 := ⟨RX7, TX7, 10, _, rfl, by decide, inX7, mmW_2 2 rfl rfl, rfl, rfl, tyX7_ok 0 (by decide), fun _ => ⟨rfl, rfl⟩, ⟨tyX7, tyX7_ok⟩, nmX7⟩
theorem ff_X7_21 : mmFF RX7 21 7 1 := ⟨RX7, TX7, 10, _, rfl, by decide, inX7, mmW_2 3 rfl rfl, rfl, rfl, tyX7_ok 1 (by decide), fun _ => ⟨rfl, rfl⟩, ⟨tyX7, tyX7_ok⟩, nmX7⟩
theorem ff_X7_25 : mmFF RX7 25 7 2 := ⟨RX7, TX7, 10, _, rfl, by decide, inX7, mmW_2 4 rfl rfl, rfl, rfl, tyX7_ok 2 (by decide), fun _ => ⟨rfl, rfl⟩, ⟨tyX7, tyX7_ok⟩, nmX7⟩
theorem ff_X7_28 : mmFF RX7 28 7 3 := ⟨RX7, TX7, 10, _, rfl, by decide, inX7, mmW_2 5 rfl rfl, rfl, rfl, tyX7_ok 3 (by decide), fun _ => ⟨rfl, rfl⟩, ⟨tyX7, tyX7_ok⟩, nmX7⟩
theorem ff_X7_34 : mmFF RX7 34 7 5 := ⟨RX7, TX7, 10, _, rfl, by decide, inX7, mmW_2 7 rfl rfl, rfl, rfl, tyX7_ok 5 (by decide), fun _ => ⟨rfl, rfl⟩, ⟨tyX7, tyX7_ok⟩, nmX7⟩
theorem ff_X7_41 : mmFF RX7 41 7 6 := ⟨RX7, TX7, 10, _, rfl, by decide, inX7, mmW_2 8 rfl rfl, rfl, rfl, tyX7_ok 6 (by decide), fun _ => ⟨rfl, rfl⟩, ⟨tyX7, tyX7_ok⟩, nmX7⟩
theorem ff_X7_48 : mmFF RX7 48 7 7 := ⟨RX7, TX7, 10, _, rfl, by decide, inX7, mmW_2 9 rfl rfl, rfl, rfl, tyX7_ok 7 (by decide), fun _ => ⟨rfl, rfl⟩, ⟨tyX7, tyX7_ok⟩, nmX7⟩
theorem ff_X7_55 : mmFF RX7 55 7 8 := ⟨RX7, TX7, 10, _, rfl, by decide, inX7, mmW_2 10 rfl rfl, rfl, rfl, tyX7_ok 8 (by decide), fun _ => ⟨rfl, rfl⟩, ⟨tyX7, tyX7_ok⟩, nmX7⟩
theorem ff_X7_64 : mmFF RX7 64 7 9 := ⟨RX7, TX7, 10, _, rfl, by decide, inX7, mmW_2 11 rfl rfl, rfl, rfl, tyX7_ok 9 (by decide), fun _ => ⟨rfl, rfl⟩, ⟨tyX7, tyX7_ok⟩, nmX7⟩
theorem ff_X8_7 : mmFF RX8 7 8 1 := ⟨RX8, TX8, 18, _, rfl, by decide, inX8, mmW_3 167 rfl rfl, rfl, rfl, tyX8_ok 1 (by decide), fun _ => ⟨rfl, rfl⟩, ⟨tyX8, tyX8_ok⟩, nmX8⟩
theorem ff_X8_13 : mmFF RX8 13 8 2 := ⟨RX8, TX8, 18, _, rfl, by decide, inX8, mmW_3 168 rfl rfl, rfl, rfl, tyX8_ok 2 (by decide), fun _ => ⟨rfl, rfl⟩, ⟨tyX8, tyX8_ok⟩, nmX8⟩
theorem ff_X8_16 : mmFF RX8 16 8 3 := ⟨RX8, TX8, 18, _, rfl, by decide, inX8, mmW_3 169 rfl rfl, rfl, rfl, tyX8_ok 3 (by decide), fun _ => ⟨rfl, rfl⟩, ⟨tyX8, tyX8_ok⟩, nmX8⟩
theorem ff_X8_19 : mmFF RX8 19 8 5 := ⟨RX8, TX8, 18, _, rfl, by decide, inX8, mmW_3 171 rfl rfl, rfl, rfl, tyX8_ok 5 (by decide), fun _ => ⟨rfl, rfl⟩, ⟨tyX8, tyX8_ok⟩, nmX8⟩
theorem ff_X8_22 : mmFF RX8 22 8 7 := ⟨RX8, TX8, 18, _, rfl, by decide, inX8, mmW_3 173 rfl rfl, rfl, rfl, tyX8_ok 7 (by decide), fun _ => ⟨rfl, rfl⟩, ⟨tyX8, tyX8_ok⟩, nmX8⟩
theorem ff_X8_25 : mmFF RX8 25 8 9 := ⟨RX8, TX8, 18, _, rfl, by decide, inX8, mmW_3 175 rfl rfl, rfl, rfl, tyX8_ok 9 (by decide), fun _ => ⟨rfl, rfl⟩, ⟨tyX8, tyX8_ok⟩, nmX8⟩
theorem ff_X8_28 : mmFF RX8 28 8 10 := ⟨RX8, TX8, 18, _, rfl, by decide, inX8, mmW_3 176 rfl rfl, rfl, rfl, tyX8_ok 10 (by decide), fun _ => ⟨rfl, rfl⟩, ⟨tyX8, tyX8_ok⟩, nmX8⟩
theorem ff_X8_32 : mmFF RX8 32 8 11 := ⟨RX8, TX8, 18, _, rfl, by decide, inX8, mmW_3 177 rfl rfl, rfl, rfl, tyX8_ok 11 (by decide), fun _ => ⟨rfl, rfl⟩, ⟨tyX8, tyX8_ok⟩, nmX8⟩
theorem ff_X8_35 : mmFF RX8 35 8 12 := ⟨RX8, TX8, 18, _, rfl, by decide, inX8, mmW_3 178 rfl rfl, rfl, rfl, tyX8_ok 12 (by decide), fun _ => ⟨rfl, rfl⟩, ⟨tyX8, tyX8_ok⟩, nmX8⟩
theorem ff_X8_38 : mmFF RX8 38 8 13 := ⟨RX8, TX8, 18, _, rfl, by decide, inX8, mmW_3 179 rfl rfl, rfl, rfl, tyX8_ok 13 (by decide), fun _ => ⟨rfl, rfl⟩, ⟨tyX8, tyX8_ok⟩, nmX8⟩
theorem ff_X8_41 : mmFF RX8 41 8 16 := ⟨RX8, TX8, 18, _, rfl, by decide, inX8, mmW_3 182 rfl rfl, rfl, rfl, tyX8_ok 16 (by decide), fun _ => ⟨rfl, rfl⟩, ⟨tyX8, tyX8_ok⟩, nmX8⟩
theorem nw_L_7 : mmNew RL 7 7 10 [.null, .null, .null, .null, .int 0, .null, .null, .null, .null, .null] := ⟨RX7, TX7, tyX7, rfl, inX7, tyX7_ok, mmW_1 14 rfl rfl, mmW_1 15 rfl rfl, mmW_1 1 rfl rfl, fun j hj => match j, hj with
  | 0, _ => rfl
  | 1, _ => rfl
  | 2, _ => rfl
  | 3, _ => rfl
  | 4, _ => rfl
  | 5, _ => rfl
  | 6, _ => rfl
  | 7, _ => rfl
  | 8, _ => rfl
  | 9, _ => rfl
  | _ + 10, hj => absurd hj (by omega)⟩
theorem nw_X7_7 : mmNew RX7 7 0 1 [.null] := ⟨RX0, TX0, tyX0, rfl, inX0, tyX0_ok, mmW_1 22 rfl rfl, mmW_1 23 rfl rfl, mmW_1 2 rfl rfl, fun j hj => match j, hj with
  | 0, _ => rfl
  | _ + 1, hj => absurd hj (by omega)⟩
theorem nw_X7_16 : mmNew RX7 16 4 14 [.null, .null, .null, .null, .null, .null, .int 0, .null, .null, .null, .null, .null, .null, .int 0] := ⟨RX4, TX4, tyX4, rfl, inX4, tyX4_ok, mmW_1 46 rfl rfl, mmW_1 47 rfl rfl, mmW_1 3 rfl rfl, fun j hj => match j, hj with
  | 0, _ => rfl
  | 1, _ => rfl
  | 2, _ => rfl
  | 3, _ => rfl
  | 4, _ => rfl
  | 5, _ => rfl
  | 6, _ => rfl
  | 7, _ => rfl
  | 8, _ => rfl
  | 9, _ => rfl
  | 10, _ => rfl
  | 11, _ => rfl
  | 12, _ => rfl
  | 13, _ => rfl
  | _ + 14, hj => absurd hj (by omega)⟩
theorem nw_X7_31 : mmNew RX7 31 2 3 [.null, .int 0, .int 0] := ⟨RX2, TX2, tyX2, rfl, inX2, tyX2_ok, mmW_1 121 rfl rfl, mmW_1 122 rfl rfl, mmW_1 5 rfl rfl, fun j hj => match j, hj with
  | 0, _ => rfl
  | 1, _ => rfl
  | 2, _ => rfl
  | _ + 3, hj => absurd hj (by omega)⟩
theorem nw_X2_9 : mmNew RX2 9 4 14 [.null, .null, .null, .null, .null, .null, .int 0, .null, .null, .null, .null, .null, .null, .int 0] := ⟨RX4, TX4, tyX4, rfl, inX4, tyX4_ok, mmW_1 127 rfl rfl, mmW_1 47 rfl rfl, mmW_1 3 rfl rfl, fun j hj => match j, hj with
  | 0, _ => rfl
  | 1, _ => rfl
  | 2, _ => rfl
  | 3, _ => rfl
  | 4, _ => rfl
  | 5, _ => rfl
  | 6, _ => rfl
  | 7, _ => rfl
  | 8, _ => rfl
  | 9, _ => rfl
  | 10, _ => rfl
  | 11, _ => rfl
  | 12, _ => rfl
  | 13, _ => rfl
  | _ + 14, hj => absurd hj (by omega)⟩
theorem nw_X7_38 : mmNew RX7 38 3 9 [.null, .int 0, .int 0, .null, .null, .null, .int 0, .int 0, .int 0] := ⟨RX3, TX3, tyX3, rfl, inX3, tyX3_ok, mmW_1 141 rfl rfl, mmW_1 142 rfl rfl, mmW_1 6 rfl rfl, fun j hj => match j, hj with
  | 0, _ => rfl
  | 1, _ => rfl
  | 2, _ => rfl
  | 3, _ => rfl
  | 4, _ => rfl
  | 5, _ => rfl
  | 6, _ => rfl
  | 7, _ => rfl
  | 8, _ => rfl
  | _ + 9, hj => absurd hj (by omega)⟩
theorem nw_X7_45 : mmNew RX7 45 6 2 [.null, .null] := ⟨RX6, TX6, tyX6, rfl, inX6, tyX6_ok, mmW_1 181 rfl rfl, mmW_1 182 rfl rfl, mmW_1 7 rfl rfl, fun j hj => match j, hj with
  | 0, _ => rfl
  | 1, _ => rfl
  | _ + 2, hj => absurd hj (by omega)⟩
theorem nw_X7_52 : mmNew RX7 52 5 3 [.null, .null, .null] := ⟨RX5, TX5, tyX5, rfl, inX5, tyX5_ok, mmW_1 195 rfl rfl, mmW_1 196 rfl rfl, mmW_1 8 rfl rfl, fun j hj => match j, hj with
  | 0, _ => rfl
  | 1, _ => rfl
  | 2, _ => rfl
  | _ + 3, hj => absurd hj (by omega)⟩
theorem nw_X7_59 : mmNew RX7 59 1 6 [.null, .null, .int 0, .int 0, .int 0, .int 0] := ⟨RX1, TX1, tyX1, rfl, inX1, tyX1_ok, mmW_1 213 rfl rfl, mmW_1 214 rfl rfl, mmW_1 9 rfl rfl, fun j hj => match j, hj with
  | 0, _ => rfl
  | 1, _ => rfl
  | 2, _ => rfl
  | 3, _ => rfl
  | 4, _ => rfl
  | 5, _ => rfl
  | _ + 6, hj => absurd hj (by omega)⟩
theorem nw_L_10 : mmNew RL 10 8 18 [.int 0, .null, .null, .null, .int 0, .null, .int 0, .null, .int 0, .null, .null, .null, .null, .null, .int 0, .int 0, .null, .int 0] := ⟨RX8, TX8, tyX8, rfl, inX8, tyX8_ok, mmW_3 160 rfl rfl, mmW_3 161 rfl rfl, mmW_1 10 rfl rfl, fun j hj => match j, hj with
  | 0, _ => rfl
  | 1, _ => rfl
  | 2, _ => rfl
  | 3, _ => rfl
  | 4, _ => rfl
  | 5, _ => rfl
  | 6, _ => rfl
  | 7, _ => rfl
  | 8, _ => rfl
  | 9, _ => rfl
  | 10, _ => rfl
  | 11, _ => rfl
  | 12, _ => rfl
  | 13, _ => rfl
  | 14, _ => rfl
  | 15, _ => rfl
  | 16, _ => rfl
  | 17, _ => rfl
  | _ + 18, hj => absurd hj (by omega)⟩
/-- the pool's entry ix of the class own calls the constructor M2 with n arguments -/
def kCI0 (M2 : MMeth) (n : Nat) : Prop := Cond.initialized M2.1.cls ∈ mmWall ∧ Cond.code M2.1 M2.2.1 M2.2.2.1 M2.2.2.2 ∈ mmWall ∧ (M2.1.cls ≠ "java/lang/invoke/MethodHandle" ∧ M2.1.cls ≠ "java/lang/invoke/VarHandle") ∧ (parseMethodDescriptor M2.1.desc).map (fun z => z.parameters.length) = some n ∧ M2.2.2.1 ≤ 13 ∧ Cond.instanceMethod M2.1 ∈ mmWall ∧ M2.1.name = "<init>" ∧ M2.2.2.2 = none
def kCI (own : String) (ix : Nat) (M2 : MMeth) (n : Nat) : Prop := Cond.methodLink own ix M2.1 ∈ mmWall ∧ kCI0 M2 n
theorem ci_X7 : kCI0 mX7_init 0 := ⟨mmW_1 1 rfl rfl, mmW_1 18 rfl rfl, by decide, by decide +kernel, by decide, mmW_1 17 rfl rfl, rfl, rfl⟩
theorem ci_X0 : kCI0 mX0_init 0 := ⟨mmW_1 2 rfl rfl, mmW_1 26 rfl rfl, by decide, by decide +kernel, by decide, mmW_1 25 rfl rfl, rfl, rfl⟩
theorem ci_X4 : kCI0 mX4_init 1 := ⟨mmW_1 3 rfl rfl, mmW_1 50 rfl rfl, by decide, by decide +kernel, by decide, mmW_1 49 rfl rfl, rfl, rfl⟩
theorem ci_X2 : kCI0 mX2_init 1 := ⟨mmW_1 5 rfl rfl, mmW_1 125 rfl rfl, by decide, by decide +kernel, by decide, mmW_1 124 rfl rfl, rfl, rfl⟩
theorem ci_X3 : kCI0 mX3_init 0 := ⟨mmW_1 6 rfl rfl, mmW_1 145 rfl rfl, by decide, by decide +kernel, by decide, mmW_1 144 rfl rfl, rfl, rfl⟩
theorem ci_X6 : kCI0 mX6_init 1 := ⟨mmW_1 7 rfl rfl, mmW_1 185 rfl rfl, by decide, by decide +kernel, by decide, mmW_1 184 rfl rfl, rfl, rfl⟩
theorem ci_X5 : kCI0 mX5_init 1 := ⟨mmW_1 8 rfl rfl, mmW_1 199 rfl rfl, by decide, by decide +kernel, by decide, mmW_1 198 rfl rfl, rfl, rfl⟩
theorem ci_X1 : kCI0 mX1_init 2 := ⟨mmW_1 9 rfl rfl, mmW_1 217 rfl rfl, by decide, by decide +kernel, by decide, mmW_1 216 rfl rfl, rfl, rfl⟩
theorem ci_X8 : kCI0 mX8_init 0 := ⟨mmW_1 10 rfl rfl, mmW_3 164 rfl rfl, by decide, by decide +kernel, by decide, mmW_3 163 rfl rfl, rfl, rfl⟩
theorem ck_L_9 : kCI RL 9 mX7_init 0 := ⟨mmW_1 16 rfl rfl, ci_X7⟩
theorem ck_X7_9 : kCI RX7 9 mX0_init 0 := ⟨mmW_1 24 rfl rfl, ci_X0⟩
theorem ck_X7_18 : kCI RX7 18 mX4_init 1 := ⟨mmW_1 48 rfl rfl, ci_X4⟩
theorem ck_X7_33 : kCI RX7 33 mX2_init 1 := ⟨mmW_1 123 rfl rfl, ci_X2⟩
theorem ck_X2_15 : kCI RX2 15 mX4_init 1 := ⟨mmW_1 129 rfl rfl, ci_X4⟩
theorem ck_X7_47 : kCI RX7 47 mX6_init 1 := ⟨mmW_1 183 rfl rfl, ci_X6⟩
theorem ck_X7_54 : kCI RX7 54 mX5_init 1 := ⟨mmW_1 197 rfl rfl, ci_X5⟩
theorem ck_X7_61 : kCI RX7 61 mX1_init 2 := ⟨mmW_1 215 rfl rfl, ci_X1⟩
theorem ck_L_12 : kCI RL 12 mX8_init 0 := ⟨mmW_3 162 rfl rfl, ci_X8⟩
section KKC
variable {D : va_G} {ca : Nat → ClassId} {tb : Nat → Nat} {d mc ms : Nat} {M : MMeth} {pc : Nat} {ls : List (Option MV)} {st : List MV} {ws : va_W} {cells slots : Nat} {Qc : kT}
theorem k_callB {d2 mc2 ms2 n : Nat} {own : String} {ix : Nat} {M2 : MMeth} {s : State} {args : Array Value} (hts : ∀ w ∈ mmWall, w.before args s = true) (h1 : Cond.methodLink own ix M2.1 ∈ mmWall) (h2 : Cond.initialized M2.1.cls ∈ mmWall) (h3 : Cond.code M2.1 M2.2.1 M2.2.2.1 M2.2.2.2 ∈ mmWall) (h4 : M2.1.cls ≠ "java/lang/invoke/MethodHandle" ∧ M2.1.cls ≠ "java/lang/invoke/VarHandle") (h5 : (parseMethodDescriptor M2.1.desc).map (fun z => z.parameters.length) = some n) (h6 : M2.2.2.1 ≤ 13) (hdd : d2 + 1 ≤ d) :
    CallB (kRoom d mc ms) s args own ix M2.1 M2.2.1 M2.2.2.1 M2.2.2.2 (mmWs M2) (kRoom d2 mc2 ms2) mc2 ms2 n := by
  refine ⟨rfl, rfl, hdd, ?_, ?_, List.mem_cons_self, hts _ h3, hts _ h2, h4, fun sig h => ?_, hts _ h1⟩
  · show 8 + (M2.2.2.1 + 11) + 32 * d2 ≤ 32 * d
    omega
  · intro w hw a' U hW
    have hwm : w ∈ mmWall := by
      rcases List.mem_cons.mp hw with rfl | hw
      · exact h3
      · exact hw
    exact word_at hW (mmW_good hwm) (hts w hwm)
  · rw [h] at h5
    exact (Option.some.inj h5).symm
theorem k_pre {vs : List MV} {wc : va_W} {A : Nat → Prop} {s : State} {H : Heap} {locs : List Loc} (hT : kTab tb A s) (hS : va_S A s.heap H locs) (hF : ∀ q, va_A wc H.size q → A q) (hP : va_P D vwCl wc H) (hK : va_K D vwCl (mmTys ca) s) : PreS s H (va_Pc (vs.map kV) (kPc D ca tb wc H.size)) (vs.map kV) := by
  refine ⟨fun a U g mk q => ?_, fun U hU hW => ⟨rfl, by rw [hU], kTab.go (fun z => va_Nw.warmM hW z) hW.alike (fun a ha hna => by rw [hU]; exact hS.2.1 a ha hna) hF hT, by rw [hU]; exact hP, va_K.moved hW.alike hK⟩⟩
  obtain ⟨q1, q2, q3, q4, q5⟩ := q
  exact ⟨q1, q2, kTab.go (u := U) (U := U.calling g mk a) (fun z => va_Nw.same rfl (u := U) (U := U.calling g mk a) rfl z) (Vm.Alike.refl U.vm) (fun _ _ _ => rfl) (fun _ h => h) q3, q4, va_K.moved (u := U) (U := U.calling g mk a) (Vm.Alike.refl U.vm) q5⟩
theorem va_nd_range (n : Nat) : va_nd (List.range n) = true := by
  have h : ∀ (n a : Nat), va_nd (List.range' a n) = true := by
    intro n
    induction n with
    | zero => intro a; rfl
    | succ n ih =>
      intro a
      rw [List.range'_succ]
      simp only [va_nd, Bool.and_eq_true, decide_eq_true_eq]
      exact ⟨fun h => by have := List.mem_range'_1.mp h; omega, ih (a + 1)⟩
  rw [List.range_eq_range']
  exact h n 0
theorem kRange (wr w2 : va_W) : (List.range wr.length).map (fun i => (wr ++ w2)[i]?) = wr.map some := by
  apply List.ext_getElem?
  intro i
  rw [List.getElem?_map, List.getElem?_map]
  by_cases h : i < wr.length
  · rw [List.getElem?_range h]
    simp [List.getElem?_append_left h, List.getElem?_eq_getElem h]
  · rw [List.getElem?_eq_none (by simpa using h), List.getElem?_eq_none (by omega)]
    rfl
theorem kLast {wr w2 : va_W} {x : Nat × va_E} (h : w2 = [x]) : [wr.length].map (fun i => (wr ++ w2)[i]?) = w2.map some := by
  subst h
  simp
theorem kNo {wr : va_W} : ∀ i ∈ List.range wr.length, i ∉ [wr.length] := by
  intro i hi h
  have h1 := List.mem_range.mp hi
  have h2 := List.mem_singleton.mp h
  omega
theorem KW.callI {d2 ix b mc2 ms2 : Nat} {M2 : MMeth} {as st0 : List MV} {e0 : va_E} (wr : va_W) {P : va_W → Prop} (hws : ws = wr ++ [(b, e0)]) (hd : decode M.2.1 pc = .ok (.invokespecial ix, 3)) (hl2 : kCI M.1.cls ix M2 as.length) (hdd : d2 + 1 ≤ d) (hst : st.length ≤ 8) (hs : st0 = as.reverse ++ .inr b :: st) (hc : KC D ca tb d2 mc2 ms2 M2 (.inr b :: as) [(b, e0)] (kQv D ca P)) (hr : cells + mc2 ≤ mc ∧ slots + ms2 ≤ ms) (kk : ∀ w1, P w1 → KW D ca tb d mc ms M (pc + 3) ls st (wr ++ w1) (cells + mc2) (slots + ms2) Qc) : KW D ca tb d mc ms M pc ls st0 ws cells slots Qc := by
  subst hws
  subst hs
  intro p l e s m args below meth c A C H locs la hP hD hS hl
  obtain ⟨c1, c2, c3, c4, c5, c6, c7, c8, c9⟩ := hl2
  have hC := kLast (wr := wr) (w2 := [(b, e0)]) rfl
  have hFc := va_free (wc := [(b, e0)]) hD hS C.2.2.2.2.2.2.2.2.2.1 [wr.length] hC
  have hPb : va_P D vwCl [(b, e0)] H := hP.sub [wr.length] (by simp)
  have hDb : va_D A [(b, e0)] := hD.sub [wr.length] rfl hC
  have hM := hc l H.size (hDb.weaken (fun _ _ _ _ => trivial))
  have hrun := va_runI (H := H) (locs := locs) (cells := cells) (slots := slots) (e := e) (below := below) (meth := meth) (As := as.map kV) (b := b) (rest := st.map kV) (g := F0 m pc la ((as.reverse ++ .inr b :: st).map kV)) ⟨C.1, C.2.1, C.2.2.1, C.2.2.2.1, C.2.2.2.2.1⟩ hM ⟨c9 ▸ k_callB C.2.2.2.2.1 c1 c2 c3 c4 c5 c6 hdd, c8, C.2.2.2.2.1 _ c7⟩ (k_pre C.2.2.2.2.2.2.2.2.1 hS hFc hPb C.2.2.2.2.2.2.2.1) rfl (by simp) hl.1 (by simp [mmV]) (kRoomL st hst) hd hr
  refine va_callv hrun hS (fun q _ h => hFc q h) hFc (fun u t H1 locs1 ht hvm hw hB hz1 hk1 hS1 => ?_)
  obtain ⟨hP1, hK1, hD1⟩ := hB
  rw [ht] at hP1
  obtain ⟨hP2, hD2⟩ := va_join hP hD [wr.length] (List.range wr.length) hC (kRange wr _) (va_nd_range _) kNo hk1 hFc hP1 hD1
  exact kk u hw p l e s m args below meth c A C H1 locs1 la hP2 hD2 hS1 hl
theorem KW.callN {d2 b mc2 ms2 : Nat} {st0 : List MV} {e0 : va_E} (wr : va_W) {P : va_W → Prop} (hws : ws = wr ++ [(b, e0)]) (hM7 : M.1.cls = RX7) (hd : decode M.2.1 pc = .ok (.invokespecial 40, 3)) (hl2 : kCI0 mX3_init 0) (hdd : d2 + 1 ≤ d) (hst : st.length ≤ 8) (hs : st0 = .inr b :: st) (hc : KC D ca tb d2 mc2 ms2 mX3_init [.inr b] [(b, e0)] (kQv D ca P)) (hr : cells + mc2 ≤ mc ∧ slots + ms2 ≤ ms) (kk : ∀ w1, P w1 → KW D ca tb d mc ms M (pc + 3) ls st (wr ++ w1) (cells + mc2) (slots + ms2) Qc) : KW D ca tb d mc ms M pc ls st0 ws cells slots Qc := by
  subst hws
  subst hs
  intro p l e s m args below meth c A C H locs la hP hD hS hl
  obtain ⟨c2, c3, c4, c5, c6, c7, c8, c9⟩ := hl2
  have hC := kLast (wr := wr) (w2 := [(b, e0)]) rfl
  have hFc := va_free (wc := [(b, e0)]) hD hS C.2.2.2.2.2.2.2.2.2.1 [wr.length] hC
  have hPb : va_P D vwCl [(b, e0)] H := hP.sub [wr.length] (by simp)
  have hDb : va_D A [(b, e0)] := hD.sub [wr.length] rfl hC
  have hM := hc l H.size (hDb.weaken (fun _ _ _ _ => trivial))
  have hcn : va_CN (kRoom d mc ms) s args M.1.cls 40 yX3_init RX7 mX3_init.2.1 mX3_init.2.2.1 none (mmWs mX3_init) (kRoom d2 mc2 ms2) mc2 ms2 0 := by
    refine ⟨⟨rfl, rfl, hdd, ?_, ?_, List.mem_cons_self⟩, C.2.2.2.2.1 _ c3, C.2.2.2.2.1 _ c2, c4, fun sig h => ?_, ?_⟩
    · show 8 + (1 + 11) + 32 * d2 ≤ 32 * d
      omega
    · intro w hw a' U hW
      have hwm : w ∈ mmWall := by
        rcases List.mem_cons.mp hw with rfl | hw
        · exact c3
        · exact hw
      exact word_at hW (mmW_good hwm) (C.2.2.2.2.1 w hwm)
    · rw [h] at c5
      exact (Option.some.inj c5).symm
    · rw [hM7]
      exact va_Nw.use rfl C.2.2.2.2.2.2.2.2.1.1
  have hrun := va_runIN (H := H) (locs := locs) (cells := cells) (slots := slots) (e := e) (below := below) (meth := meth) (As := []) (b := b) (rest := st.map kV) (g := F0 m pc la (((.inr b : MV) :: st).map kV)) ⟨C.1, C.2.1, C.2.2.1, C.2.2.2.1, C.2.2.2.2.1⟩ hM ⟨hcn, rfl, C.2.2.2.2.1 _ c7⟩ (k_pre (vs := [.inr b]) C.2.2.2.2.2.2.2.2.1 hS hFc hPb C.2.2.2.2.2.2.2.1) rfl rfl hl.1 rfl (kRoomL st hst) hd hr
  refine va_callv hrun hS (fun q _ h => hFc q h) hFc (fun u t H1 locs1 ht hvm hw hB hz1 hk1 hS1 => ?_)
  obtain ⟨hP1, hK1, hD1⟩ := hB
  rw [ht] at hP1
  obtain ⟨hP2, hD2⟩ := va_join hP hD [wr.length] (List.range wr.length) hC (kRange wr _) (va_nd_range _) kNo hk1 hFc hP1 hD1
  exact kk u hw p l e s m args below meth c A C H1 locs1 la hP2 hD2 hS1 hl
/-- a static method that answers a number and needs no cell -/
theorem KW.callSi {d2 ix : Nat} {M2 : MMeth} {as st0 : List MV} {P : Int32 → Prop} (hd : decode M.2.1 pc = .ok (.invokestatic ix, 3)) (hl2 : mmCS M.1.cls ix M2 as.length) (hr2 : M2.2.2.2 = some .int) (hdd : d2 + 1 ≤ d) (hst : st.length ≤ 8) (hs : st0 = as.reverse ++ st) (hc : KC D ca tb d2 0 0 M2 as [] (kQi D ca (fun r u => P r ∧ u = []))) (hr : cells ≤ mc ∧ slots ≤ ms) (kk : ∀ r, P r → KW D ca tb d mc ms M (pc + 3) ls (.inl r :: st) ws cells slots Qc) : KW D ca tb d mc ms M pc ls st0 ws cells slots Qc := by
  subst hs
  intro p l e s m args below meth c A C H locs la hP hD hS hl
  obtain ⟨c1, c2, c3, c4, c5, c6, c7⟩ := hl2
  have hFc := va_free (wc := []) hD hS C.2.2.2.2.2.2.2.2.2.1 [] rfl
  have hPb : va_P D vwCl [] H := fun k q h => by simp at h
  have hM := hc l H.size ⟨fun i j p q h => by simp at h, fun k q h => by simp at h⟩
  have hrun := va_runS (H := H) (locs := locs) (cells := cells) (slots := slots) (e := e) (below := below) (meth := meth) (As := as.map kV) (rest := st.map kV) (g := F0 m pc la ((as.reverse ++ st).map kV)) ⟨C.1, C.2.1, C.2.2.1, C.2.2.2.1, C.2.2.2.2.1⟩ hM ⟨k_callB C.2.2.2.2.1 c1 c2 c3 c4 c5 c6 hdd, C.2.2.2.2.1 _ c7⟩ (k_pre C.2.2.2.2.2.2.2.2.1 hS hFc hPb C.2.2.2.2.2.2.2.1) rfl (by simp) hl.1 (by simp) (kRoomL st hst) hd ⟨hr.1, hr.2⟩
  refine va_calli hrun hS (fun q _ h => hFc q h) hFc (fun r u t H1 locs1 ht hvm hw hB hz1 hk1 hS1 => ?_)
  obtain ⟨hP1, hK1, hD1⟩ := hB
  rw [ht] at hP1
  obtain ⟨hP2, hD2⟩ := va_join (wr := ws) hP hD [] (List.range ws.length) rfl (by have := kRange ws []; rwa [List.append_nil] at this) (va_nd_range _) (fun _ _ h => by simp at h) hk1 hFc hP1 hD1
  rw [hw.2, List.append_nil] at hP2 hD2
  exact kk r hw.1 p l e s m args below meth c A C H1 locs1 la hP2 hD2 hS1 hl
/-- a static method over one row at the place q0 -/
theorem KW.callSf {d2 ix b : Nat} {M2 : MMeth} {as st0 : List MV} {e0 : va_E} (q0 : Nat) (isR : List Nat) (wr : va_W) {P : va_W → Prop} (he : ws[q0]? = some (b, e0)) (hR : isR.map (fun i => ws[i]?) = wr.map some) (hn : va_nd isR = true) (hno : ∀ i ∈ isR, i ∉ [q0]) (hd : decode M.2.1 pc = .ok (.invokestatic ix, 3)) (hl2 : mmCS M.1.cls ix M2 as.length) (hr2 : M2.2.2.2 = none) (hdd : d2 + 1 ≤ d) (hst : st.length ≤ 8) (hs : st0 = as.reverse ++ st) (hc : KC D ca tb d2 0 0 M2 as [(b, e0)] (kQv D ca P)) (hr : cells ≤ mc ∧ slots ≤ ms) (kk : ∀ w1, P w1 → KW D ca tb d mc ms M (pc + 3) ls st (wr ++ w1) cells slots Qc) : KW D ca tb d mc ms M pc ls st0 ws cells slots Qc := by
  subst hs
  intro p l e s m args below meth c A C H locs la hP hD hS hl
  obtain ⟨c1, c2, c3, c4, c5, c6, c7⟩ := hl2
  have hC : [q0].map (fun i => ws[i]?) = ([(b, e0)] : va_W).map some := by simp [he]
  have hFc := va_free (wc := [(b, e0)]) hD hS C.2.2.2.2.2.2.2.2.2.1 [q0] hC
  have hPb : va_P D vwCl [(b, e0)] H := hP.sub [q0] (by simp [he])
  have hDb : va_D A [(b, e0)] := hD.sub [q0] rfl hC
  have hM := hc l H.size (hDb.weaken (fun _ _ _ _ => trivial))
  have hrun := va_runS (H := H) (locs := locs) (cells := cells) (slots := slots) (e := e) (below := below) (meth := meth) (As := as.map kV) (rest := st.map kV) (g := F0 m pc la ((as.reverse ++ st).map kV)) ⟨C.1, C.2.1, C.2.2.1, C.2.2.2.1, C.2.2.2.2.1⟩ hM ⟨k_callB C.2.2.2.2.1 c1 c2 c3 c4 c5 c6 hdd, C.2.2.2.2.1 _ c7⟩ (k_pre C.2.2.2.2.2.2.2.2.1 hS hFc hPb C.2.2.2.2.2.2.2.1) rfl (by simp) hl.1 (by simp) (kRoomL st hst) hd ⟨hr.1, hr.2⟩
  refine va_callv hrun hS (fun q _ h => hFc q h) hFc (fun u t H1 locs1 ht hvm hw hB hz1 hk1 hS1 => ?_)
  obtain ⟨hP1, hK1, hD1⟩ := hB
  rw [ht] at hP1
  obtain ⟨hP2, hD2⟩ := va_join hP hD [q0] isR hC hR hn hno hk1 hFc hP1 hD1
  exact kk u hw p l e s m args below meth c A C H1 locs1 la hP2 hD2 hS1 hl
end KKC
