-- the reference: sight, fights, the end of a turn
theorem zSet_up (g : ZH) (k : Nat) (f : Int → Int) (i v : Int) : zSet (zRow g k f) k i v = zRow g k (zUp f i v) := by
  rw [zSet_row, zRow_same, zRow_row]
theorem zFr.rowc {ks : List Nat} {g g1 : ZH} (h : zFr ks g g1) (k : Nat) (f : Int → Int) : zFr ks (zRow g k f) (zRow g1 k f) := by
  intro j hj
  by_cases q : j = k
  · rw [q, zRow_same, zRow_same]
  · rw [zRow_ne _ _ q, zRow_ne _ _ q]; exact h j hj
def layF (r : Int → Int) (u w v : Int) : Int → Int := zUp r (193 + 6 * u + w) v
def standsF (r : Int → Int) (u x : Int) : Int → Int := zUp (layF r u 2 x) (126 + x) (if r (126 + x) = 0 then 0 else ofF r u 0 + 1)
theorem layF_fort {r : Int → Int} {u w v x : Int} (hu : 0 ≤ u) (hw : 0 ≤ w) (hx : x < 63) : layF r u w v (126 + x) = r (126 + x) := zUp_ne _ _ (by omega)
theorem layF_same {r : Int → Int} {u w v : Int} : ofF (layF r u w v) u w = v := zUp_same _ _ _
theorem layF_ne {r : Int → Int} {u w v u2 w2 : Int} (hw : 0 ≤ w ∧ w < 6) (hw2 : 0 ≤ w2 ∧ w2 < 6) (h : u2 ≠ u ∨ w2 ≠ w) : ofF (layF r u w v) u2 w2 = ofF r u2 w2 := zUp_ne _ _ (by omega)
theorem c_X8_layR (g : ZH) {u w v : Int} (hu : 0 ≤ u ∧ u < 16) (hw : 0 ≤ w ∧ w < 6) : ZC 0 mX8_lay [.inr 100, .inl u, .inl w, .inl v] g (fun _ g' => g' = zRow g 101 (layF (g 101) u w v)) := c_X8_lay g hu hw
theorem c_X8_stands (g : ZH) (hk : okB (g 101)) {u x : Int} (hu : 0 ≤ u ∧ u < 16) (hx : 0 ≤ x ∧ x < 63) : ZC 1 mX8_stands [.inr 100, .inl u, .inl x] g (fun _ g' => g' = zRow g 101 (standsF (g 101) u x)) := by
  have h1 := hk.1 (126 + x) (by omega) (by omega)
  refine ZC.of (by decide +kernel) (Nat.le_of_ble_eq_true rfl) ?_
  refine ZW.aload_n dX8_stands_0 rfl ?_
  refine ZW.iload_n dX8_stands_1 rfl ?_
  refine ZW.iconst dX8_stands_2 ?_
  refine ZW.iload_n dX8_stands_3 rfl ?_
  refine ZW.callVv (as := [_, _, _]) dX8_stands_4 cv_X8_73 ⟨_, rfl⟩ rfl (by decide) (Nat.le_of_ble_eq_true rfl) rfl (fun _ _ hz _ => hz) (c_X8_layR _ hu (by omega)) (fun g1 q1 => ?_)
  subst q1
  have e1 := layF_fort (r := g 101) (u := u) (w := 2) (v := x) (x := x) hu.1 (by decide) hx.2
  refine ZW.aload_n dX8_stands_7 rfl ?_
  refine ZW.getR dX8_stands_8 fl_X8_7 ⟨_, rfl, rfl⟩ ?_
  refine ZW.bipush dX8_stands_11 rfl ?_
  refine ZW.iload_n dX8_stands_13 rfl ?_
  refine ZW.iadd dX8_stands_14 ?_
  refine ZW.aload_n dX8_stands_15 rfl ?_
  refine ZW.getR dX8_stands_16 fl_X8_7 ⟨_, rfl, rfl⟩ ?_
  refine ZW.bipush dX8_stands_19 rfl ?_
  refine ZW.iload_n dX8_stands_21 rfl ?_
  refine ZW.iadd dX8_stands_22 ?_
  refine ZW.iald dX8_stands_23 rfl (by decide) (by omega) rfl ?_
  refine ZW.if_ne (tgt := 31) dX8_stands_24 (by decide) (by rw [zRow_same, e1]; omega) (fun c24 => ?_) (fun c24 => ?_)
  · rw [zRow_same, e1] at c24
    refine ZW.aload_n dX8_stands_31 rfl ?_
    refine ZW.iload_n dX8_stands_32 rfl ?_
    refine ZW.iconst dX8_stands_33 ?_
    refine ZW.callV (as := [_, _]) dX8_stands_34 cv_X8_52 ⟨_, rfl⟩ rfl (by decide) (Nat.le_of_ble_eq_true rfl) rfl (c_X8_of _ hu (by omega)) (fun r1 g2 ⟨q1, q2⟩ => ?_)
    subst q1; subst q2
    refine ZW.iconst dX8_stands_37 ?_
    refine ZW.iadd dX8_stands_38 ?_
    refine ZW.iast dX8_stands_39 rfl (by decide) (by omega) ?_
    refine ZW.vret dX8_stands_40 rfl ?_
    rw [zRow_same, zSet_up, layF_ne (by decide) (by decide) (Or.inr (by decide))]
    unfold standsF
    rw [if_neg c24]
  · rw [zRow_same, e1] at c24
    refine ZW.iconst dX8_stands_27 ?_
    refine ZW.goto (tgt := 39) dX8_stands_28 (by decide) ?_
    refine ZW.iast dX8_stands_39 rfl (by decide) (by omega) ?_
    refine ZW.vret dX8_stands_40 rfl ?_
    rw [zSet_up]
    unfold standsF
    rw [if_pos c24]
theorem c_X8_isAtTurn (g : ZH) (hk : okB (g 101)) {u : Int} (hu : 0 ≤ u ∧ u < 16) : ZC 1 mX8_isAtTurn [.inr 100, .inl u] g (fun r g' => r = zB (decide (ofF (g 101) u 0 = g 101 191 % 2)) ∧ g' = g) := by
  have h1 := hk.1 191 (by omega) (by omega)
  refine ZC.of (by decide +kernel) (Nat.le_of_ble_eq_true rfl) ?_
  refine ZW.aload_n dX8_isAtTurn_0 rfl ?_
  refine ZW.iload_n dX8_isAtTurn_1 rfl ?_
  refine ZW.iconst dX8_isAtTurn_2 ?_
  refine ZW.callV (as := [_, _]) dX8_isAtTurn_3 cv_X8_52 ⟨_, rfl⟩ rfl (by decide) (Nat.le_of_ble_eq_true rfl) rfl (c_X8_of _ hu (by omega)) (fun r1 g2 ⟨q1, q2⟩ => ?_)
  subst q1; subst q2
  have h2 := ofU_R hk hu (w := 0) (by omega)
  refine ZW.aload_n dX8_isAtTurn_6 rfl ?_
  refine ZW.getR dX8_isAtTurn_7 fl_X8_7 ⟨_, rfl, rfl⟩ ?_
  refine ZW.sipush dX8_isAtTurn_10 rfl ?_
  refine ZW.iald dX8_isAtTurn_13 rfl (by decide) (by omega) rfl ?_
  refine ZW.iconst dX8_isAtTurn_14 ?_
  refine ZW.irem dX8_isAtTurn_15 (by omega) ?_
  refine ZW.icmp_ne (tgt := 23) dX8_isAtTurn_16 (by decide) (by omega) (by omega) (fun c16 => ?_) (fun c16 => ?_)
  · refine ZW.iconst dX8_isAtTurn_23 ?_
    refine ZW.iretz dX8_isAtTurn_24 rfl (by first | exact Or.inl rfl | exact Or.inr rfl | assumption | omega) ?_
    exact ⟨by simp [zB, c16], rfl⟩
  · refine ZW.iconst dX8_isAtTurn_19 ?_
    refine ZW.goto (tgt := 24) dX8_isAtTurn_20 (by decide) ?_
    refine ZW.iretz dX8_isAtTurn_24 rfl (by first | exact Or.inl rfl | exact Or.inr rfl | assumption | omega) ?_
    exact ⟨by simp [zB, c16], rfl⟩
theorem c_X8_canReach (g : ZH) (hk : okB (g 101)) {u x : Int} (hu : 0 ≤ u ∧ u < 16) (hx : 0 ≤ x ∧ x < 63) (hc : zR (g 106 x)) : ZC 2 mX8_canReach [.inr 100, .inl u, .inl x] g (fun r g' => r = zB (decide (g 106 x ≤ ofF (g 101) u 3 ∧ unitOnF (g 101) x = -5)) ∧ g' = g) := by
  refine ZC.of (by decide +kernel) (Nat.le_of_ble_eq_true rfl) ?_
  refine ZW.aload_n dX8_canReach_0 rfl ?_
  refine ZW.getR dX8_canReach_1 fl_X8_25 ⟨_, rfl, rfl⟩ ?_
  refine ZW.iload_n dX8_canReach_4 rfl ?_
  refine ZW.iald dX8_canReach_5 rfl (by decide) (by omega) rfl ?_
  refine ZW.aload_n dX8_canReach_6 rfl ?_
  refine ZW.iload_n dX8_canReach_7 rfl ?_
  refine ZW.iconst dX8_canReach_8 ?_
  refine ZW.callV (as := [_, _]) dX8_canReach_9 cv_X8_52 ⟨_, rfl⟩ rfl (by decide) (Nat.le_of_ble_eq_true rfl) rfl (c_X8_of _ hu (by omega)) (fun r1 g2 ⟨q1, q2⟩ => ?_)
  subst q1; subst q2
  have h2 := ofU_R hk hu (w := 3) (by omega)
  refine ZW.icmp_gt (tgt := 29) dX8_canReach_12 (by decide) (by omega) (by omega) (fun c12 => ?_) (fun c12 => ?_)
  · refine ZW.iconst dX8_canReach_29 ?_
    refine ZW.iretz dX8_canReach_30 rfl (by first | exact Or.inl rfl | exact Or.inr rfl | assumption | omega) ?_
    exact ⟨by simp [zB]; omega, rfl⟩
  · refine ZW.aload_n dX8_canReach_15 rfl ?_
    refine ZW.iload_n dX8_canReach_16 rfl ?_
    refine ZW.callV (as := [_]) dX8_canReach_17 cv_X8_62 ⟨_, rfl⟩ rfl (by decide) (Nat.le_of_ble_eq_true rfl) rfl (c_X8_unitOn _ hk (by omega)) (fun r1 g3 ⟨q1, q2⟩ => ?_)
    subst q1; subst q2
    have h3 := unitOnF_R hk x
    refine ZW.bipush dX8_canReach_20 rfl ?_
    refine ZW.icmp_ne (tgt := 29) dX8_canReach_22 (by decide) (by omega) (by omega) (fun c22 => ?_) (fun c22 => ?_)
    · refine ZW.iconst dX8_canReach_29 ?_
      refine ZW.iretz dX8_canReach_30 rfl (by first | exact Or.inl rfl | exact Or.inr rfl | assumption | omega) ?_
      exact ⟨by simp [zB, c22], rfl⟩
    · refine ZW.iconst dX8_canReach_25 ?_
      refine ZW.goto (tgt := 30) dX8_canReach_26 (by decide) ?_
      refine ZW.iretz dX8_canReach_30 rfl (by first | exact Or.inl rfl | exact Or.inr rfl | assumption | omega) ?_
      exact ⟨by simp [zB, c22, c12], rfl⟩
def farF (r : Int → Int) (x : Int) : Int := if r x = 1 then 1 else 2
def seesU (r : Int → Int) (side x u : Int) : Bool := decide (0 < ofF r u 1 ∧ ofF r u 0 = side ∧ stepsF x (ofF r u 2) ≤ farF r x)
def seesT (r : Int → Int) (side x o : Int) : Bool := decide (r (126 + o) = side + 1 ∧ stepsF x o ≤ 1)
def seesF (r : Int → Int) (side x : Int) : Bool := anyF (seesU r side x) (r 192).toNat 0 || anyF (seesT r side x) 63 0
set_option maxHeartbeats 1000000 in
theorem c_X8_sees (g : ZH) (hk : okB (g 101)) (hu : okU (g 101)) {side x : Int} (hs : 0 ≤ side ∧ side < 2) (hx : 0 ≤ x ∧ x < 63) : ZC 3 mX8_sees [.inr 100, .inl side, .inl x] g (fun r g' => r = zB (seesF (g 101) side x) ∧ zFr [108] g g') := by
  have h192 := hk.1 192 (by decide) (by decide)
  have h16 := hk.2
  refine ZC.of (by decide +kernel) (Nat.le_of_ble_eq_true rfl) ?_
  refine ZW.aload_n dX8_sees_0 rfl ?_
  refine ZW.iload_n dX8_sees_1 rfl ?_
  refine ZW.callVv (as := [_]) dX8_sees_2 cv_X8_101 ⟨_, rfl⟩ rfl (by decide) (Nat.le_of_ble_eq_true rfl) rfl (fun _ _ hz _ => hz) (c_X8_laysDistances _ hx) (fun g1 ⟨hf, hd⟩ => ?_)
  have e1 : g1 101 = g 101 := hf 101 (by decide)
  have loop2 : ∀ (n : Nat) (o : Int) (b : Bool) (far : Int), 0 ≤ o → o + n = 63 → ZW 3 mX8_sees 100 [some (.inr 100), some (.inl side), some (.inl x), some (.inl far), some (.inl (zB b)), some (.inl o)] [] g1 (fun r g' => r = zB (b || anyF (seesT (g 101) side x) n o) ∧ zFr [108] g g') := by
    intro n
    induction n with
    | zero =>
      intro o b far h0 hn
      refine ZW.iload dX8_sees_100 rfl ?_
      refine ZW.bipush dX8_sees_102 rfl ?_
      refine ZW.icmp_ge (tgt := 152) dX8_sees_104 (by decide) (by omega) (by omega) (fun c104 => ?_) (fun c104 => ?_)
      · refine ZW.iload dX8_sees_152 rfl ?_
        refine ZW.iretz dX8_sees_154 rfl (by exact zB_1 _) ?_
        exact ⟨by simp [anyF], hf⟩
      · exact absurd c104 (by omega)
    | succ n ih =>
      intro o b far h0 hn
      have hfo := hk.1 (126 + o) (by omega) (by omega)
      rw [← e1] at hfo
      have hdo := hd o h0 (by omega)
      have hso := stepsF_0 hx (x := o) ⟨h0, by omega⟩
      have fin : ∀ b2 : Bool, b2 = (b || seesT (g 101) side x o) → ZW 3 mX8_sees 100 [some (.inr 100), some (.inl side), some (.inl x), some (.inl far), some (.inl (zB b2)), some (.inl (o + 1))] [] g1 (fun r g' => r = zB (b || anyF (seesT (g 101) side x) (n + 1) o) ∧ zFr [108] g g') := by
        intro b2 hb2
        refine ZW.mono (ih (o + 1) b2 far (by omega) (by omega)) (fun r g' hh => ⟨?_, hh.2⟩)
        rw [hh.1, hb2, Bool.or_assoc]
        rfl
      refine ZW.iload dX8_sees_100 rfl ?_
      refine ZW.bipush dX8_sees_102 rfl ?_
      refine ZW.icmp_ge (tgt := 152) dX8_sees_104 (by decide) (by omega) (by omega) (fun c104 => ?_) (fun c104 => ?_)
      · exact absurd c104 (by omega)
      · refine ZW.iload dX8_sees_107 rfl ?_
        refine ZW.if_ne (tgt := 139) dX8_sees_109 (by decide) (by exact zB_R _) (fun c109 => ?_) (fun c109 => ?_)
        · have e := zB_ne c109
          refine ZW.iconst dX8_sees_139 ?_
          refine ZW.goto (tgt := 144) dX8_sees_140 (by decide) ?_
          refine ZW.istore dX8_sees_144 (by decide) rfl ?_
          refine ZW.iinc dX8_sees_146 rfl (by decide) rfl ?_
          refine ZW.goto (tgt := 100) dX8_sees_149 (by decide) ?_
          exact fin true (by rw [e]; rfl)
        · have e := zB_eq c109
          refine ZW.aload_n dX8_sees_112 rfl ?_
          refine ZW.getR dX8_sees_113 fl_X8_7 ⟨_, rfl, rfl⟩ ?_
          refine ZW.bipush dX8_sees_116 rfl ?_
          refine ZW.iload dX8_sees_118 rfl ?_
          refine ZW.iadd dX8_sees_120 ?_
          refine ZW.iald dX8_sees_121 rfl (by decide) (by omega) rfl ?_
          refine ZW.iload_n dX8_sees_122 rfl ?_
          refine ZW.iconst dX8_sees_123 ?_
          refine ZW.iadd dX8_sees_124 ?_
          refine ZW.icmp_ne (tgt := 143) dX8_sees_125 (by decide) (by omega) (by omega) (fun c125 => ?_) (fun c125 => ?_)
          · rw [e1] at c125
            refine ZW.iconst dX8_sees_143 ?_
            refine ZW.istore dX8_sees_144 (by decide) rfl ?_
            refine ZW.iinc dX8_sees_146 rfl (by decide) rfl ?_
            refine ZW.goto (tgt := 100) dX8_sees_149 (by decide) ?_
            exact fin false (by rw [e]; simp [seesT, c125])
          · rw [e1] at c125
            refine ZW.aload_n dX8_sees_128 rfl ?_
            refine ZW.getR dX8_sees_129 fl_X8_32 ⟨_, rfl, rfl⟩ ?_
            refine ZW.iload dX8_sees_132 rfl ?_
            refine ZW.iald dX8_sees_134 rfl (by decide) (by omega) rfl ?_
            refine ZW.iconst dX8_sees_135 ?_
            refine ZW.icmp_gt (tgt := 143) dX8_sees_136 (by decide) (by (try rw [hdo]); omega) (by (try rw [hdo]); omega) (fun c136 => ?_) (fun c136 => ?_)
            · rw [hdo] at c136
              refine ZW.iconst dX8_sees_143 ?_
              refine ZW.istore dX8_sees_144 (by decide) rfl ?_
              refine ZW.iinc dX8_sees_146 rfl (by decide) rfl ?_
              refine ZW.goto (tgt := 100) dX8_sees_149 (by decide) ?_
              exact fin false (by rw [e]; simp [seesT]; omega)
            · rw [hdo] at c136
              refine ZW.iconst dX8_sees_139 ?_
              refine ZW.goto (tgt := 144) dX8_sees_140 (by decide) ?_
              refine ZW.istore dX8_sees_144 (by decide) rfl ?_
              refine ZW.iinc dX8_sees_146 rfl (by decide) rfl ?_
              refine ZW.goto (tgt := 100) dX8_sees_149 (by decide) ?_
              exact fin true (by rw [e]; simp [seesT, c125, c136])
  have loop1 : ∀ (n : Nat) (u : Int) (b : Bool), 0 ≤ u → u + n = g 101 192 → ZW 3 mX8_sees 29 [some (.inr 100), some (.inl side), some (.inl x), some (.inl (farF (g 101) x)), some (.inl (zB b)), some (.inl u)] [] g1 (fun r g' => r = zB ((b || anyF (seesU (g 101) side x) n u) || anyF (seesT (g 101) side x) 63 0) ∧ zFr [108] g g') := by
    intro n
    induction n with
    | zero =>
      intro u b h0 hn
      refine ZW.iload dX8_sees_29 rfl ?_
      refine ZW.aload_n dX8_sees_31 rfl ?_
      refine ZW.getR dX8_sees_32 fl_X8_7 ⟨_, rfl, rfl⟩ ?_
      refine ZW.sipush dX8_sees_35 rfl ?_
      refine ZW.iald dX8_sees_38 rfl (by decide) (by omega) rfl ?_
      refine ZW.icmp_ge (tgt := 97) dX8_sees_39 (by decide) (by (try rw [e1]); omega) (by (try rw [e1]); omega) (fun c39 => ?_) (fun c39 => ?_)
      · refine ZW.iconst dX8_sees_97 ?_
        refine ZW.istore dX8_sees_98 (by decide) rfl ?_
        refine ZW.mono (loop2 63 0 b _ (by omega) (by omega)) (fun r g' hh => ⟨?_, hh.2⟩)
        rw [hh.1]
        simp [anyF]
      · rw [e1] at c39; exact absurd c39 (by omega)
    | succ n ih =>
      intro u b h0 hn
      have hU := hu u h0 (by omega)
      have hd2 := hd (ofF (g 101) u 2) hU.2.1 hU.2.2
      have hs2 := stepsF_0 hx (x := ofF (g 101) u 2) hU.2
      have hr1 := ofU_R hk (u := u) ⟨h0, by omega⟩ (w := 1) (by omega)
      have hr0 := ofU_R hk (u := u) ⟨h0, by omega⟩ (w := 0) (by omega)
      have hff : farF (g 101) x = 1 ∨ farF (g 101) x = 2 := by unfold farF; split <;> omega
      have fin : ∀ b2 : Bool, b2 = (b || seesU (g 101) side x u) → ZW 3 mX8_sees 29 [some (.inr 100), some (.inl side), some (.inl x), some (.inl (farF (g 101) x)), some (.inl (zB b2)), some (.inl (u + 1))] [] g1 (fun r g' => r = zB ((b || anyF (seesU (g 101) side x) (n + 1) u) || anyF (seesT (g 101) side x) 63 0) ∧ zFr [108] g g') := by
        intro b2 hb2
        refine ZW.mono (ih (u + 1) b2 (by omega) (by omega)) (fun r g' hh => ⟨?_, hh.2⟩)
        rw [hh.1, hb2]
        simp [anyF, Bool.or_assoc]
      refine ZW.iload dX8_sees_29 rfl ?_
      refine ZW.aload_n dX8_sees_31 rfl ?_
      refine ZW.getR dX8_sees_32 fl_X8_7 ⟨_, rfl, rfl⟩ ?_
      refine ZW.sipush dX8_sees_35 rfl ?_
      refine ZW.iald dX8_sees_38 rfl (by decide) (by omega) rfl ?_
      refine ZW.icmp_ge (tgt := 97) dX8_sees_39 (by decide) (by (try rw [e1]); omega) (by (try rw [e1]); omega) (fun c39 => ?_) (fun c39 => ?_)
      · rw [e1] at c39; exact absurd c39 (by omega)
      · refine ZW.iload dX8_sees_42 rfl ?_
        refine ZW.if_ne (tgt := 84) dX8_sees_44 (by decide) (by exact zB_R _) (fun c44 => ?_) (fun c44 => ?_)
        · have e := zB_ne c44
          refine ZW.iconst dX8_sees_84 ?_
          refine ZW.goto (tgt := 89) dX8_sees_85 (by decide) ?_
          refine ZW.istore dX8_sees_89 (by decide) rfl ?_
          refine ZW.iinc dX8_sees_91 rfl (by decide) rfl ?_
          refine ZW.goto (tgt := 29) dX8_sees_94 (by decide) ?_
          exact fin true (by rw [e]; rfl)
        · have e := zB_eq c44
          refine ZW.aload_n dX8_sees_47 rfl ?_
          refine ZW.iload dX8_sees_48 rfl ?_
          refine ZW.iconst dX8_sees_50 ?_
          refine ZW.callV (as := [_, _]) dX8_sees_51 cv_X8_52 ⟨_, rfl⟩ rfl (by decide) (Nat.le_of_ble_eq_true rfl) rfl (c_X8_of _ (by omega) (by omega)) (fun r1 g2 ⟨q1, q2⟩ => ?_)
          subst q1; subst q2
          rw [e1]
          refine ZW.if_le (tgt := 88) dX8_sees_54 (by decide) (by omega) (fun c54 => ?_) (fun c54 => ?_)
          · refine ZW.iconst dX8_sees_88 ?_
            refine ZW.istore dX8_sees_89 (by decide) rfl ?_
            refine ZW.iinc dX8_sees_91 rfl (by decide) rfl ?_
            refine ZW.goto (tgt := 29) dX8_sees_94 (by decide) ?_
            exact fin false (by rw [e]; simp [seesU]; omega)
          · refine ZW.aload_n dX8_sees_57 rfl ?_
            refine ZW.iload dX8_sees_58 rfl ?_
            refine ZW.iconst dX8_sees_60 ?_
            refine ZW.callV (as := [_, _]) dX8_sees_61 cv_X8_52 ⟨_, rfl⟩ rfl (by decide) (Nat.le_of_ble_eq_true rfl) rfl (c_X8_of _ (by omega) (by omega)) (fun r1 g3 ⟨q1, q2⟩ => ?_)
            subst q1; subst q2
            rw [e1]
            refine ZW.iload_n dX8_sees_64 rfl ?_
            refine ZW.icmp_ne (tgt := 88) dX8_sees_65 (by decide) (by omega) (by omega) (fun c65 => ?_) (fun c65 => ?_)
            · refine ZW.iconst dX8_sees_88 ?_
              refine ZW.istore dX8_sees_89 (by decide) rfl ?_
              refine ZW.iinc dX8_sees_91 rfl (by decide) rfl ?_
              refine ZW.goto (tgt := 29) dX8_sees_94 (by decide) ?_
              exact fin false (by rw [e]; simp [seesU, c65])
            · refine ZW.aload_n dX8_sees_68 rfl ?_
              refine ZW.getR dX8_sees_69 fl_X8_32 ⟨_, rfl, rfl⟩ ?_
              refine ZW.aload_n dX8_sees_72 rfl ?_
              refine ZW.iload dX8_sees_73 rfl ?_
              refine ZW.iconst dX8_sees_75 ?_
              refine ZW.callV (as := [_, _]) dX8_sees_76 cv_X8_52 ⟨_, rfl⟩ rfl (by decide) (Nat.le_of_ble_eq_true rfl) rfl (c_X8_of _ (by omega) (by omega)) (fun r1 g4 ⟨q1, q2⟩ => ?_)
              subst q1; subst q2
              rw [e1]
              refine ZW.iald dX8_sees_79 rfl (by decide) (by omega) rfl ?_
              rw [hd2]
              refine ZW.iload_n dX8_sees_80 rfl ?_
              refine ZW.icmp_gt (tgt := 88) dX8_sees_81 (by decide) (by omega) (by omega) (fun c81 => ?_) (fun c81 => ?_)
              · refine ZW.iconst dX8_sees_88 ?_
                refine ZW.istore dX8_sees_89 (by decide) rfl ?_
                refine ZW.iinc dX8_sees_91 rfl (by decide) rfl ?_
                refine ZW.goto (tgt := 29) dX8_sees_94 (by decide) ?_
                exact fin false (by rw [e]; simp [seesU]; omega)
              · refine ZW.iconst dX8_sees_84 ?_
                refine ZW.goto (tgt := 89) dX8_sees_85 (by decide) ?_
                refine ZW.istore dX8_sees_89 (by decide) rfl ?_
                refine ZW.iinc dX8_sees_91 rfl (by decide) rfl ?_
                refine ZW.goto (tgt := 29) dX8_sees_94 (by decide) ?_
                exact fin true (by rw [e]; simp [seesU, c65, c54, c81])
  have hgx := hk.1 x (by omega) (by omega)
  refine ZW.aload_n dX8_sees_5 rfl ?_
  refine ZW.getR dX8_sees_6 fl_X8_7 ⟨_, rfl, rfl⟩ ?_
  refine ZW.iconst dX8_sees_9 ?_
  refine ZW.iload_n dX8_sees_10 rfl ?_
  refine ZW.iadd dX8_sees_11 (ZW.top (Int.zero_add x) ?_)
  refine ZW.iald dX8_sees_12 rfl (by decide) (by omega) rfl ?_
  rw [e1]
  refine ZW.iconst dX8_sees_13 ?_
  refine ZW.icmp_ne (tgt := 21) dX8_sees_14 (by decide) (by omega) (by omega) (fun c14 => ?_) (fun c14 => ?_)
  · refine ZW.iconst dX8_sees_21 ?_
    refine ZW.istore_n dX8_sees_22 (by decide) rfl ?_
    refine ZW.iconst dX8_sees_23 ?_
    refine ZW.istore dX8_sees_24 (by decide) rfl ?_
    refine ZW.iconst dX8_sees_26 ?_
    refine ZW.istore dX8_sees_27 (by decide) rfl ?_
    have hfar : farF (g 101) x = 2 := by unfold farF; rw [if_neg c14]
    rw [← hfar]
    refine ZW.mono (loop1 (g 101 192).toNat 0 false (by omega) (by omega)) (fun r g' hh => ⟨?_, hh.2⟩)
    rw [hh.1]; simp [seesF]
  · refine ZW.iconst dX8_sees_17 ?_
    refine ZW.goto (tgt := 22) dX8_sees_18 (by decide) ?_
    refine ZW.istore_n dX8_sees_22 (by decide) rfl ?_
    refine ZW.iconst dX8_sees_23 ?_
    refine ZW.istore dX8_sees_24 (by decide) rfl ?_
    refine ZW.iconst dX8_sees_26 ?_
    refine ZW.istore dX8_sees_27 (by decide) rfl ?_
    have hfar : farF (g 101) x = 1 := by unfold farF; rw [if_pos c14]
    rw [show (some (Sum.inl (1 : Int)) : Option ZV) = some (Sum.inl (farF (g 101) x)) by rw [hfar]]
    refine ZW.mono (loop1 (g 101 192).toNat 0 false (by omega) (by omega)) (fun r g' hh => ⟨?_, hh.2⟩)
    rw [hh.1]; simp [seesF]
-- powers
noncomputable def powF (r : Int → Int) (u x : Int) : Int := if rivB r (ofF r u 2) (dirF (ofF r u 2) x) then (if supB r u then 2 * ofF r u 1 else 2 * ofF r u 1 / 2) / 2 else (if supB r u then 2 * ofF r u 1 else 2 * ofF r u 1 / 2)
def defP (r : Int → Int) (u : Int) : Int := (if 0 < r (126 + ofF r u 2) then 2 * (2 * ofF r u 1) else 2 * ofF r u 1) + (if 0 < r (ofF r u 2) then 2 else 0)
noncomputable def defF (r : Int → Int) (u : Int) : Int := if supB r u then defP r u else defP r u / 2
def weakF (r : Int → Int) (u m : Int) : Int := if ofF r u 1 - 1 - m / 4 < 0 then 0 else ofF r u 1 - 1 - m / 4
def canF (r : Int → Int) (u x : Int) : Bool := isOnB r x (1 - ofF r u 0) && decide (dirF (ofF r u 2) x ≠ -5)
theorem c_X8_canFight (g : ZH) (hk : okB (g 101)) (hU : okU (g 101)) {u x : Int} (hu : 0 ≤ u ∧ u < 16) (hx : 0 ≤ x ∧ x < 63) : ZC 3 mX8_canFight [.inr 100, .inl u, .inl x] g (fun r g' => r = zB (canF (g 101) u x) ∧ g' = g) := by
  have h0 := hU u hu.1 hu.2
  refine ZC.of (by decide +kernel) (Nat.le_of_ble_eq_true rfl) ?_
  refine ZW.aload_n dX8_canFight_0 rfl ?_
  refine ZW.iload_n dX8_canFight_1 rfl ?_
  refine ZW.iconst dX8_canFight_2 ?_
  refine ZW.aload_n dX8_canFight_3 rfl ?_
  refine ZW.iload_n dX8_canFight_4 rfl ?_
  refine ZW.iconst dX8_canFight_5 ?_
  refine ZW.callV (as := [_, _]) dX8_canFight_6 cv_X8_52 ⟨_, rfl⟩ rfl (by decide) (Nat.le_of_ble_eq_true rfl) rfl (c_X8_of _ hu (by omega)) (fun r1 g2 ⟨q1, q2⟩ => ?_)
  subst q1; subst q2
  refine ZW.isub dX8_canFight_9 ?_
  refine ZW.callV (as := [_, _]) dX8_canFight_10 cv_X8_66 ⟨_, rfl⟩ rfl (by decide) (Nat.le_of_ble_eq_true rfl) rfl (c_X8_isOn _ hk (by omega) (by omega)) (fun r1 g2 ⟨q1, q2⟩ => ?_)
  subst q1; subst q2
  refine ZW.if_eq (tgt := 35) dX8_canFight_13 (by decide) (by exact zB_R _) (fun c13 => ?_) (fun c13 => ?_)
  · have e := zB_eq c13
    refine ZW.iconst dX8_canFight_35 ?_
    refine ZW.iretz dX8_canFight_36 rfl (by first | exact Or.inl rfl | exact Or.inr rfl | assumption | omega) ?_
    exact ⟨by simp [canF, e, zB], rfl⟩
  · have e := zB_ne c13
    refine ZW.aload_n dX8_canFight_16 rfl ?_
    refine ZW.iload_n dX8_canFight_17 rfl ?_
    refine ZW.iconst dX8_canFight_18 ?_
    refine ZW.callV (as := [_, _]) dX8_canFight_19 cv_X8_52 ⟨_, rfl⟩ rfl (by decide) (Nat.le_of_ble_eq_true rfl) rfl (c_X8_of _ hu (by omega)) (fun r1 g3 ⟨q1, q2⟩ => ?_)
    subst q1; subst q2
    refine ZW.iload_n dX8_canFight_22 rfl ?_
    refine ZW.callS (as := [_, _]) dX8_canFight_23 cs_X8_108 rfl (by decide) (Nat.le_of_ble_eq_true rfl) rfl (c_X8_directionTo _ h0.2 (by omega)) (fun r1 g4 ⟨q1, q2⟩ => ?_)
    subst q1; subst q2
    have h1 := dirF_R (ofF (g4 101) u 2) x
    refine ZW.bipush dX8_canFight_26 rfl ?_
    refine ZW.icmp_eq (tgt := 35) dX8_canFight_28 (by decide) (by omega) (by omega) (fun c28 => ?_) (fun c28 => ?_)
    · refine ZW.iconst dX8_canFight_35 ?_
      refine ZW.iretz dX8_canFight_36 rfl (by first | exact Or.inl rfl | exact Or.inr rfl | assumption | omega) ?_
      exact ⟨by simp [canF, e, zB, c28], rfl⟩
    · refine ZW.iconst dX8_canFight_31 ?_
      refine ZW.goto (tgt := 36) dX8_canFight_32 (by decide) ?_
      refine ZW.iretz dX8_canFight_36 rfl (by first | exact Or.inl rfl | exact Or.inr rfl | assumption | omega) ?_
      exact ⟨by simp [canF, e, zB, c28], rfl⟩
theorem c_X8_weakened (g : ZH) (hk : okB (g 101)) {u m : Int} (hu : 0 ≤ u ∧ u < 16) (hm : 0 ≤ m ∧ m < 100000) : ZC 1 mX8_weakened [.inr 100, .inl u, .inl m] g (fun r g' => r = weakF (g 101) u m ∧ g' = g) := by
  have h1 := ofF_R hk hu (w := 1) (by omega)
  refine ZC.of (by decide +kernel) (Nat.le_of_ble_eq_true rfl) ?_
  refine ZW.aload_n dX8_weakened_0 rfl ?_
  refine ZW.iload_n dX8_weakened_1 rfl ?_
  refine ZW.iconst dX8_weakened_2 ?_
  refine ZW.callV (as := [_, _]) dX8_weakened_3 cv_X8_52 ⟨_, rfl⟩ rfl (by decide) (Nat.le_of_ble_eq_true rfl) rfl (c_X8_of _ hu (by omega)) (fun r1 g2 ⟨q1, q2⟩ => ?_)
  subst q1; subst q2
  refine ZW.iconst dX8_weakened_6 ?_
  refine ZW.isub dX8_weakened_7 ?_
  refine ZW.iload_n dX8_weakened_8 rfl ?_
  refine ZW.iconst dX8_weakened_9 ?_
  refine ZW.idiv dX8_weakened_10 (by omega) ?_
  refine ZW.isub dX8_weakened_11 ?_
  refine ZW.istore_n dX8_weakened_12 (by decide) rfl ?_
  refine ZW.iload_n dX8_weakened_13 rfl ?_
  refine ZW.if_ge (tgt := 21) dX8_weakened_14 (by decide) (by omega) (fun c14 => ?_) (fun c14 => ?_)
  · refine ZW.iload_n dX8_weakened_21 rfl ?_
    refine ZW.ireti dX8_weakened_22 rfl ?_
    exact ⟨by unfold weakF; rw [if_neg (by omega)], rfl⟩
  · refine ZW.iconst dX8_weakened_17 ?_
    refine ZW.goto (tgt := 22) dX8_weakened_18 (by decide) ?_
    refine ZW.ireti dX8_weakened_22 rfl ?_
    exact ⟨by unfold weakF; rw [if_pos (by omega)], rfl⟩
theorem c_X8_power (g : ZH) (hk : okB (g 101)) (hU : okU (g 101)) {u x : Int} (hu : 0 ≤ u ∧ u < 16) (hx : 0 ≤ x ∧ x < 63) (hd : dirF (ofF (g 101) u 2) x ≠ -5) : ZC 7 mX8_power [.inr 100, .inl u, .inl x] g (fun r g' => r = powF (g 101) u x ∧ zFr [108, 109] g g') := by
  have h0 := hU u hu.1 hu.2
  have h1 := ofF_R hk hu (w := 1) (by omega)
  have h2 := (dirF_R (ofF (g 101) u 2) x).resolve_left hd
  refine ZC.of (by decide +kernel) (Nat.le_of_ble_eq_true rfl) ?_
  refine ZW.iconst dX8_power_0 ?_
  refine ZW.aload_n dX8_power_1 rfl ?_
  refine ZW.iload_n dX8_power_2 rfl ?_
  refine ZW.iconst dX8_power_3 ?_
  refine ZW.callV (as := [_, _]) dX8_power_4 cv_X8_52 ⟨_, rfl⟩ rfl (by decide) (Nat.le_of_ble_eq_true rfl) rfl (c_X8_of _ hu (by omega)) (fun r1 g2 ⟨q1, q2⟩ => ?_)
  subst q1; subst q2
  refine ZW.imul dX8_power_7 ?_
  refine ZW.istore_n dX8_power_8 (by decide) rfl ?_
  refine ZW.aload_n dX8_power_9 rfl ?_
  refine ZW.iload_n dX8_power_10 rfl ?_
  refine ZW.callV (as := [_]) dX8_power_11 cv_X8_104 ⟨_, rfl⟩ rfl (by decide) (Nat.le_of_ble_eq_true rfl) rfl (c_X8_isSupplied _ hk hU hu) (fun r1 g1 ⟨q1, hf⟩ => ?_)
  subst q1
  have e1 : g1 101 = g2 101 := hf 101 (by decide)
  have tail : ∀ p : Int, 0 ≤ p → p < 10000 → p = (if supB (g2 101) u then 2 * ofF (g2 101) u 1 else 2 * ofF (g2 101) u 1 / 2) → ZW 7 mX8_power 24 [some (.inr 100), some (.inl u), some (.inl x), some (.inl (2 * ofF (g2 101) u 1))] [.inl p] g1 (fun r g' => r = powF (g2 101) u x ∧ zFr [108, 109] g2 g') := by
    intro p p0 p1 hp
    refine ZW.istore_n dX8_power_24 (by decide) rfl ?_
    refine ZW.aload_n dX8_power_25 rfl ?_
    refine ZW.aload_n dX8_power_26 rfl ?_
    refine ZW.iload_n dX8_power_27 rfl ?_
    refine ZW.iconst dX8_power_28 ?_
    refine ZW.callV (as := [_, _]) dX8_power_29 cv_X8_52 ⟨_, rfl⟩ rfl (by decide) (Nat.le_of_ble_eq_true rfl) rfl (c_X8_of _ hu (by omega)) (fun r1 g3 ⟨q1, q2⟩ => ?_)
    subst q1; subst q2
    rw [e1]
    refine ZW.aload_n dX8_power_32 rfl ?_
    refine ZW.iload_n dX8_power_33 rfl ?_
    refine ZW.iconst dX8_power_34 ?_
    refine ZW.callV (as := [_, _]) dX8_power_35 cv_X8_52 ⟨_, rfl⟩ rfl (by decide) (Nat.le_of_ble_eq_true rfl) rfl (c_X8_of _ hu (by omega)) (fun r1 g4 ⟨q1, q2⟩ => ?_)
    subst q1; subst q2
    rw [e1]
    refine ZW.iload_n dX8_power_38 rfl ?_
    refine ZW.callS (as := [_, _]) dX8_power_39 cs_X8_108 rfl (by decide) (Nat.le_of_ble_eq_true rfl) rfl (c_X8_directionTo _ h0.2 (by omega)) (fun r1 g5 ⟨q1, q2⟩ => ?_)
    subst q1; subst q2
    refine ZW.callV (as := [_, _]) dX8_power_42 cv_X8_77 ⟨_, rfl⟩ rfl (by decide) (Nat.le_of_ble_eq_true rfl) rfl (c_X8_hasRiver _ (e1 ▸ hk) h0.2 ⟨h2.1, h2.2.1⟩) (fun r1 g6 ⟨q1, q2⟩ => ?_)
    subst q1; subst q2
    rw [e1]
    refine ZW.if_eq (tgt := 54) dX8_power_45 (by decide) (by exact zB_R _) (fun c45 => ?_) (fun c45 => ?_)
    · have e := zB_eq c45
      refine ZW.iload_n dX8_power_54 rfl ?_
      refine ZW.ireti dX8_power_55 rfl ?_
      exact ⟨by unfold powF; rw [e, hp]; simp, hf⟩
    · have e := zB_ne c45
      refine ZW.iload_n dX8_power_48 rfl ?_
      refine ZW.iconst dX8_power_49 ?_
      refine ZW.idiv dX8_power_50 (by omega) ?_
      refine ZW.goto (tgt := 55) dX8_power_51 (by decide) ?_
      refine ZW.ireti dX8_power_55 rfl ?_
      exact ⟨by unfold powF; rw [e, hp]; simp, hf⟩
  refine ZW.if_eq (tgt := 21) dX8_power_14 (by decide) (by exact zB_R _) (fun c14 => ?_) (fun c14 => ?_)
  · have e := zB_eq c14
    refine ZW.iload_n dX8_power_21 rfl ?_
    refine ZW.iconst dX8_power_22 ?_
    refine ZW.idiv dX8_power_23 (by omega) ?_
    exact tail _ (by omega) (by omega) (by rw [e]; simp)
  · have e := zB_ne c14
    refine ZW.iload_n dX8_power_17 rfl ?_
    refine ZW.goto (tgt := 24) dX8_power_18 (by decide) ?_
    exact tail _ (by omega) (by omega) (by rw [e]; simp)
theorem c_X8_defence (g : ZH) (hk : okB (g 101)) (hU : okU (g 101)) {u : Int} (hu : 0 ≤ u ∧ u < 16) : ZC 7 mX8_defence [.inr 100, .inl u] g (fun r g' => r = defF (g 101) u ∧ zFr [108, 109] g g') := by
  have h0 := hU u hu.1 hu.2
  have h1 := ofF_R hk hu (w := 1) (by omega)
  have h3 := hk.1 (126 + ofF (g 101) u 2) (by omega) (by omega)
  have h4 := hk.1 (ofF (g 101) u 2) (by omega) (by omega)
  refine ZC.of (by decide +kernel) (Nat.le_of_ble_eq_true rfl) ?_
  refine ZW.aload_n dX8_defence_0 rfl ?_
  refine ZW.iload_n dX8_defence_1 rfl ?_
  refine ZW.iconst dX8_defence_2 ?_
  refine ZW.callV (as := [_, _]) dX8_defence_3 cv_X8_52 ⟨_, rfl⟩ rfl (by decide) (Nat.le_of_ble_eq_true rfl) rfl (c_X8_of _ hu (by omega)) (fun r1 g2 ⟨q1, q2⟩ => ?_)
  subst q1; subst q2
  refine ZW.istore_n dX8_defence_6 (by decide) rfl ?_
  refine ZW.iconst dX8_defence_7 ?_
  refine ZW.aload_n dX8_defence_8 rfl ?_
  refine ZW.iload_n dX8_defence_9 rfl ?_
  refine ZW.iconst dX8_defence_10 ?_
  refine ZW.callV (as := [_, _]) dX8_defence_11 cv_X8_52 ⟨_, rfl⟩ rfl (by decide) (Nat.le_of_ble_eq_true rfl) rfl (c_X8_of _ hu (by omega)) (fun r1 g2 ⟨q1, q2⟩ => ?_)
  subst q1; subst q2
  have tail2 : ∀ (p : Int) (b : Int), 0 ≤ p → p < 10000 → p + b = defP (g2 101) u → 0 ≤ b → b ≤ 2 → ZW 7 mX8_defence 53 [some (.inr 100), some (.inl u), some (.inl (ofF (g2 101) u 2)), some (.inl p)] [.inl b, .inl p] g2 (fun r g' => r = defF (g2 101) u ∧ zFr [108, 109] g2 g') := by
    intro p b p0 p1 hp b0 b1
    refine ZW.iadd dX8_defence_53 ?_
    refine ZW.istore_n dX8_defence_54 (by decide) rfl ?_
    refine ZW.aload_n dX8_defence_55 rfl ?_
    refine ZW.iload_n dX8_defence_56 rfl ?_
    refine ZW.callV (as := [_]) dX8_defence_57 cv_X8_104 ⟨_, rfl⟩ rfl (by decide) (Nat.le_of_ble_eq_true rfl) rfl (c_X8_isSupplied _ hk hU hu) (fun r1 g1 ⟨q1, hf⟩ => ?_)
    subst q1
    refine ZW.if_eq (tgt := 67) dX8_defence_60 (by decide) (by exact zB_R _) (fun c60 => ?_) (fun c60 => ?_)
    · have e := zB_eq c60
      refine ZW.iload_n dX8_defence_67 rfl ?_
      refine ZW.iconst dX8_defence_68 ?_
      refine ZW.idiv dX8_defence_69 (by omega) ?_
      refine ZW.ireti dX8_defence_70 rfl ?_
      exact ⟨by unfold defF; rw [e, hp]; simp, hf⟩
    · have e := zB_ne c60
      refine ZW.iload_n dX8_defence_63 rfl ?_
      refine ZW.goto (tgt := 70) dX8_defence_64 (by decide) ?_
      refine ZW.ireti dX8_defence_70 rfl ?_
      exact ⟨by unfold defF; rw [e, hp]; simp, hf⟩
  have tail : ∀ (p : Int) (o : Option ZV), 0 ≤ p → p < 10000 → p = (if 0 < g2 101 (126 + ofF (g2 101) u 2) then 2 * (2 * ofF (g2 101) u 1) else 2 * ofF (g2 101) u 1) → ZW 7 mX8_defence 35 [some (.inr 100), some (.inl u), some (.inl (ofF (g2 101) u 2)), o] [.inl p] g2 (fun r g' => r = defF (g2 101) u ∧ zFr [108, 109] g2 g') := by
    intro p o p0 p1 hp
    refine ZW.istore_n dX8_defence_35 (by decide) rfl ?_
    refine ZW.iload_n dX8_defence_36 rfl ?_
    refine ZW.aload_n dX8_defence_37 rfl ?_
    refine ZW.getR dX8_defence_38 fl_X8_7 ⟨_, rfl, rfl⟩ ?_
    refine ZW.iconst dX8_defence_41 ?_
    refine ZW.iload_n dX8_defence_42 rfl ?_
    refine ZW.iadd dX8_defence_43 (ZW.top (Int.zero_add _) ?_)
    refine ZW.iald dX8_defence_44 rfl (by decide) (by omega) rfl ?_
    refine ZW.if_le (tgt := 52) dX8_defence_45 (by decide) (by omega) (fun c45 => ?_) (fun c45 => ?_)
    · refine ZW.iconst dX8_defence_52 ?_
      exact tail2 p 0 p0 p1 (by unfold defP; rw [← hp, if_neg (by omega)]) (by omega) (by omega)
    · refine ZW.iconst dX8_defence_48 ?_
      refine ZW.goto (tgt := 53) dX8_defence_49 (by decide) ?_
      exact tail2 p 2 p0 p1 (by unfold defP; rw [← hp, if_pos (by omega)]) (by omega) (by omega)
  refine ZW.imul dX8_defence_14 ?_
  refine ZW.istore_n dX8_defence_15 (by decide) rfl ?_
  refine ZW.aload_n dX8_defence_16 rfl ?_
  refine ZW.getR dX8_defence_17 fl_X8_7 ⟨_, rfl, rfl⟩ ?_
  refine ZW.bipush dX8_defence_20 rfl ?_
  refine ZW.iload_n dX8_defence_22 rfl ?_
  refine ZW.iadd dX8_defence_23 ?_
  refine ZW.iald dX8_defence_24 rfl (by decide) (by omega) rfl ?_
  refine ZW.if_le (tgt := 34) dX8_defence_25 (by decide) (by omega) (fun c25 => ?_) (fun c25 => ?_)
  · refine ZW.iload_n dX8_defence_34 rfl ?_
    exact tail _ _ (by omega) (by omega) (by rw [if_neg (by omega)])
  · refine ZW.iconst dX8_defence_28 ?_
    refine ZW.iload_n dX8_defence_29 rfl ?_
    refine ZW.imul dX8_defence_30 ?_
    refine ZW.goto (tgt := 35) dX8_defence_31 (by decide) ?_
    exact tail _ _ (by omega) (by omega) (by rw [if_pos (by omega)])
