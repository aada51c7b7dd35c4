-- the reference: what is counted
def fortsF (r : Int → Int) (side : Int) : Int := cntF (fun x => zB (decide (r (126 + x) = side + 1))) 63 0
theorem c_X8_forts (g : ZH) (hk : okB (g 101)) {side : Int} (hs : 0 ≤ side ∧ side < 2) : ZC 0 mX8_forts [.inr 100, .inl side] g (fun r g' => r = fortsF (g 101) side ∧ g' = g) := by
  refine ZC.of (by decide +kernel) (Nat.le_of_ble_eq_true rfl) ?_
  have loop : ∀ (n : Nat) (x acc : Int), 0 ≤ x → x + n = 63 → ZW 0 mX8_forts 4 [some (.inr 100), some (.inl side), some (.inl acc), some (.inl x)] [] g (fun r g' => r = acc + cntF (fun x => zB (decide (g 101 (126 + x) = side + 1))) n x ∧ g' = g) := by
    intro n
    induction n with
    | zero =>
      intro x acc h0 hn
      refine ZW.iload_n dX8_forts_4 rfl ?_
      refine ZW.bipush dX8_forts_5 rfl ?_
      refine ZW.icmp_ge (tgt := 39) dX8_forts_7 (by decide) (by omega) (by omega) (fun c7 => ?_) (fun c7 => ?_)
      · refine ZW.iload_n dX8_forts_39 rfl ?_
        refine ZW.ireti dX8_forts_40 rfl ?_
        exact ⟨by simp [cntF], rfl⟩
      · exact absurd c7 (by omega)
    | succ n ih =>
      intro x acc h0 hn
      have h1 := hk.1 (126 + x) (by omega) (by omega)
      refine ZW.iload_n dX8_forts_4 rfl ?_
      refine ZW.bipush dX8_forts_5 rfl ?_
      refine ZW.icmp_ge (tgt := 39) dX8_forts_7 (by decide) (by omega) (by omega) (fun c7 => ?_) (fun c7 => ?_)
      · exact absurd c7 (by omega)
      · refine ZW.iload_n dX8_forts_10 rfl ?_
        refine ZW.aload_n dX8_forts_11 rfl ?_
        refine ZW.getR dX8_forts_12 fl_X8_7 ⟨_, rfl, rfl⟩ ?_
        refine ZW.bipush dX8_forts_15 rfl ?_
        refine ZW.iload_n dX8_forts_17 rfl ?_
        refine ZW.iadd dX8_forts_18 ?_
        refine ZW.iald dX8_forts_19 rfl (by decide) (by omega) rfl ?_
        refine ZW.iload_n dX8_forts_20 rfl ?_
        refine ZW.iconst dX8_forts_21 ?_
        refine ZW.iadd dX8_forts_22 ?_
        refine ZW.icmp_ne (tgt := 30) dX8_forts_23 (by decide) (by omega) (by omega) (fun c23 => ?_) (fun c23 => ?_)
        · refine ZW.iconst dX8_forts_30 ?_
          refine ZW.iadd dX8_forts_31 ?_
          refine ZW.istore_n dX8_forts_32 (by decide) rfl ?_
          refine ZW.iinc dX8_forts_33 rfl (by decide) rfl ?_
          refine ZW.goto (tgt := 4) dX8_forts_36 (by decide) ?_
          refine ZW.mono (ih (x + 1) _ (by omega) (by omega)) (fun r g' hh => ⟨?_, hh.2⟩)
          rw [hh.1]; simp [cntF, c23, zB]
        · refine ZW.iconst dX8_forts_26 ?_
          refine ZW.goto (tgt := 31) dX8_forts_27 (by decide) ?_
          refine ZW.iadd dX8_forts_31 ?_
          refine ZW.istore_n dX8_forts_32 (by decide) rfl ?_
          refine ZW.iinc dX8_forts_33 rfl (by decide) rfl ?_
          refine ZW.goto (tgt := 4) dX8_forts_36 (by decide) ?_
          refine ZW.mono (ih (x + 1) _ (by omega) (by omega)) (fun r g' hh => ⟨?_, hh.2⟩)
          rw [hh.1]; simp [cntF, c23, zB, Int.add_assoc]
  refine ZW.iconst dX8_forts_0 ?_
  refine ZW.istore_n dX8_forts_1 (by decide) rfl ?_
  refine ZW.iconst dX8_forts_2 ?_
  refine ZW.istore_n dX8_forts_3 (by decide) rfl ?_
  refine ZW.mono (loop 63 0 0 (by omega) (by omega)) (fun r g' hh => ⟨?_, hh.2⟩)
  rw [hh.1, Int.zero_add]; rfl
def riversF (r : Int → Int) : Int := cntF (fun x => cntF (fun d => zB (rivB r x d)) 3 0) 63 0
theorem c_X8_rivers (g : ZH) (hk : okB (g 101)) : ZC 1 mX8_rivers [.inr 100] g (fun r g' => r = riversF (g 101) ∧ g' = g) := by
  refine ZC.of (by decide +kernel) (Nat.le_of_ble_eq_true rfl) ?_
  have loopD : ∀ (n : Nat) (d x acc : Int) (Q : Int → ZH → Prop), 0 ≤ d → d + n = 3 → 0 ≤ x → x < 63 → (∀ o3 : Option ZV, ZW 1 mX8_rivers 40 [some (.inr 100), some (.inl (acc + cntF (fun d => zB (rivB (g 101) x d)) n d)), some (.inl x), o3] [] g Q) → ZW 1 mX8_rivers 12 [some (.inr 100), some (.inl acc), some (.inl x), some (.inl d)] [] g Q := by
    intro n
    induction n with
    | zero =>
      intro d x acc Q h0 hn hx hx2 k
      refine ZW.iload_n dX8_rivers_12 rfl ?_
      refine ZW.iconst dX8_rivers_13 ?_
      refine ZW.icmp_ge (tgt := 40) dX8_rivers_14 (by decide) (by omega) (by omega) (fun c14 => ?_) (fun c14 => ?_)
      · have h1 := k (some (.inl d))
        simp only [cntF, Int.add_zero] at h1
        exact h1
      · exact absurd c14 (by omega)
    | succ n ih =>
      intro d x acc Q h0 hn hx hx2 k
      refine ZW.iload_n dX8_rivers_12 rfl ?_
      refine ZW.iconst dX8_rivers_13 ?_
      refine ZW.icmp_ge (tgt := 40) dX8_rivers_14 (by decide) (by omega) (by omega) (fun c14 => ?_) (fun c14 => ?_)
      · exact absurd c14 (by omega)
      · refine ZW.iload_n dX8_rivers_17 rfl ?_
        refine ZW.aload_n dX8_rivers_18 rfl ?_
        refine ZW.iload_n dX8_rivers_19 rfl ?_
        refine ZW.iload_n dX8_rivers_20 rfl ?_
        refine ZW.callV (as := [_, _]) dX8_rivers_21 cv_X8_77 ⟨_, rfl⟩ rfl (by decide) (Nat.le_of_ble_eq_true rfl) rfl (c_X8_hasRiver _ hk ⟨hx, hx2⟩ ⟨h0, by omega⟩) (fun r1 g1 ⟨q1, q2⟩ => ?_)
        subst q1; subst q2
        refine ZW.if_eq (tgt := 31) dX8_rivers_24 (by decide) (by exact zB_R _) (fun c24 => ?_) (fun c24 => ?_)
        · have e := zB_eq c24
          refine ZW.iconst dX8_rivers_31 ?_
          refine ZW.iadd dX8_rivers_32 ?_
          refine ZW.istore_n dX8_rivers_33 (by decide) rfl ?_
          refine ZW.iinc dX8_rivers_34 rfl (by decide) rfl ?_
          refine ZW.goto (tgt := 12) dX8_rivers_37 (by decide) ?_
          refine ih (d + 1) x _ Q (by omega) (by omega) hx hx2 (fun o3 => ?_)
          have h1 := k o3
          simp only [cntF, e, zB_f, Int.zero_add] at h1
          rw [Int.add_zero]
          exact h1
        · have e := zB_ne c24
          refine ZW.iconst dX8_rivers_27 ?_
          refine ZW.goto (tgt := 32) dX8_rivers_28 (by decide) ?_
          refine ZW.iadd dX8_rivers_32 ?_
          refine ZW.istore_n dX8_rivers_33 (by decide) rfl ?_
          refine ZW.iinc dX8_rivers_34 rfl (by decide) rfl ?_
          refine ZW.goto (tgt := 12) dX8_rivers_37 (by decide) ?_
          refine ih (d + 1) x _ Q (by omega) (by omega) hx hx2 (fun o3 => ?_)
          have h1 := k o3
          simp only [cntF, e, zB_t] at h1
          rw [Int.add_assoc]
          exact h1
  have loop : ∀ (n : Nat) (x acc : Int) (o3 : Option ZV), 0 ≤ x → x + n = 63 → ZW 1 mX8_rivers 4 [some (.inr 100), some (.inl acc), some (.inl x), o3] [] g (fun r g' => r = acc + cntF (fun x => cntF (fun d => zB (rivB (g 101) x d)) 3 0) n x ∧ g' = g) := by
    intro n
    induction n with
    | zero =>
      intro x acc o3 h0 hn
      refine ZW.iload_n dX8_rivers_4 rfl ?_
      refine ZW.bipush dX8_rivers_5 rfl ?_
      refine ZW.icmp_ge (tgt := 46) dX8_rivers_7 (by decide) (by omega) (by omega) (fun c7 => ?_) (fun c7 => ?_)
      · refine ZW.iload_n dX8_rivers_46 rfl ?_
        refine ZW.ireti dX8_rivers_47 rfl ?_
        exact ⟨by simp [cntF], rfl⟩
      · exact absurd c7 (by omega)
    | succ n ih =>
      intro x acc o3 h0 hn
      refine ZW.iload_n dX8_rivers_4 rfl ?_
      refine ZW.bipush dX8_rivers_5 rfl ?_
      refine ZW.icmp_ge (tgt := 46) dX8_rivers_7 (by decide) (by omega) (by omega) (fun c7 => ?_) (fun c7 => ?_)
      · exact absurd c7 (by omega)
      · refine ZW.iconst dX8_rivers_10 ?_
        refine ZW.istore_n dX8_rivers_11 (by decide) rfl ?_
        refine loopD 3 0 x acc _ (by omega) (by omega) h0 (by omega) (fun o3 => ?_)
        refine ZW.iinc dX8_rivers_40 rfl (by decide) rfl ?_
        refine ZW.goto (tgt := 4) dX8_rivers_43 (by decide) ?_
        refine ZW.mono (ih (x + 1) _ _ (by omega) (by omega)) (fun r g' hh => ⟨?_, hh.2⟩)
        rw [hh.1, Int.add_assoc]; rfl
  refine ZW.iconst dX8_rivers_0 ?_
  refine ZW.istore_n dX8_rivers_1 (by decide) rfl ?_
  refine ZW.iconst dX8_rivers_2 ?_
  refine ZW.istore_n dX8_rivers_3 (by decide) rfl ?_
  refine ZW.mono (loop 63 0 0 _ (by omega) (by omega)) (fun r g' hh => ⟨?_, hh.2⟩)
  rw [hh.1, Int.zero_add]; rfl
def besF (x : Int) : Int := cntF (fun d => zB (decide (nextF x d ≠ -5))) 6 0
theorem c_X8_besides (g : ZH) {x : Int} (hx : 0 ≤ x ∧ x < 63) : ZC 2 mX8_besides [.inr 100, .inl x] g (fun r g' => r = besF x ∧ g' = g) := by
  refine ZC.of (by decide +kernel) (Nat.le_of_ble_eq_true rfl) ?_
  have loop : ∀ (n : Nat) (d acc : Int), 0 ≤ d → d + n = 6 → ZW 2 mX8_besides 4 [some (.inr 100), some (.inl x), some (.inl acc), some (.inl d)] [] g (fun r g' => r = acc + cntF (fun d => zB (decide (nextF x d ≠ -5))) n d ∧ g' = g) := by
    intro n
    induction n with
    | zero =>
      intro d acc h0 hn
      refine ZW.iload_n dX8_besides_4 rfl ?_
      refine ZW.bipush dX8_besides_5 rfl ?_
      refine ZW.icmp_ge (tgt := 34) dX8_besides_7 (by decide) (by omega) (by omega) (fun c7 => ?_) (fun c7 => ?_)
      · refine ZW.iload_n dX8_besides_34 rfl ?_
        refine ZW.ireti dX8_besides_35 rfl ?_
        exact ⟨by simp [cntF], rfl⟩
      · exact absurd c7 (by omega)
    | succ n ih =>
      intro d acc h0 hn
      have h1 := nextF_R' x d
      refine ZW.iload_n dX8_besides_4 rfl ?_
      refine ZW.bipush dX8_besides_5 rfl ?_
      refine ZW.icmp_ge (tgt := 34) dX8_besides_7 (by decide) (by omega) (by omega) (fun c7 => ?_) (fun c7 => ?_)
      · exact absurd c7 (by omega)
      · refine ZW.iload_n dX8_besides_10 rfl ?_
        refine ZW.iload_n dX8_besides_11 rfl ?_
        refine ZW.iload_n dX8_besides_12 rfl ?_
        refine ZW.callS (as := [_, _]) dX8_besides_13 cs_X8_59 rfl (by decide) (Nat.le_of_ble_eq_true rfl) rfl (c_X8_next _ hx (by omega)) (fun r1 g1 ⟨q1, q2⟩ => ?_)
        subst q1; subst q2
        refine ZW.bipush dX8_besides_16 rfl ?_
        refine ZW.icmp_ne (tgt := 25) dX8_besides_18 (by decide) (by omega) (by omega) (fun c18 => ?_) (fun c18 => ?_)
        · refine ZW.iconst dX8_besides_25 ?_
          refine ZW.iadd dX8_besides_26 ?_
          refine ZW.istore_n dX8_besides_27 (by decide) rfl ?_
          refine ZW.iinc dX8_besides_28 rfl (by decide) rfl ?_
          refine ZW.goto (tgt := 4) dX8_besides_31 (by decide) ?_
          refine ZW.mono (ih (d + 1) _ (by omega) (by omega)) (fun r g' hh => ⟨?_, hh.2⟩)
          rw [hh.1]; simp [cntF, c18, zB, Int.add_assoc]
        · refine ZW.iconst dX8_besides_21 ?_
          refine ZW.goto (tgt := 26) dX8_besides_22 (by decide) ?_
          refine ZW.iadd dX8_besides_26 ?_
          refine ZW.istore_n dX8_besides_27 (by decide) rfl ?_
          refine ZW.iinc dX8_besides_28 rfl (by decide) rfl ?_
          refine ZW.goto (tgt := 4) dX8_besides_31 (by decide) ?_
          refine ZW.mono (ih (d + 1) _ (by omega) (by omega)) (fun r g' hh => ⟨?_, hh.2⟩)
          rw [hh.1]; simp [cntF, c18, zB]
  refine ZW.iconst dX8_besides_0 ?_
  refine ZW.istore_n dX8_besides_1 (by decide) rfl ?_
  refine ZW.iconst dX8_besides_2 ?_
  refine ZW.istore_n dX8_besides_3 (by decide) rfl ?_
  refine ZW.mono (loop 6 0 0 (by omega) (by omega)) (fun r g' hh => ⟨?_, hh.2⟩)
  rw [hh.1, Int.zero_add]; rfl
noncomputable def canR (r : Int → Int) (u x : Int) : Bool := decide (wayF r u x ≤ ofF r u 3 ∧ unitOnF r x = -5)
noncomputable def reachF (r : Int → Int) (u : Int) : Int := cntF (fun x => zB (canR r u x)) 63 0
theorem c_X8_reaches (g : ZH) (hk : okB (g 101)) (hU : okU (g 101)) {u : Int} (hu : 0 ≤ u ∧ u < 16) : ZC 6 mX8_reaches [.inr 100, .inl u] g (fun r g' => r = reachF (g 101) u ∧ zFr [106, 107, 109] g g') := by
  refine ZC.of (by decide +kernel) (Nat.le_of_ble_eq_true rfl) ?_
  refine ZW.aload_n dX8_reaches_0 rfl ?_
  refine ZW.iload_n dX8_reaches_1 rfl ?_
  refine ZW.callVv (as := [_]) dX8_reaches_2 cv_X8_142 ⟨_, rfl⟩ rfl (by decide) (Nat.le_of_ble_eq_true rfl) rfl (fun _ _ hz _ => hz) (c_X8_laysWays _ hk hU hu) (fun g1 ⟨f1, w1⟩ => ?_)
  have e1 : g1 101 = g 101 := f1 101 (by decide)
  have loop : ∀ (n : Nat) (x acc : Int), 0 ≤ x → x + n = 63 → ZW 6 mX8_reaches 9 [some (.inr 100), some (.inl u), some (.inl acc), some (.inl x)] [] g1 (fun r g' => r = acc + cntF (fun x => zB (canR (g 101) u x)) n x ∧ zFr [106, 107, 109] g g') := by
    intro n
    induction n with
    | zero =>
      intro x acc h0 hn
      refine ZW.iload_n dX8_reaches_9 rfl ?_
      refine ZW.bipush dX8_reaches_10 rfl ?_
      refine ZW.icmp_ge (tgt := 38) dX8_reaches_12 (by decide) (by omega) (by omega) (fun c12 => ?_) (fun c12 => ?_)
      · refine ZW.iload_n dX8_reaches_38 rfl ?_
        refine ZW.ireti dX8_reaches_39 rfl ?_
        exact ⟨by simp [cntF], f1⟩
      · exact absurd c12 (by omega)
    | succ n ih =>
      intro x acc h0 hn
      have h1 := wayF_R (g 101) u x
      have h2 := w1 x h0 (by omega)
      refine ZW.iload_n dX8_reaches_9 rfl ?_
      refine ZW.bipush dX8_reaches_10 rfl ?_
      refine ZW.icmp_ge (tgt := 38) dX8_reaches_12 (by decide) (by omega) (by omega) (fun c12 => ?_) (fun c12 => ?_)
      · exact absurd c12 (by omega)
      · refine ZW.iload_n dX8_reaches_15 rfl ?_
        refine ZW.aload_n dX8_reaches_16 rfl ?_
        refine ZW.iload_n dX8_reaches_17 rfl ?_
        refine ZW.iload_n dX8_reaches_18 rfl ?_
        refine ZW.callV (as := [_, _]) dX8_reaches_19 cv_X8_145 ⟨_, rfl⟩ rfl (by decide) (Nat.le_of_ble_eq_true rfl) rfl (c_X8_canReach _ (e1 ▸ hk) hu ⟨h0, by omega⟩ (by rw [h2]; omega)) (fun r1 g2 ⟨q1, q2⟩ => ?_)
        subst q1; subst q2
        rw [e1, h2]
        refine ZW.if_eq (tgt := 29) dX8_reaches_22 (by decide) (by exact zB_R _) (fun c22 => ?_) (fun c22 => ?_)
        · have e : canR (g 101) u x = false := zB_eq c22
          refine ZW.iconst dX8_reaches_29 ?_
          refine ZW.iadd dX8_reaches_30 ?_
          refine ZW.istore_n dX8_reaches_31 (by decide) rfl ?_
          refine ZW.iinc dX8_reaches_32 rfl (by decide) rfl ?_
          refine ZW.goto (tgt := 9) dX8_reaches_35 (by decide) ?_
          refine ZW.mono (ih (x + 1) _ (by omega) (by omega)) (fun r g' hh => ⟨?_, hh.2⟩)
          rw [hh.1]; simp [cntF, e, zB]
        · have e : canR (g 101) u x = true := zB_ne c22
          refine ZW.iconst dX8_reaches_25 ?_
          refine ZW.goto (tgt := 30) dX8_reaches_26 (by decide) ?_
          refine ZW.iadd dX8_reaches_30 ?_
          refine ZW.istore_n dX8_reaches_31 (by decide) rfl ?_
          refine ZW.iinc dX8_reaches_32 rfl (by decide) rfl ?_
          refine ZW.goto (tgt := 9) dX8_reaches_35 (by decide) ?_
          refine ZW.mono (ih (x + 1) _ (by omega) (by omega)) (fun r g' hh => ⟨?_, hh.2⟩)
          rw [hh.1]; simp [cntF, e, zB, Int.add_assoc]
  refine ZW.iconst dX8_reaches_5 ?_
  refine ZW.istore_n dX8_reaches_6 (by decide) rfl ?_
  refine ZW.iconst dX8_reaches_7 ?_
  refine ZW.istore_n dX8_reaches_8 (by decide) rfl ?_
  refine ZW.mono (loop 63 0 0 (by omega) (by omega)) (fun r g' hh => ⟨?_, hh.2⟩)
  rw [hh.1, Int.zero_add]; rfl
def uoW (r : Int → Int) (side what u : Int) : Int := if 0 < ofF r u 1 ∧ ofF r u 0 = side then (if what = 1 then ofF r u 1 else 1) else 0
def unitsF (r : Int → Int) (side what : Int) : Int := cntF (uoW r side what) (r 192).toNat 0
theorem c_X8_unitsOf (g : ZH) (hk : okB (g 101)) {side what : Int} (hs : 0 ≤ side ∧ side < 2) (hw : zR what) : ZC 1 mX8_unitsOf [.inr 100, .inl side, .inl what] g (fun r g' => r = unitsF (g 101) side what ∧ g' = g) := by
  have h192 := hk.1 192 (by decide) (by decide)
  have h16 := hk.2
  refine ZC.of (by decide +kernel) (Nat.le_of_ble_eq_true rfl) ?_
  have loop : ∀ (n : Nat) (u acc : Int) (o5 : Option ZV), 0 ≤ u → u + n = g 101 192 → ZW 1 mX8_unitsOf 5 [some (.inr 100), some (.inl side), some (.inl what), some (.inl acc), some (.inl u), o5] [] g (fun r g' => r = acc + cntF (uoW (g 101) side what) n u ∧ g' = g) := by
    intro n
    induction n with
    | zero =>
      intro u acc o5 h0 hn
      refine ZW.iload dX8_unitsOf_5 rfl ?_
      refine ZW.aload_n dX8_unitsOf_7 rfl ?_
      refine ZW.getR dX8_unitsOf_8 fl_X8_7 ⟨_, rfl, rfl⟩ ?_
      refine ZW.sipush dX8_unitsOf_11 rfl ?_
      refine ZW.iald dX8_unitsOf_14 rfl (by decide) (by omega) rfl ?_
      refine ZW.icmp_ge (tgt := 80) dX8_unitsOf_15 (by decide) (by omega) (by omega) (fun c15 => ?_) (fun c15 => ?_)
      · refine ZW.iload_n dX8_unitsOf_80 rfl ?_
        refine ZW.ireti dX8_unitsOf_81 rfl ?_
        exact ⟨by simp [cntF], rfl⟩
      · exact absurd c15 (by omega)
    | succ n ih =>
      intro u acc o5 h0 hn
      have r0 := ofU_R hk (u := u) ⟨h0, by omega⟩ (w := 0) (by omega)
      have r1 := ofU_R hk (u := u) ⟨h0, by omega⟩ (w := 1) (by omega)
      have fin : ∀ (v : Int) (o5 : Option ZV), v = acc + uoW (g 101) side what u → ZW 1 mX8_unitsOf 5 [some (.inr 100), some (.inl side), some (.inl what), some (.inl v), some (.inl (u + 1)), o5] [] g (fun r g' => r = acc + cntF (uoW (g 101) side what) (n + 1) u ∧ g' = g) := by
        intro v o5 hv
        refine ZW.mono (ih (u + 1) v o5 (by omega) (by omega)) (fun r g' hh => ⟨?_, hh.2⟩)
        rw [hh.1, hv, Int.add_assoc]; rfl
      have no : ¬ (0 < ofF (g 101) u 1 ∧ ofF (g 101) u 0 = side) → ∀ o5 : Option ZV, ZW 1 mX8_unitsOf 43 [some (.inr 100), some (.inl side), some (.inl what), some (.inl acc), some (.inl u), o5] [] g (fun r g' => r = acc + cntF (uoW (g 101) side what) (n + 1) u ∧ g' = g) := by
        intro hno o5
        refine ZW.iconst dX8_unitsOf_43 ?_
        refine ZW.istore dX8_unitsOf_44 (by decide) rfl ?_
        refine ZW.iload_n dX8_unitsOf_46 rfl ?_
        refine ZW.iload dX8_unitsOf_47 rfl ?_
        refine ZW.if_ne (tgt := 56) dX8_unitsOf_49 (by decide) (by omega) (fun c49 => ?_) (fun c49 => ?_)
        · exact absurd rfl c49
        · refine ZW.iconst dX8_unitsOf_52 ?_
          refine ZW.goto (tgt := 72) dX8_unitsOf_53 (by decide) ?_
          refine ZW.iadd dX8_unitsOf_72 ?_
          refine ZW.istore_n dX8_unitsOf_73 (by decide) rfl ?_
          refine ZW.iinc dX8_unitsOf_74 rfl (by decide) rfl ?_
          refine ZW.goto (tgt := 5) dX8_unitsOf_77 (by decide) ?_
          exact fin _ _ (by unfold uoW; rw [if_neg hno])
      refine ZW.iload dX8_unitsOf_5 rfl ?_
      refine ZW.aload_n dX8_unitsOf_7 rfl ?_
      refine ZW.getR dX8_unitsOf_8 fl_X8_7 ⟨_, rfl, rfl⟩ ?_
      refine ZW.sipush dX8_unitsOf_11 rfl ?_
      refine ZW.iald dX8_unitsOf_14 rfl (by decide) (by omega) rfl ?_
      refine ZW.icmp_ge (tgt := 80) dX8_unitsOf_15 (by decide) (by omega) (by omega) (fun c15 => ?_) (fun c15 => ?_)
      · exact absurd c15 (by omega)
      · refine ZW.aload_n dX8_unitsOf_18 rfl ?_
        refine ZW.iload dX8_unitsOf_19 rfl ?_
        refine ZW.iconst dX8_unitsOf_21 ?_
        refine ZW.callV (as := [_, _]) dX8_unitsOf_22 cv_X8_52 ⟨_, rfl⟩ rfl (by decide) (Nat.le_of_ble_eq_true rfl) rfl (c_X8_of _ ⟨h0, by omega⟩ (by omega)) (fun v1 g1 ⟨q1, q2⟩ => ?_)
        subst q1; subst q2
        refine ZW.if_le (tgt := 43) dX8_unitsOf_25 (by decide) (by omega) (fun c25 => ?_) (fun c25 => ?_)
        · exact no (by omega) _
        · refine ZW.aload_n dX8_unitsOf_28 rfl ?_
          refine ZW.iload dX8_unitsOf_29 rfl ?_
          refine ZW.iconst dX8_unitsOf_31 ?_
          refine ZW.callV (as := [_, _]) dX8_unitsOf_32 cv_X8_52 ⟨_, rfl⟩ rfl (by decide) (Nat.le_of_ble_eq_true rfl) rfl (c_X8_of _ ⟨h0, by omega⟩ (by omega)) (fun v1 g2 ⟨q1, q2⟩ => ?_)
          subst q1; subst q2
          refine ZW.iload_n dX8_unitsOf_35 rfl ?_
          refine ZW.icmp_ne (tgt := 43) dX8_unitsOf_36 (by decide) (by omega) (by omega) (fun c36 => ?_) (fun c36 => ?_)
          · exact no (fun q => c36 q.2) _
          · refine ZW.iconst dX8_unitsOf_39 ?_
            refine ZW.goto (tgt := 44) dX8_unitsOf_40 (by decide) ?_
            refine ZW.istore dX8_unitsOf_44 (by decide) rfl ?_
            refine ZW.iload_n dX8_unitsOf_46 rfl ?_
            refine ZW.iload dX8_unitsOf_47 rfl ?_
            refine ZW.if_ne (tgt := 56) dX8_unitsOf_49 (by decide) (by omega) (fun c49 => ?_) (fun c49 => ?_)
            · refine ZW.iload_n dX8_unitsOf_56 rfl ?_
              refine ZW.iconst dX8_unitsOf_57 ?_
              refine ZW.icmp_ne (tgt := 71) dX8_unitsOf_58 (by decide) (by omega) (by omega) (fun c58 => ?_) (fun c58 => ?_)
              · refine ZW.iconst dX8_unitsOf_71 ?_
                refine ZW.iadd dX8_unitsOf_72 ?_
                refine ZW.istore_n dX8_unitsOf_73 (by decide) rfl ?_
                refine ZW.iinc dX8_unitsOf_74 rfl (by decide) rfl ?_
                refine ZW.goto (tgt := 5) dX8_unitsOf_77 (by decide) ?_
                exact fin _ _ (by unfold uoW; rw [if_pos ⟨c25, c36⟩, if_neg c58])
              · refine ZW.aload_n dX8_unitsOf_61 rfl ?_
                refine ZW.iload dX8_unitsOf_62 rfl ?_
                refine ZW.iconst dX8_unitsOf_64 ?_
                refine ZW.callV (as := [_, _]) dX8_unitsOf_65 cv_X8_52 ⟨_, rfl⟩ rfl (by decide) (Nat.le_of_ble_eq_true rfl) rfl (c_X8_of _ ⟨h0, by omega⟩ (by omega)) (fun v1 g3 ⟨q1, q2⟩ => ?_)
                subst q1; subst q2
                refine ZW.goto (tgt := 72) dX8_unitsOf_68 (by decide) ?_
                refine ZW.iadd dX8_unitsOf_72 ?_
                refine ZW.istore_n dX8_unitsOf_73 (by decide) rfl ?_
                refine ZW.iinc dX8_unitsOf_74 rfl (by decide) rfl ?_
                refine ZW.goto (tgt := 5) dX8_unitsOf_77 (by decide) ?_
                exact fin _ _ (by unfold uoW; rw [if_pos ⟨c25, c36⟩, if_pos c58])
            · exact absurd c49 (by decide)
  refine ZW.iconst dX8_unitsOf_0 ?_
  refine ZW.istore_n dX8_unitsOf_1 (by decide) rfl ?_
  refine ZW.iconst dX8_unitsOf_2 ?_
  refine ZW.istore dX8_unitsOf_3 (by decide) rfl ?_
  refine ZW.mono (loop (g 101 192).toNat 0 0 _ (by omega) (by omega)) (fun r g' hh => ⟨?_, hh.2⟩)
  rw [hh.1, Int.zero_add]; rfl
def seenF (r : Int → Int) (side : Int) : Int := cntF (fun x => zB (seesF r side x)) 63 0
theorem seesF_same {g g1 : ZH} (h : g1 101 = g 101) : seesF (g1 101) = seesF (g 101) := by rw [h]
theorem c_X8_seen (g : ZH) (hk : okB (g 101)) (hU : okU (g 101)) {side : Int} (hs : 0 ≤ side ∧ side < 2) : ZC 4 mX8_seen [.inr 100, .inl side] g (fun r g' => r = seenF (g 101) side ∧ zFr [108] g g') := by
  refine ZC.of (by decide +kernel) (Nat.le_of_ble_eq_true rfl) ?_
  have loop : ∀ (n : Nat) (x acc : Int) (g1 : ZH), 0 ≤ x → x + n = 63 → zFr [108] g g1 → ZW 4 mX8_seen 4 [some (.inr 100), some (.inl side), some (.inl acc), some (.inl x)] [] g1 (fun r g' => r = acc + cntF (fun x => zB (seesF (g 101) side x)) n x ∧ zFr [108] g g') := by
    intro n
    induction n with
    | zero =>
      intro x acc g1 h0 hn hf
      refine ZW.iload_n dX8_seen_4 rfl ?_
      refine ZW.bipush dX8_seen_5 rfl ?_
      refine ZW.icmp_ge (tgt := 33) dX8_seen_7 (by decide) (by omega) (by omega) (fun c7 => ?_) (fun c7 => ?_)
      · refine ZW.iload_n dX8_seen_33 rfl ?_
        refine ZW.ireti dX8_seen_34 rfl ?_
        exact ⟨by simp [cntF], hf⟩
      · exact absurd c7 (by omega)
    | succ n ih =>
      intro x acc g1 h0 hn hf
      have e1 : g1 101 = g 101 := hf 101 (by decide)
      refine ZW.iload_n dX8_seen_4 rfl ?_
      refine ZW.bipush dX8_seen_5 rfl ?_
      refine ZW.icmp_ge (tgt := 33) dX8_seen_7 (by decide) (by omega) (by omega) (fun c7 => ?_) (fun c7 => ?_)
      · exact absurd c7 (by omega)
      · refine ZW.iload_n dX8_seen_10 rfl ?_
        refine ZW.aload_n dX8_seen_11 rfl ?_
        refine ZW.iload_n dX8_seen_12 rfl ?_
        refine ZW.iload_n dX8_seen_13 rfl ?_
        refine ZW.callV (as := [_, _]) dX8_seen_14 cv_X8_203 ⟨_, rfl⟩ rfl (by decide) (Nat.le_of_ble_eq_true rfl) rfl (c_X8_sees _ (e1 ▸ hk) (e1 ▸ hU) hs ⟨h0, by omega⟩) (fun r1 g2 ⟨q1, f2⟩ => ?_)
        subst q1
        rw [e1]
        refine ZW.if_eq (tgt := 24) dX8_seen_17 (by decide) (by exact zB_R _) (fun c17 => ?_) (fun c17 => ?_)
        · have e := zB_eq c17
          refine ZW.iconst dX8_seen_24 ?_
          refine ZW.iadd dX8_seen_25 ?_
          refine ZW.istore_n dX8_seen_26 (by decide) rfl ?_
          refine ZW.iinc dX8_seen_27 rfl (by decide) rfl ?_
          refine ZW.goto (tgt := 4) dX8_seen_30 (by decide) ?_
          refine ZW.mono (ih (x + 1) _ _ (by omega) (by omega) (hf.tr f2)) (fun r g' hh => ⟨?_, hh.2⟩)
          rw [hh.1]; simp [cntF, e, zB]
        · have e := zB_ne c17
          refine ZW.iconst dX8_seen_20 ?_
          refine ZW.goto (tgt := 25) dX8_seen_21 (by decide) ?_
          refine ZW.iadd dX8_seen_25 ?_
          refine ZW.istore_n dX8_seen_26 (by decide) rfl ?_
          refine ZW.iinc dX8_seen_27 rfl (by decide) rfl ?_
          refine ZW.goto (tgt := 4) dX8_seen_30 (by decide) ?_
          refine ZW.mono (ih (x + 1) _ _ (by omega) (by omega) (hf.tr f2)) (fun r g' hh => ⟨?_, hh.2⟩)
          rw [hh.1]; simp [cntF, e, zB, Int.add_assoc]
  refine ZW.iconst dX8_seen_0 ?_
  refine ZW.istore_n dX8_seen_1 (by decide) rfl ?_
  refine ZW.iconst dX8_seen_2 ?_
  refine ZW.istore_n dX8_seen_3 (by decide) rfl ?_
  refine ZW.mono (loop 63 0 0 g (by omega) (by omega) (zFr.rf _ _)) (fun r g' hh => ⟨?_, hh.2⟩)
  rw [hh.1, Int.zero_add]; rfl
-- rows that are copied
theorem c_X8_putAside (g : ZH) : ZC 0 mX8_putAside [.inr 100] g (fun _ g' => zFr [102] g g' ∧ ∀ i, 0 ≤ i → i < 289 → g' 102 i = g 101 i) := by
  refine ZC.of (by decide +kernel) (Nat.le_of_ble_eq_true rfl) ?_
  have loop : ∀ (n : Nat) (x : Int) (g1 : ZH), 0 ≤ x → x + n = 289 → zFr [102] g g1 → (∀ i, 0 ≤ i → i < x → g1 102 i = g 101 i) → ZW 0 mX8_putAside 2 [some (.inr 100), some (.inl x)] [] g1 (fun _ g' => zFr [102] g g' ∧ ∀ i, 0 ≤ i → i < 289 → g' 102 i = g 101 i) := by
    intro n
    induction n with
    | zero =>
      intro x g1 h0 hn hf hz
      refine ZW.iload_n dX8_putAside_2 rfl ?_
      refine ZW.sipush dX8_putAside_3 rfl ?_
      refine ZW.icmp_ge (tgt := 27) dX8_putAside_6 (by decide) (by omega) (by omega) (fun c6 => ?_) (fun c6 => ?_)
      · refine ZW.vret dX8_putAside_27 rfl ?_
        exact ⟨hf, fun i i0 i1 => hz i i0 (by omega)⟩
      · exact absurd c6 (by omega)
    | succ n ih =>
      intro x g1 h0 hn hf hz
      have e1 : g1 101 = g 101 := hf 101 (by decide)
      refine ZW.iload_n dX8_putAside_2 rfl ?_
      refine ZW.sipush dX8_putAside_3 rfl ?_
      refine ZW.icmp_ge (tgt := 27) dX8_putAside_6 (by decide) (by omega) (by omega) (fun c6 => ?_) (fun c6 => ?_)
      · exact absurd c6 (by omega)
      · refine ZW.aload_n dX8_putAside_9 rfl ?_
        refine ZW.getR dX8_putAside_10 fl_X8_13 ⟨_, rfl, rfl⟩ ?_
        refine ZW.iload_n dX8_putAside_13 rfl ?_
        refine ZW.aload_n dX8_putAside_14 rfl ?_
        refine ZW.getR dX8_putAside_15 fl_X8_7 ⟨_, rfl, rfl⟩ ?_
        refine ZW.iload_n dX8_putAside_18 rfl ?_
        refine ZW.iald dX8_putAside_19 rfl (by decide) (by omega) rfl ?_
        refine ZW.iast dX8_putAside_20 rfl (by decide) (by omega) ?_
        refine ZW.iinc dX8_putAside_21 rfl (by decide) rfl ?_
        refine ZW.goto (tgt := 2) dX8_putAside_24 (by decide) ?_
        refine ih (x + 1) _ (by omega) (by omega) (hf.set (by decide) _ _) (fun i i0 i1 => ?_)
        rw [zSet_same]
        by_cases q : i = x
        · rw [q, zUp_same, e1]
        · rw [zUp_ne _ _ q]; exact hz i i0 (by omega)
  refine ZW.iconst dX8_putAside_0 ?_
  refine ZW.istore_n dX8_putAside_1 (by decide) rfl ?_
  exact loop 289 0 g (by omega) (by omega) (zFr.rf _ _) (fun i i0 i1 => by omega)
def zBack (f f2 : Int → Int) : Int → Int := fun i => if 0 ≤ i ∧ i < 289 then f i else f2 i
/-- rows that are written one after the other from below: those below x are -/
def zPart (f f2 : Int → Int) (x : Int) : Int → Int := fun i => if 0 ≤ i ∧ i < x then f i else f2 i
theorem zPart_0 (f f2 : Int → Int) : zPart f f2 0 = f2 := by
  funext i
  unfold zPart
  rw [if_neg (by omega)]
theorem zPart_up (f f2 : Int → Int) {x : Int} (hx : 0 ≤ x) : zUp (zPart f f2 x) x (f x) = zPart f f2 (x + 1) := by
  funext i
  by_cases q : i = x
  · rw [q, zUp_same]
    unfold zPart
    rw [if_pos (by omega)]
  · rw [zUp_ne _ _ q]
    unfold zPart
    by_cases q2 : 0 ≤ i ∧ i < x
    · rw [if_pos q2, if_pos (by omega)]
    · rw [if_neg q2, if_neg (by omega)]
theorem c_X8_takeBack (g : ZH) : ZC 0 mX8_takeBack [.inr 100] g (fun _ g' => g' = zRow g 101 (zPart (g 102) (g 101) 289)) := by
  refine ZC.of (by decide +kernel) (Nat.le_of_ble_eq_true rfl) ?_
  have loop : ∀ (n : Nat) (x : Int), 0 ≤ x → x + n = 289 → ZW 0 mX8_takeBack 2 [some (.inr 100), some (.inl x)] [] (zRow g 101 (zPart (g 102) (g 101) x)) (fun _ g' => g' = zRow g 101 (zPart (g 102) (g 101) 289)) := by
    intro n
    induction n with
    | zero =>
      intro x h0 hn
      refine ZW.iload_n dX8_takeBack_2 rfl ?_
      refine ZW.sipush dX8_takeBack_3 rfl ?_
      refine ZW.icmp_ge (tgt := 27) dX8_takeBack_6 (by decide) (by omega) (by omega) (fun c6 => ?_) (fun c6 => ?_)
      · refine ZW.vret dX8_takeBack_27 rfl ?_
        rw [show x = 289 by omega]
      · exact absurd c6 (by omega)
    | succ n ih =>
      intro x h0 hn
      refine ZW.iload_n dX8_takeBack_2 rfl ?_
      refine ZW.sipush dX8_takeBack_3 rfl ?_
      refine ZW.icmp_ge (tgt := 27) dX8_takeBack_6 (by decide) (by omega) (by omega) (fun c6 => ?_) (fun c6 => ?_)
      · exact absurd c6 (by omega)
      · refine ZW.aload_n dX8_takeBack_9 rfl ?_
        refine ZW.getR dX8_takeBack_10 fl_X8_7 ⟨_, rfl, rfl⟩ ?_
        refine ZW.iload_n dX8_takeBack_13 rfl ?_
        refine ZW.aload_n dX8_takeBack_14 rfl ?_
        refine ZW.getR dX8_takeBack_15 fl_X8_13 ⟨_, rfl, rfl⟩ ?_
        refine ZW.iload_n dX8_takeBack_18 rfl ?_
        refine ZW.iald dX8_takeBack_19 rfl (by decide) (by omega) rfl ?_
        refine ZW.iast dX8_takeBack_20 rfl (by decide) (by omega) ?_
        refine ZW.iinc dX8_takeBack_21 rfl (by decide) rfl ?_
        refine ZW.goto (tgt := 2) dX8_takeBack_24 (by decide) ?_
        rw [zRow_ne _ _ (show (102 : Nat) ≠ 101 by decide), zSet_up, zPart_up _ _ h0]
        exact ih (x + 1) (by omega) (by omega)
  refine ZW.iconst dX8_takeBack_0 ?_
  refine ZW.istore_n dX8_takeBack_1 (by decide) rfl ?_
  have h1 := loop 289 0 (by omega) (by omega)
  rw [zPart_0, zRow_self] at h1
  exact h1
