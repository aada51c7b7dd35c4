-- supply: the reference goes from the unit to the sources
def freeB (r : Int → Int) (side x : Int) : Bool := !isOnB r x (1 - side) && (!zoneB r x (1 - side) || isOnB r x side)
def srcB (r : Int → Int) (side x : Int) : Bool := decide (r (189 + side) = x ∨ r (126 + x) = side + 1)
theorem c_X8_isSource (g : ZH) (hk : okB (g 101)) {x side : Int} (hx : 0 ≤ x ∧ x < 63) (hs : side = 0 ∨ side = 1) : ZC 0 mX8_isSource [.inr 100, .inl x, .inl side] g (fun r g' => r = zB (srcB (g 101) side x) ∧ g' = g) := by
  have h1 := hk.1 (189 + side) (by omega) (by omega)
  have h2 := hk.1 (126 + x) (by omega) (by omega)
  refine ZC.of (by decide +kernel) (Nat.le_of_ble_eq_true rfl) ?_
  refine ZW.aload_n dX8_isSource_0 rfl ?_
  refine ZW.getR dX8_isSource_1 fl_X8_7 ⟨_, rfl, rfl⟩ ?_
  refine ZW.sipush dX8_isSource_4 rfl ?_
  refine ZW.iload_n dX8_isSource_7 rfl ?_
  refine ZW.iadd dX8_isSource_8 ?_
  refine ZW.iald dX8_isSource_9 rfl (by decide) (by omega) rfl ?_
  refine ZW.iload_n dX8_isSource_10 rfl ?_
  refine ZW.icmp_eq (tgt := 29) dX8_isSource_11 (by decide) (by omega) (by omega) (fun c11 => ?_) (fun c11 => ?_)
  · refine ZW.iconst dX8_isSource_29 ?_
    refine ZW.goto (tgt := 34) dX8_isSource_30 (by decide) ?_
    refine ZW.iretz dX8_isSource_34 rfl (by first | exact Or.inl rfl | exact Or.inr rfl | assumption | omega) ?_
    exact ⟨by simp [srcB, zB, c11], rfl⟩
  · refine ZW.aload_n dX8_isSource_14 rfl ?_
    refine ZW.getR dX8_isSource_15 fl_X8_7 ⟨_, rfl, rfl⟩ ?_
    refine ZW.bipush dX8_isSource_18 rfl ?_
    refine ZW.iload_n dX8_isSource_20 rfl ?_
    refine ZW.iadd dX8_isSource_21 ?_
    refine ZW.iald dX8_isSource_22 rfl (by decide) (by omega) rfl ?_
    refine ZW.iload_n dX8_isSource_23 rfl ?_
    refine ZW.iconst dX8_isSource_24 ?_
    refine ZW.iadd dX8_isSource_25 ?_
    refine ZW.icmp_ne (tgt := 33) dX8_isSource_26 (by decide) (by omega) (by omega) (fun c26 => ?_) (fun c26 => ?_)
    · refine ZW.iconst dX8_isSource_33 ?_
      refine ZW.iretz dX8_isSource_34 rfl (by first | exact Or.inl rfl | exact Or.inr rfl | assumption | omega) ?_
      exact ⟨by simp [srcB, zB, c11, c26], rfl⟩
    · refine ZW.iconst dX8_isSource_29 ?_
      refine ZW.goto (tgt := 34) dX8_isSource_30 (by decide) ?_
      refine ZW.iretz dX8_isSource_34 rfl (by first | exact Or.inl rfl | exact Or.inr rfl | assumption | omega) ?_
      exact ⟨by simp [srcB, zB, c26], rfl⟩
theorem c_X8_isFree (g : ZH) (hk : okB (g 101)) {x side : Int} (hx : 0 ≤ x ∧ x < 63) (hs : side = 0 ∨ side = 1) (hz : g 109 x = zB (zoneB (g 101) x (1 - side))) : ZC 3 mX8_isFree [.inr 100, .inl x, .inl side] g (fun r g' => r = zB (freeB (g 101) side x) ∧ g' = g) := by
  refine ZC.of (by decide +kernel) (Nat.le_of_ble_eq_true rfl) ?_
  refine ZW.aload_n dX8_isFree_0 rfl ?_
  refine ZW.iload_n dX8_isFree_1 rfl ?_
  refine ZW.iconst dX8_isFree_2 ?_
  refine ZW.iload_n dX8_isFree_3 rfl ?_
  refine ZW.isub dX8_isFree_4 ?_
  refine ZW.callV (as := [_, _]) dX8_isFree_5 cv_X8_66 ⟨_, rfl⟩ rfl (by decide) (Nat.le_of_ble_eq_true rfl) rfl (c_X8_isOn _ hk (by omega) (by omega)) (fun r1 g1 ⟨q1, q2⟩ => ?_)
  subst q1; subst q2
  refine ZW.if_ne (tgt := 33) dX8_isFree_8 (by decide) (by exact zB_R _) (fun c8 => ?_) (fun c8 => ?_)
  · have e := zB_ne c8
    refine ZW.iconst dX8_isFree_33 ?_
    refine ZW.iretz dX8_isFree_34 rfl (by first | exact Or.inl rfl | exact Or.inr rfl | assumption | omega) ?_
    exact ⟨by simp [freeB, zB, e], rfl⟩
  · have e := zB_eq c8
    refine ZW.aload_n dX8_isFree_11 rfl ?_
    refine ZW.getR dX8_isFree_12 fl_X8_35 ⟨_, rfl, rfl⟩ ?_
    refine ZW.iload_n dX8_isFree_15 rfl ?_
    refine ZW.zald dX8_isFree_16 rfl (by decide) (by omega) rfl ?_
    refine ZW.if_eq (tgt := 29) dX8_isFree_17 (by decide) (by rw [hz]; exact zB_R _) (fun c17 => ?_) (fun c17 => ?_)
    · rw [hz] at c17
      have e2 := zB_eq c17
      refine ZW.iconst dX8_isFree_29 ?_
      refine ZW.goto (tgt := 34) dX8_isFree_30 (by decide) ?_
      refine ZW.iretz dX8_isFree_34 rfl (by first | exact Or.inl rfl | exact Or.inr rfl | assumption | omega) ?_
      exact ⟨by simp [freeB, zB, e, e2], rfl⟩
    · rw [hz] at c17
      have e2 := zB_ne c17
      refine ZW.aload_n dX8_isFree_20 rfl ?_
      refine ZW.iload_n dX8_isFree_21 rfl ?_
      refine ZW.iload_n dX8_isFree_22 rfl ?_
      refine ZW.callV (as := [_, _]) dX8_isFree_23 cv_X8_66 ⟨_, rfl⟩ rfl (by decide) (Nat.le_of_ble_eq_true rfl) rfl (c_X8_isOn _ hk (by omega) (by omega)) (fun r1 g2 ⟨q1, q2⟩ => ?_)
      subst q1; subst q2
      refine ZW.if_eq (tgt := 33) dX8_isFree_26 (by decide) (by exact zB_R _) (fun c26 => ?_) (fun c26 => ?_)
      · have e3 := zB_eq c26
        refine ZW.iconst dX8_isFree_33 ?_
        refine ZW.iretz dX8_isFree_34 rfl (by first | exact Or.inl rfl | exact Or.inr rfl | assumption | omega) ?_
        exact ⟨by simp [freeB, zB, e, e2, e3], rfl⟩
      · have e3 := zB_ne c26
        refine ZW.iconst dX8_isFree_29 ?_
        refine ZW.goto (tgt := 34) dX8_isFree_30 (by decide) ?_
        refine ZW.iretz dX8_isFree_34 rfl (by first | exact Or.inl rfl | exact Or.inr rfl | assumption | omega) ?_
        exact ⟨by simp [freeB, zB, e, e3], rfl⟩
def sEdge (r : Int → Int) (side z d y : Int) : Prop := 0 ≤ z ∧ z < 63 ∧ 0 ≤ d ∧ d < 6 ∧ nextF z d = y ∧ y ≠ -5 ∧ freeB r side y = true
theorem sEdge_y {r : Int → Int} {side z d y : Int} (h : sEdge r side z d y) : 0 ≤ y ∧ y < 63 := by
  obtain ⟨_, _, _, _, h5, h6, _⟩ := h
  have := (nextF_R (x := z) (d := d)).resolve_left (by omega)
  omega
/-- n steps from x to y, each hex behind x being free -/
def wkP (r : Int → Int) (side x : Int) : Nat → Int → Prop
  | 0, y => y = x
  | n + 1, y => ∃ z d, wkP r side x n z ∧ sEdge r side z d y
noncomputable def wkD (r : Int → Int) (side x y : Int) : Int := @dite Int (∃ k : Nat, k ≤ 999 ∧ wkP r side x k y) (Classical.propDecidable _) (fun h => ((Classical.choose (pk_least _ h) : Nat) : Int)) (fun _ => 1000)
theorem wkD_spec {r : Int → Int} {side x y : Int} (h : wkD r side x y ≠ 1000) : ∃ n : Nat, wkD r side x y = n ∧ n ≤ 999 ∧ wkP r side x n y := by
  unfold wkD at h ⊢
  split
  · next hk =>
    obtain ⟨h1, h2⟩ := Classical.choose_spec (pk_least _ hk)
    exact ⟨_, rfl, h1.1, h1.2⟩
  · next hk => rw [dif_neg hk] at h; exact absurd rfl h
theorem wkD_le {r : Int → Int} {side x y : Int} {n : Nat} (h : wkP r side x n y) (hn : n ≤ 999) : wkD r side x y ≤ n := by
  have hex : ∃ k : Nat, k ≤ 999 ∧ wkP r side x k y := ⟨n, hn, h⟩
  unfold wkD
  rw [dif_pos hex]
  obtain ⟨h1, h2⟩ := Classical.choose_spec (pk_least _ hex)
  apply Classical.byContradiction
  intro hlt
  exact h2 n (by omega) ⟨hn, h⟩
theorem wkD_R (r : Int → Int) (side x y : Int) : 0 ≤ wkD r side x y ∧ wkD r side x y ≤ 1000 := by
  by_cases h : wkD r side x y = 1000
  · omega
  · obtain ⟨n, h1, h2, _⟩ := wkD_spec h
    omega
theorem wkD_0 {r : Int → Int} {side x y : Int} : wkD r side x y = 0 ↔ y = x := by
  constructor
  · intro h
    obtain ⟨n, h1, h2, h3⟩ := wkD_spec (r := r) (side := side) (x := x) (y := y) (by omega)
    have : n = 0 := by omega
    subst this
    exact h3
  · intro h
    have h1 := wkD_le (r := r) (side := side) (x := x) (y := y) (n := 0) h (by decide)
    have h2 := wkD_R r side x y
    omega
theorem wkD_2 {r : Int → Int} {side x z d y : Int} (he : sEdge r side z d y) (hz : wkD r side x z ≤ 998) : wkD r side x y ≤ wkD r side x z + 1 := by
  obtain ⟨n, h1, h2, h3⟩ := wkD_spec (r := r) (side := side) (x := x) (y := z) (by omega)
  have h4 := wkD_le (r := r) (side := side) (x := x) (y := y) (n := n + 1) ⟨z, d, h3, he⟩ (by omega)
  omega
theorem wkD_3 {r : Int → Int} {side x y R : Int} (hR : 0 ≤ R) (hR2 : R ≤ 998) (h : wkD r side x y = R + 1) : ∃ z d, sEdge r side z d y ∧ wkD r side x z = R := by
  obtain ⟨n, h1, h2, h3⟩ := wkD_spec (r := r) (side := side) (x := x) (y := y) (by omega)
  cases n with
  | zero => omega
  | succ n =>
    obtain ⟨z, d, h4, h5⟩ := h3
    have h6 := wkD_le h4 (by omega)
    have h7 := wkD_2 (x := x) h5 (by omega)
    exact ⟨z, d, h5, by omega⟩
def wsI (D f : Int → Int) (R : Int) : Prop := ∀ x, 0 ≤ x → x < 63 → (D x ≤ R → f x = D x) ∧ (D x = R + 1 → f x = R + 1 ∨ f x = 1000) ∧ (R + 1 < D x → f x = 1000)
def wsP (r : Int → Int) (side : Int) (D f : Int → Int) (R hx hd : Int) : Prop := ∀ x d y, sEdge r side x d y → (x < hx ∨ (x = hx ∧ d < hd)) → D x = R → f y ≠ 1000
theorem ws_round {r : Int → Int} {side a R : Int} {f : Int → Int} (hR : 0 ≤ R) (hR2 : R ≤ 900) (hI : wsI (wkD r side a) f R) (hP : wsP r side (wkD r side a) f R 63 0) : wsI (wkD r side a) f (R + 1) ∧ wsP r side (wkD r side a) f (R + 1) 0 0 := by
  refine ⟨fun x h0 h1 => ?_, fun x d y he h4 => by have := he.1; have := he.2.2.1; omega⟩
  obtain ⟨q1, q2, q3⟩ := hI x h0 h1
  refine ⟨fun h => ?_, fun h => Or.inr (q3 (by omega)), fun h => q3 (by omega)⟩
  by_cases hc : wkD r side a x ≤ R
  · exact q1 hc
  · have hq : wkD r side a x = R + 1 := by omega
    rcases q2 hq with e | e
    · rw [e, hq]
    · exfalso
      obtain ⟨z, d, h5, h6⟩ := wkD_3 hR (by omega) hq
      exact hP z d x h5 (Or.inl h5.2.1) h6 e
/-- there is a source n steps from x -/
def supN (r : Int → Int) (side x : Int) (n : Nat) : Prop := ∃ s, 0 ≤ s ∧ s < 63 ∧ srcB r side s = true ∧ wkP r side x n s
noncomputable def supF (r : Int → Int) (side x : Int) : Int := @dite Int (∃ k : Nat, k ≤ 6 ∧ supN r side x k) (Classical.propDecidable _) (fun h => ((Classical.choose (pk_least _ h) : Nat) : Int)) (fun _ => -5)
theorem supF_is {r : Int → Int} {side x : Int} {n : Nat} (hn : n ≤ 6) (h : supN r side x n) (hm : ∀ k, k < n → ¬ supN r side x k) : supF r side x = n := by
  have hex : ∃ k : Nat, k ≤ 6 ∧ supN r side x k := ⟨n, hn, h⟩
  unfold supF
  rw [dif_pos hex]
  obtain ⟨h1, h2⟩ := Classical.choose_spec (pk_least _ hex)
  have h3 : ¬ Classical.choose (pk_least _ hex) < n := fun q => hm _ q h1.2
  have h4 : ¬ n < Classical.choose (pk_least _ hex) := fun q => h2 n q ⟨hn, h⟩
  omega
theorem supF_no {r : Int → Int} {side x : Int} (hm : ∀ k, k ≤ 6 → ¬ supN r side x k) : supF r side x = -5 := by
  unfold supF
  rw [dif_neg (fun ⟨k, h1, h2⟩ => hm k h1 h2)]
theorem supF_R (r : Int → Int) (side x : Int) : supF r side x = -5 ∨ (0 ≤ supF r side x ∧ supF r side x ≤ 6) := by
  unfold supF
  split
  · next hex =>
    obtain ⟨h1, h2⟩ := Classical.choose_spec (pk_least _ hex)
    exact Or.inr ⟨by omega, by omega⟩
  · exact Or.inl rfl
theorem zR_5 : zR (-5) := ⟨by decide, by decide⟩
set_option maxHeartbeats 1000000 in
theorem c_X8_toSource (g : ZH) (hk : okB (g 101)) (hu : okU (g 101)) {u : Int} (hu0 : 0 ≤ u ∧ u < 16) : ZC 5 mX8_toSource [.inr 100, .inl u] g (fun r g' => r = supF (g 101) (ofF (g 101) u 0) (ofF (g 101) u 2) ∧ zFr [108, 109] g g') := by
  have hU := hu u hu0.1 hu0.2
  have hb2 := ofU_R hk hu0 (w := 2) (by omega)
  obtain ⟨side, hside⟩ : ∃ s, s = ofF (g 101) u 0 := ⟨_, rfl⟩
  obtain ⟨a, haE⟩ : ∃ s, s = ofF (g 101) u 2 := ⟨_, rfl⟩
  rw [← hside, ← haE]
  have hs : side = 0 ∨ side = 1 := by rw [hside]; exact hU.1
  have hb2 : zR a := by rw [haE]; exact hb2
  clear hU
  refine ZC.of (by decide +kernel) (Nat.le_of_ble_eq_true rfl) ?_
  -- over directions
  have loopD : ∀ (n : Nat) (d R x : Int) (g1 : ZH) (o6 : Option ZV), 0 ≤ d → d + n = 6 → 0 ≤ R → R < 7 → 0 ≤ x → x < 63 → zFr [108, 109] g g1 → (∀ x, 0 ≤ x → x < 63 → g1 109 x = zB (zoneB (g 101) x (1 - side))) → wsI (wkD (g 101) side a) (g1 108) R → wsP (g 101) side (wkD (g 101) side a) (g1 108) R x d → (∀ (g2 : ZH) (o5 o6 : Option ZV), zFr [108, 109] g g2 → (∀ x, 0 ≤ x → x < 63 → g2 109 x = zB (zoneB (g 101) x (1 - side))) → wsI (wkD (g 101) side a) (g2 108) R → wsP (g 101) side (wkD (g 101) side a) (g2 108) R (x + 1) 0 → ZW 5 mX8_toSource 184 [some (.inr 100), some (.inl u), some (.inl side), some (.inl R), some (.inl x), o5, o6] [] g2 (fun r g' => r = supF (g 101) side a ∧ zFr [108, 109] g g')) → ZW 5 mX8_toSource 111 [some (.inr 100), some (.inl u), some (.inl side), some (.inl R), some (.inl x), some (.inl d), o6] [] g1 (fun r g' => r = supF (g 101) side a ∧ zFr [108, 109] g g') := by
    intro n
    induction n with
    | zero =>
      intro d R x g1 o6 h0 hn hR hR2 hx hx2 hf hz hI hP k
      refine ZW.iload dX8_toSource_111 rfl ?_
      refine ZW.bipush dX8_toSource_113 rfl ?_
      refine ZW.icmp_ge (tgt := 184) dX8_toSource_115 (by decide) (by omega) (by omega) (fun c115 => ?_) (fun c115 => ?_)
      · refine k g1 _ _ hf hz hI (fun y e w he hor hy => hP y e w he ?_ hy)
        have h1 := he.2.2.2.1
        have h2 := he.2.2.1
        by_cases q : y = x
        · exact Or.inr ⟨q, by omega⟩
        · exact Or.inl (by omega)
      · exact absurd c115 (by omega)
    | succ n ih =>
      intro d R x g1 o6 h0 hn hR hR2 hx hx2 hf hz hI hP k
      have e1 : g1 101 = g 101 := hf 101 (by decide)
      have hIx := hI x hx hx2
      have hsx := wkD_R (g 101) side a x
      have hgx : zR (g1 108 x) ∧ (g1 108 x = R ↔ wkD (g 101) side a x = R) := by
        by_cases q : wkD (g 101) side a x ≤ R
        · rw [hIx.1 q]; omega
        · by_cases q2 : wkD (g 101) side a x = R + 1
          · rcases hIx.2.1 q2 with e | e <;> rw [e] <;> omega
          · rw [hIx.2.2 (by omega)]; omega
      have hgR := hgx.1
      have next : ∀ (g2 : ZH) (o6 : Option ZV), g2 = g1 → (∀ y, sEdge (g 101) side x d y → g1 108 y ≠ 1000) → ZW 5 mX8_toSource 111 [some (.inr 100), some (.inl u), some (.inl side), some (.inl R), some (.inl x), some (.inl (d + 1)), o6] [] g2 (fun r g' => r = supF (g 101) side a ∧ zFr [108, 109] g g') := by
        intro g2 o6 hg2 hne
        subst hg2
        refine ih (d + 1) R x _ _ (by omega) (by omega) hR hR2 hx hx2 hf hz hI (fun y e w he hor hy => ?_) k
        by_cases q : y = x ∧ e = d
        · rw [q.1, q.2] at he
          exact hne w he
        · exact hP y e w he (by omega) hy
      refine ZW.iload dX8_toSource_111 rfl ?_
      refine ZW.bipush dX8_toSource_113 rfl ?_
      refine ZW.icmp_ge (tgt := 184) dX8_toSource_115 (by decide) (by omega) (by omega) (fun c115 => ?_) (fun c115 => ?_)
      · exact absurd c115 (by omega)
      · refine ZW.aload_n dX8_toSource_118 rfl ?_
        refine ZW.getR dX8_toSource_119 fl_X8_32 ⟨_, rfl, rfl⟩ ?_
        refine ZW.iload dX8_toSource_122 rfl ?_
        refine ZW.iald dX8_toSource_124 rfl (by decide) (by omega) rfl ?_
        refine ZW.iload_n dX8_toSource_125 rfl ?_
        refine ZW.icmp_ne (tgt := 184) dX8_toSource_126 (by decide) (by omega) (by omega) (fun c126 => ?_) (fun c126 => ?_)
        · refine k g1 _ _ hf hz hI (fun y e w he hor hy => ?_)
          have h2 := he.2.2.1
          by_cases q : y = x
          · subst q
            exact absurd (hgx.2.mpr hy) c126
          · exact hP y e w he (Or.inl (by omega)) hy
        · have hdx := hgx.2.mp c126
          have hnr := nextF_R' x d
          refine ZW.iload dX8_toSource_129 rfl ?_
          refine ZW.iload dX8_toSource_131 rfl ?_
          refine ZW.callS (as := [_, _]) dX8_toSource_133 cs_X8_59 rfl (by decide) (Nat.le_of_ble_eq_true rfl) rfl (c_X8_next _ ⟨hx, hx2⟩ (by omega)) (fun r1 g2 ⟨w1, w2⟩ => ?_)
          subst w1; subst w2
          refine ZW.istore dX8_toSource_136 (by decide) rfl ?_
          refine ZW.iload dX8_toSource_138 rfl ?_
          refine ZW.bipush dX8_toSource_140 rfl ?_
          refine ZW.icmp_eq (tgt := 178) dX8_toSource_142 (by decide) (by omega) (by omega) (fun c142 => ?_) (fun c142 => ?_)
          · refine ZW.iinc dX8_toSource_178 rfl (by decide) rfl ?_
            refine ZW.goto (tgt := 111) dX8_toSource_181 (by decide) ?_
            exact next _ _ rfl (fun y he => absurd (he.2.2.2.2.1.symm.trans c142) he.2.2.2.2.2.1)
          · have hr := (nextF_R (x := x) (d := d)).resolve_left c142
            have hIo := hI (nextF x d) hr.1 hr.2
            have hwr := wkD_R (g 101) side a (nextF x d)
            have hgo : zR (g2 108 (nextF x d)) := by
              by_cases q : wkD (g 101) side a (nextF x d) ≤ R
              · rw [hIo.1 q]; omega
              · by_cases q2 : wkD (g 101) side a (nextF x d) = R + 1
                · rcases hIo.2.1 q2 with e | e <;> rw [e] <;> omega
                · rw [hIo.2.2 (by omega)]; omega
            refine ZW.aload_n dX8_toSource_145 rfl ?_
            refine ZW.getR dX8_toSource_146 fl_X8_32 ⟨_, rfl, rfl⟩ ?_
            refine ZW.iload dX8_toSource_149 rfl ?_
            refine ZW.iald dX8_toSource_151 rfl (by decide) (by omega) rfl ?_
            refine ZW.sipush dX8_toSource_152 rfl ?_
            refine ZW.icmp_ne (tgt := 178) dX8_toSource_155 (by decide) (by omega) (by omega) (fun c155 => ?_) (fun c155 => ?_)
            · refine ZW.iinc dX8_toSource_178 rfl (by decide) rfl ?_
              refine ZW.goto (tgt := 111) dX8_toSource_181 (by decide) ?_
              refine next _ _ rfl (fun y he => ?_)
              rw [← he.2.2.2.2.1]
              exact c155
            · refine ZW.aload_n dX8_toSource_158 rfl ?_
              refine ZW.iload dX8_toSource_159 rfl ?_
              refine ZW.iload_n dX8_toSource_161 rfl ?_
              refine ZW.callV (as := [_, _]) dX8_toSource_162 cv_X8_95 ⟨_, rfl⟩ rfl (by decide) (Nat.le_of_ble_eq_true rfl) rfl (c_X8_isFree _ (e1 ▸ hk) hr hs (by rw [e1]; exact hz _ hr.1 hr.2)) (fun r1 g3 ⟨w1, w2⟩ => ?_)
              subst w1; subst w2
              rw [e1]
              refine ZW.if_eq (tgt := 178) dX8_toSource_165 (by decide) (by exact zB_R _) (fun c165 => ?_) (fun c165 => ?_)
              · have e := zB_eq c165
                refine ZW.iinc dX8_toSource_178 rfl (by decide) rfl ?_
                refine ZW.goto (tgt := 111) dX8_toSource_181 (by decide) ?_
                refine next _ _ rfl (fun y he => ?_)
                have h7 := he.2.2.2.2.2.2
                rw [← he.2.2.2.2.1, e] at h7
                cases h7
              · have e := zB_ne c165
                have hed : sEdge (g 101) side x d (nextF x d) := ⟨hx, hx2, h0, by omega, rfl, c142, e⟩
                have h2 := wkD_2 (x := a) hed (by omega)
                have hq : wkD (g 101) side a (nextF x d) = R + 1 := by
                  by_cases q : wkD (g 101) side a (nextF x d) ≤ R
                  · have := hIo.1 q
                    omega
                  · omega
                refine ZW.aload_n dX8_toSource_168 rfl ?_
                refine ZW.getR dX8_toSource_169 fl_X8_32 ⟨_, rfl, rfl⟩ ?_
                refine ZW.iload dX8_toSource_172 rfl ?_
                refine ZW.iload_n dX8_toSource_174 rfl ?_
                refine ZW.iconst dX8_toSource_175 ?_
                refine ZW.iadd dX8_toSource_176 ?_
                refine ZW.iast dX8_toSource_177 rfl (by decide) (by omega) ?_
                refine ZW.iinc dX8_toSource_178 rfl (by decide) rfl ?_
                refine ZW.goto (tgt := 111) dX8_toSource_181 (by decide) ?_
                refine ih (d + 1) R x _ _ (by omega) (by omega) hR hR2 hx hx2 (hf.set (by decide) _ _) (fun y y0 y1 => ?_) (fun y y0 y1 => ?_) (fun y e w he hor hy => ?_) k
                · rw [zSet_ne _ _ _ (by decide)]; exact hz y y0 y1
                · rw [zSet_same]
                  by_cases q : y = nextF x d
                  · rw [q, zUp_same]
                    exact ⟨fun z => by omega, fun _ => Or.inl rfl, fun z => by omega⟩
                  · rw [zUp_ne _ _ q]
                    exact hI y y0 y1
                · rw [zSet_same]
                  by_cases q : w = nextF x d
                  · rw [q, zUp_same]
                    omega
                  · rw [zUp_ne _ _ q]
                    refine hP y e w he ?_ hy
                    by_cases q2 : y = x ∧ e = d
                    · have h5 := he.2.2.2.2.1
                      rw [q2.1, q2.2] at h5
                      exact absurd h5.symm q
                    · omega
  have loopX : ∀ (n : Nat) (x R : Int) (g1 : ZH) (o5 o6 : Option ZV), 0 ≤ x → x + n = 63 → 0 ≤ R → R < 7 → zFr [108, 109] g g1 → (∀ x, 0 ≤ x → x < 63 → g1 109 x = zB (zoneB (g 101) x (1 - side))) → wsI (wkD (g 101) side a) (g1 108) R → wsP (g 101) side (wkD (g 101) side a) (g1 108) R x 0 → (∀ (g2 : ZH) (o4 o5 o6 : Option ZV), zFr [108, 109] g g2 → (∀ x, 0 ≤ x → x < 63 → g2 109 x = zB (zoneB (g 101) x (1 - side))) → wsI (wkD (g 101) side a) (g2 108) (R + 1) → wsP (g 101) side (wkD (g 101) side a) (g2 108) (R + 1) 0 0 → ZW 5 mX8_toSource 190 [some (.inr 100), some (.inl u), some (.inl side), some (.inl R), o4, o5, o6] [] g2 (fun r g' => r = supF (g 101) side a ∧ zFr [108, 109] g g')) → ZW 5 mX8_toSource 101 [some (.inr 100), some (.inl u), some (.inl side), some (.inl R), some (.inl x), o5, o6] [] g1 (fun r g' => r = supF (g 101) side a ∧ zFr [108, 109] g g') := by
    intro n
    induction n with
    | zero =>
      intro x R g1 o5 o6 hx hn hR hR2 hf hz hI hP k
      refine ZW.iload dX8_toSource_101 rfl ?_
      refine ZW.bipush dX8_toSource_103 rfl ?_
      refine ZW.icmp_ge (tgt := 190) dX8_toSource_105 (by decide) (by omega) (by omega) (fun c105 => ?_) (fun c105 => ?_)
      · have e : x = 63 := by omega
        subst e
        have h1 := ws_round hR (by omega) hI hP
        exact k g1 _ _ _ hf hz h1.1 h1.2
      · exact absurd c105 (by omega)
    | succ n ih =>
      intro x R g1 o5 o6 hx hn hR hR2 hf hz hI hP k
      refine ZW.iload dX8_toSource_101 rfl ?_
      refine ZW.bipush dX8_toSource_103 rfl ?_
      refine ZW.icmp_ge (tgt := 190) dX8_toSource_105 (by decide) (by omega) (by omega) (fun c105 => ?_) (fun c105 => ?_)
      · exact absurd c105 (by omega)
      · refine ZW.iconst dX8_toSource_108 ?_
        refine ZW.istore dX8_toSource_109 (by decide) rfl ?_
        refine loopD 6 0 R x g1 _ (by omega) (by omega) hR hR2 hx (by omega) hf hz hI hP (fun g2 p5 p6 hf2 hz2 hI2 hP2 => ?_)
        refine ZW.iinc dX8_toSource_184 rfl (by decide) rfl ?_
        refine ZW.goto (tgt := 101) dX8_toSource_187 (by decide) ?_
        exact ih (x + 1) R g2 _ _ (by omega) (by omega) hR hR2 hf2 hz2 hI2 hP2 k
  -- the look for a source in the round R
  have loopS : ∀ (n : Nat) (x R : Int) (g1 : ZH) (o5 o6 : Option ZV), 0 ≤ x → x + n = 63 → 0 ≤ R → R < 7 → zFr [108, 109] g g1 → wsI (wkD (g 101) side a) (g1 108) R → (∀ s, 0 ≤ s → s < 63 → srcB (g 101) side s = true → R ≤ wkD (g 101) side a s) → (∀ s, 0 ≤ s → s < x → srcB (g 101) side s = true → wkD (g 101) side a s ≠ R) → ((∀ s, 0 ≤ s → s < 63 → srcB (g 101) side s = true → R + 1 ≤ wkD (g 101) side a s) → ∀ o4 : Option ZV, ZW 5 mX8_toSource 98 [some (.inr 100), some (.inl u), some (.inl side), some (.inl R), o4, o5, o6] [] g1 (fun r g' => r = supF (g 101) side a ∧ zFr [108, 109] g g')) → ZW 5 mX8_toSource 62 [some (.inr 100), some (.inl u), some (.inl side), some (.inl R), some (.inl x), o5, o6] [] g1 (fun r g' => r = supF (g 101) side a ∧ zFr [108, 109] g g') := by
    intro n
    induction n with
    | zero =>
      intro x R g1 o5 o6 hx hn hR hR2 hf hI hS hN k
      refine ZW.iload dX8_toSource_62 rfl ?_
      refine ZW.bipush dX8_toSource_64 rfl ?_
      refine ZW.icmp_ge (tgt := 98) dX8_toSource_66 (by decide) (by omega) (by omega) (fun c66 => ?_) (fun c66 => ?_)
      · refine k (fun s s0 s1 hs1 => ?_) _
        have := hS s s0 s1 hs1
        have := hN s s0 (by omega) hs1
        omega
      · exact absurd c66 (by omega)
    | succ n ih =>
      intro x R g1 o5 o6 hx hn hR hR2 hf hI hS hN k
      have e1 : g1 101 = g 101 := hf 101 (by decide)
      have hIx := hI x hx (by omega)
      have hsx := wkD_R (g 101) side a x
      have hgx : zR (g1 108 x) ∧ (g1 108 x = R ↔ wkD (g 101) side a x = R) := by
        by_cases q : wkD (g 101) side a x ≤ R
        · rw [hIx.1 q]; omega
        · by_cases q2 : wkD (g 101) side a x = R + 1
          · rcases hIx.2.1 q2 with e | e <;> rw [e] <;> omega
          · rw [hIx.2.2 (by omega)]; omega
      have hgR := hgx.1
      refine ZW.iload dX8_toSource_62 rfl ?_
      refine ZW.bipush dX8_toSource_64 rfl ?_
      refine ZW.icmp_ge (tgt := 98) dX8_toSource_66 (by decide) (by omega) (by omega) (fun c66 => ?_) (fun c66 => ?_)
      · exact absurd c66 (by omega)
      · refine ZW.aload_n dX8_toSource_69 rfl ?_
        refine ZW.getR dX8_toSource_70 fl_X8_32 ⟨_, rfl, rfl⟩ ?_
        refine ZW.iload dX8_toSource_73 rfl ?_
        refine ZW.iald dX8_toSource_75 rfl (by decide) (by omega) rfl ?_
        refine ZW.iload_n dX8_toSource_76 rfl ?_
        refine ZW.icmp_ne (tgt := 92) dX8_toSource_77 (by decide) (by omega) (by omega) (fun c77 => ?_) (fun c77 => ?_)
        · refine ZW.iinc dX8_toSource_92 rfl (by decide) rfl ?_
          refine ZW.goto (tgt := 62) dX8_toSource_95 (by decide) ?_
          refine ih (x + 1) R g1 _ _ (by omega) (by omega) hR hR2 hf hI hS (fun s s0 s1 hs1 => ?_) k
          by_cases q : s = x
          · rw [q]; exact fun z => c77 (hgx.2.mpr z)
          · exact hN s s0 (by omega) hs1
        · refine ZW.aload_n dX8_toSource_80 rfl ?_
          refine ZW.iload dX8_toSource_81 rfl ?_
          refine ZW.iload_n dX8_toSource_83 rfl ?_
          refine ZW.callV (as := [_, _]) dX8_toSource_84 cv_X8_92 ⟨_, rfl⟩ rfl (by decide) (Nat.le_of_ble_eq_true rfl) rfl (c_X8_isSource _ (e1 ▸ hk) (by omega) hs) (fun r1 g2 ⟨w1, w2⟩ => ?_)
          subst w1; subst w2
          rw [e1]
          refine ZW.if_eq (tgt := 92) dX8_toSource_87 (by decide) (by exact zB_R _) (fun c87 => ?_) (fun c87 => ?_)
          · have e := zB_eq c87
            refine ZW.iinc dX8_toSource_92 rfl (by decide) rfl ?_
            refine ZW.goto (tgt := 62) dX8_toSource_95 (by decide) ?_
            refine ih (x + 1) R _ _ _ (by omega) (by omega) hR hR2 hf hI hS (fun s s0 s1 hs1 => ?_) k
            by_cases q : s = x
            · rw [q, e] at hs1; cases hs1
            · exact hN s s0 (by omega) hs1
          · have e := zB_ne c87
            have hd := hgx.2.mp c77
            refine ZW.iload_n dX8_toSource_90 rfl ?_
            refine ZW.ireti dX8_toSource_91 rfl ?_
            refine ⟨?_, hf⟩
            obtain ⟨m, h1, h2, h3⟩ := wkD_spec (r := g 101) (side := side) (x := a) (y := x) (by omega)
            rw [supF_is (n := m) (by omega) ⟨x, hx, by omega, e, h3⟩ (fun k hk2 ⟨s, s0, s1, s2, s3⟩ => ?_)]
            · omega
            · have h4 := wkD_le s3 (by omega)
              have h5 := hS s s0 s1 s2
              omega
  have loopR : ∀ (n : Nat) (R : Int) (g1 : ZH) (o4 o5 o6 : Option ZV), 0 ≤ R → R + n = 7 → zFr [108, 109] g g1 → (∀ x, 0 ≤ x → x < 63 → g1 109 x = zB (zoneB (g 101) x (1 - side))) → wsI (wkD (g 101) side a) (g1 108) R → wsP (g 101) side (wkD (g 101) side a) (g1 108) R 0 0 → (∀ s, 0 ≤ s → s < 63 → srcB (g 101) side s = true → R ≤ wkD (g 101) side a s) → ZW 5 mX8_toSource 53 [some (.inr 100), some (.inl u), some (.inl side), some (.inl R), o4, o5, o6] [] g1 (fun r g' => r = supF (g 101) side a ∧ zFr [108, 109] g g') := by
    intro n
    induction n with
    | zero =>
      intro R g1 o4 o5 o6 hR hn hf hz hI hP hS
      refine ZW.iload_n dX8_toSource_53 rfl ?_
      refine ZW.bipush dX8_toSource_54 rfl ?_
      refine ZW.icmp_ge (tgt := 196) dX8_toSource_56 (by decide) (by omega) (by omega) (fun c56 => ?_) (fun c56 => ?_)
      · refine ZW.bipush dX8_toSource_196 rfl ?_
        refine ZW.ireti dX8_toSource_198 rfl ?_
        refine ⟨(supF_no (fun k hk2 ⟨s, s0, s1, s2, s3⟩ => ?_)).symm, hf⟩
        have h4 := wkD_le s3 (by omega)
        have h5 := hS s s0 s1 s2
        omega
      · exact absurd c56 (by omega)
    | succ n ih =>
      intro R g1 o4 o5 o6 hR hn hf hz hI hP hS
      refine ZW.iload_n dX8_toSource_53 rfl ?_
      refine ZW.bipush dX8_toSource_54 rfl ?_
      refine ZW.icmp_ge (tgt := 196) dX8_toSource_56 (by decide) (by omega) (by omega) (fun c56 => ?_) (fun c56 => ?_)
      · exact absurd c56 (by omega)
      · refine ZW.iconst dX8_toSource_59 ?_
        refine ZW.istore dX8_toSource_60 (by decide) rfl ?_
        refine loopS 63 0 R g1 _ _ (by omega) (by omega) hR (by omega) hf hI hS (fun s s0 s1 => by omega) (fun hS2 p4 => ?_)
        refine ZW.iconst dX8_toSource_98 ?_
        refine ZW.istore dX8_toSource_99 (by decide) rfl ?_
        refine loopX 63 0 R g1 _ _ (by omega) (by omega) hR (by omega) hf hz hI hP (fun g2 p4 p5 p6 hf2 hz2 hI2 hP2 => ?_)
        refine ZW.iinc dX8_toSource_190 rfl (by decide) rfl ?_
        refine ZW.goto (tgt := 53) dX8_toSource_193 (by decide) ?_
        exact ih (R + 1) g2 _ _ _ (by omega) (by omega) hf2 hz2 hI2 hP2 hS2
  have fill : ∀ (n : Nat) (x : Int) (g1 : ZH) (o4 o5 o6 : Option ZV), 0 ≤ x → x + n = 63 → zFr [108, 109] g g1 → (∀ x, 0 ≤ x → x < 63 → g1 109 x = zB (zoneB (g 101) x (1 - side))) → (∀ y, 0 ≤ y → y < x → g1 108 y = if y = a then 0 else 1000) → ZW 5 mX8_toSource 16 [some (.inr 100), some (.inl u), some (.inl side), some (.inl x), o4, o5, o6] [] g1 (fun r g' => r = supF (g 101) side a ∧ zFr [108, 109] g g') := by
    intro n
    induction n with
    | zero =>
      intro x g1 o4 o5 o6 hx hn hf hz hy
      refine ZW.iload_n dX8_toSource_16 rfl ?_
      refine ZW.bipush dX8_toSource_17 rfl ?_
      refine ZW.icmp_ge (tgt := 51) dX8_toSource_19 (by decide) (by omega) (by omega) (fun c19 => ?_) (fun c19 => ?_)
      · refine ZW.iconst dX8_toSource_51 ?_
        refine ZW.istore_n dX8_toSource_52 (by decide) rfl ?_
        refine loopR 7 0 g1 _ _ _ (by omega) (by omega) hf hz (fun y y0 y1 => ?_) (fun y e w he hor => by have := he.1; have := he.2.2.1; omega) (fun s s0 s1 s2 => (wkD_R _ _ _ _).1)
        rw [hy y y0 (by omega)]
        have h1 := wkD_0 (r := g 101) (side := side) (x := a) (y := y)
        have h2 := wkD_R (g 101) side a y
        by_cases q : y = a
        · rw [if_pos q]
          have := h1.mpr q
          omega
        · rw [if_neg q]
          have : wkD (g 101) side a y ≠ 0 := fun z => q (h1.mp z)
          omega
      · exact absurd c19 (by omega)
    | succ n ih =>
      intro x g1 o4 o5 o6 hx hn hf hz hy
      have e1 : g1 101 = g 101 := hf 101 (by decide)
      refine ZW.iload_n dX8_toSource_16 rfl ?_
      refine ZW.bipush dX8_toSource_17 rfl ?_
      refine ZW.icmp_ge (tgt := 51) dX8_toSource_19 (by decide) (by omega) (by omega) (fun c19 => ?_) (fun c19 => ?_)
      · exact absurd c19 (by omega)
      · refine ZW.aload_n dX8_toSource_22 rfl ?_
        refine ZW.getR dX8_toSource_23 fl_X8_32 ⟨_, rfl, rfl⟩ ?_
        refine ZW.iload_n dX8_toSource_26 rfl ?_
        refine ZW.iload_n dX8_toSource_27 rfl ?_
        refine ZW.aload_n dX8_toSource_28 rfl ?_
        refine ZW.iload_n dX8_toSource_29 rfl ?_
        refine ZW.iconst dX8_toSource_30 ?_
        refine ZW.callV (as := [_, _]) dX8_toSource_31 cv_X8_52 ⟨_, rfl⟩ rfl (by decide) (Nat.le_of_ble_eq_true rfl) rfl (c_X8_of _ hu0 (by omega)) (fun r1 g2 ⟨w1, w2⟩ => ?_)
        subst w1; subst w2
        rw [e1, ← haE]
        refine ZW.icmp_ne (tgt := 41) dX8_toSource_34 (by decide) (by omega) (by omega) (fun c34 => ?_) (fun c34 => ?_)
        · refine ZW.sipush dX8_toSource_41 rfl ?_
          refine ZW.iast dX8_toSource_44 rfl (by decide) (by omega) ?_
          refine ZW.iinc dX8_toSource_45 rfl (by decide) rfl ?_
          refine ZW.goto (tgt := 16) dX8_toSource_48 (by decide) ?_
          refine ih (x + 1) _ _ _ _ (by omega) (by omega) (hf.set (by decide) _ _) (fun y y0 y1 => by rw [zSet_ne _ _ _ (by decide)]; exact hz y y0 y1) (fun y y0 y1 => ?_)
          rw [zSet_same]
          by_cases q : y = x
          · rw [q, zUp_same, if_neg c34]
          · rw [zUp_ne _ _ q]; exact hy y y0 (by omega)
        · refine ZW.iconst dX8_toSource_37 ?_
          refine ZW.goto (tgt := 44) dX8_toSource_38 (by decide) ?_
          refine ZW.iast dX8_toSource_44 rfl (by decide) (by omega) ?_
          refine ZW.iinc dX8_toSource_45 rfl (by decide) rfl ?_
          refine ZW.goto (tgt := 16) dX8_toSource_48 (by decide) ?_
          refine ih (x + 1) _ _ _ _ (by omega) (by omega) (hf.set (by decide) _ _) (fun y y0 y1 => by rw [zSet_ne _ _ _ (by decide)]; exact hz y y0 y1) (fun y y0 y1 => ?_)
          rw [zSet_same]
          by_cases q : y = x
          · rw [q, zUp_same, if_pos c34]
          · rw [zUp_ne _ _ q]; exact hy y y0 (by omega)
  refine ZW.aload_n dX8_toSource_0 rfl ?_
  refine ZW.iload_n dX8_toSource_1 rfl ?_
  refine ZW.iconst dX8_toSource_2 ?_
  refine ZW.callV (as := [_, _]) dX8_toSource_3 cv_X8_52 ⟨_, rfl⟩ rfl (by decide) (Nat.le_of_ble_eq_true rfl) rfl (c_X8_of _ hu0 (by omega)) (fun r1 g1 ⟨w1, w2⟩ => ?_)
  subst w1; subst w2
  rw [← hside]
  refine ZW.istore_n dX8_toSource_6 (by decide) rfl ?_
  refine ZW.aload_n dX8_toSource_7 rfl ?_
  refine ZW.iconst dX8_toSource_8 ?_
  refine ZW.iload_n dX8_toSource_9 rfl ?_
  refine ZW.isub dX8_toSource_10 ?_
  refine ZW.callVv (as := [_]) dX8_toSource_11 cv_X8_80 ⟨_, rfl⟩ rfl (by decide) (Nat.le_of_ble_eq_true rfl) rfl (fun _ _ hz _ => hz) (c_X8_laysZone _ hk (by omega)) (fun g1 ⟨q1, q2⟩ => ?_)
  refine ZW.iconst dX8_toSource_14 ?_
  refine ZW.istore_n dX8_toSource_15 (by decide) rfl ?_
  exact fill 63 0 g1 _ _ _ (by omega) (by omega) (q1.up (by decide)) q2 (fun y y0 y1 => by omega)
noncomputable def supB (r : Int → Int) (u : Int) : Bool := decide (supF r (ofF r u 0) (ofF r u 2) ≠ -5)
theorem c_X8_isSupplied (g : ZH) (hk : okB (g 101)) (hu : okU (g 101)) {u : Int} (hu0 : 0 ≤ u ∧ u < 16) : ZC 6 mX8_isSupplied [.inr 100, .inl u] g (fun r g' => r = zB (supB (g 101) u) ∧ zFr [108, 109] g g') := by
  refine ZC.of (by decide +kernel) (Nat.le_of_ble_eq_true rfl) ?_
  refine ZW.aload_n dX8_isSupplied_0 rfl ?_
  refine ZW.iload_n dX8_isSupplied_1 rfl ?_
  refine ZW.callV (as := [_]) dX8_isSupplied_2 cv_X8_98 ⟨_, rfl⟩ rfl (by decide) (Nat.le_of_ble_eq_true rfl) rfl (c_X8_toSource _ hk hu hu0) (fun r1 g1 ⟨w1, w2⟩ => ?_)
  subst w1
  have q := supF_R (g 101) (ofF (g 101) u 0) (ofF (g 101) u 2)
  refine ZW.bipush dX8_isSupplied_5 rfl ?_
  refine ZW.icmp_eq (tgt := 14) dX8_isSupplied_7 (by decide) (by omega) (by omega) (fun c7 => ?_) (fun c7 => ?_)
  · refine ZW.iconst dX8_isSupplied_14 ?_
    refine ZW.iretz dX8_isSupplied_15 rfl (by first | exact Or.inl rfl | exact Or.inr rfl | assumption | omega) ?_
    exact ⟨by simp [supB, zB, c7], w2⟩
  · refine ZW.iconst dX8_isSupplied_10 ?_
    refine ZW.goto (tgt := 15) dX8_isSupplied_11 (by decide) ?_
    refine ZW.iretz dX8_isSupplied_15 rfl (by first | exact Or.inl rfl | exact Or.inr rfl | assumption | omega) ?_
    exact ⟨by simp [supB, zB, c7], w2⟩
