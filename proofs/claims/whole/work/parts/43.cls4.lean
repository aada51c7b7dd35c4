-- supply: the class goes from the sources
theorem freeB_sd {r : Int → Int} (hA : okA r) {side x : Int} (hs : side = 0 ∨ side = 1) : freeB r side x = (decide (sdF r x = side) || (decide (sdF r x = -1) && !(zoneB r x (1 - side)))) := by
  unfold freeB
  rw [isOnB_sd (by omega), isOnB_sd (by omega)]
  rcases sdF_R hA x with q | q | q <;> rcases hs with rfl | rfl <;> rw [q] <;> simp
theorem c_X5_isFree (g : ZH) {r : Int → Int} (hA : okA r) (hS : StN g r) (hb : BdN g) {side x : Int} (hs : side = 0 ∨ side = 1) (hx : 0 ≤ x ∧ x < 63) : ZC 2 mX5_isFree [.inr 3, .inl side, .inl x] g (fun v g' => v = zB (freeB r side x) ∧ g' = g) := by
  have hsd := sdF_R hA x
  rw [freeB_sd hA hs]
  refine ZC.of (by decide +kernel) (Nat.le_of_ble_eq_true rfl) ?_
  refine ZW.aload_n dX5_isFree_0 rfl ?_
  refine ZW.iload_n dX5_isFree_1 rfl ?_
  refine ZW.callV (as := [_]) dX5_isFree_2 cv_X5_46 ⟨_, rfl⟩ rfl (by decide) (Nat.le_of_ble_eq_true rfl) rfl (c_X4_sideOn _ hA hS hx) (fun v1 g1 ⟨q1, q2⟩ => ?_)
  subst q1; subst q2
  refine ZW.istore_n dX5_isFree_5 (by decide) rfl ?_
  refine ZW.iload_n dX5_isFree_6 rfl ?_
  refine ZW.iload_n dX5_isFree_7 rfl ?_
  refine ZW.icmp_eq (tgt := 27) dX5_isFree_8 (by decide) (by first | omega | exact zB_R _) (by first | omega | exact zB_R _) (fun c8 => ?_) (fun c8 => ?_)
  · refine ZW.iconst dX5_isFree_27 ?_
    refine ZW.goto (tgt := 32) dX5_isFree_28 (by decide) ?_
    refine ZW.iretz dX5_isFree_32 rfl (by first | exact Or.inl rfl | exact Or.inr rfl | assumption | omega) ?_
    exact ⟨by rw [decide_eq_true c8]; rfl, rfl⟩
  · refine ZW.iload_n dX5_isFree_11 rfl ?_
    refine ZW.iconst dX5_isFree_12 ?_
    refine ZW.icmp_ne (tgt := 31) dX5_isFree_13 (by decide) (by first | omega | exact zB_R _) (by first | omega | exact zB_R _) (fun c13 => ?_) (fun c13 => ?_)
    · refine ZW.iconst dX5_isFree_31 ?_
      refine ZW.iretz dX5_isFree_32 rfl (by first | exact Or.inl rfl | exact Or.inr rfl | assumption | omega) ?_
      exact ⟨by rw [decide_eq_false c8, decide_eq_false c13]; rfl, rfl⟩
    · refine ZW.aload_n dX5_isFree_16 rfl ?_
      refine ZW.iconst dX5_isFree_17 ?_
      refine ZW.iload_n dX5_isFree_18 rfl ?_
      refine ZW.isub dX5_isFree_19 ?_
      refine ZW.iload_n dX5_isFree_20 rfl ?_
      refine ZW.callV (as := [_, _]) dX5_isFree_21 cv_X5_50 ⟨_, rfl⟩ rfl (by decide) (Nat.le_of_ble_eq_true rfl) rfl (c_X4_inZone _ hA hS hb (by omega) hx) (fun v1 g2 ⟨q1, q2⟩ => ?_)
      subst q1; subst q2
      refine ZW.if_ne (tgt := 31) dX5_isFree_24 (by decide) (by first | omega | exact zB_R _) (fun c24 => ?_) (fun c24 => ?_)
      · have e := zB_ne c24
        refine ZW.iconst dX5_isFree_31 ?_
        refine ZW.iretz dX5_isFree_32 rfl (by first | exact Or.inl rfl | exact Or.inr rfl | assumption | omega) ?_
        exact ⟨by rw [decide_eq_false c8, e]; simp [zB], rfl⟩
      · have e := zB_eq c24
        refine ZW.iconst dX5_isFree_27 ?_
        refine ZW.goto (tgt := 32) dX5_isFree_28 (by decide) ?_
        refine ZW.iretz dX5_isFree_32 rfl (by first | exact Or.inl rfl | exact Or.inr rfl | assumption | omega) ?_
        exact ⟨by rw [decide_eq_false c8, decide_eq_true c13, e]; rfl, rfl⟩
def msP (r : Int → Int) (side : Int) : Nat → Int → Prop
  | 0, y => 0 ≤ y ∧ y < 63 ∧ srcB r side y = true ∧ freeB r side y = true
  | n + 1, y => ∃ z d, msP r side n z ∧ sEdge r side z d y
theorem msP_free {r : Int → Int} {side : Int} : ∀ {n : Nat} {y : Int}, msP r side n y → freeB r side y = true
  | 0, _, h => h.2.2.2
  | n + 1, _, ⟨_, _, _, h⟩ => h.2.2.2.2.2.2
theorem wkP_free {r : Int → Int} {side x : Int} (hx : freeB r side x = true) : ∀ {n : Nat} {y : Int}, wkP r side x n y → freeB r side y = true
  | 0, _, h => by rw [h]; exact hx
  | n + 1, _, ⟨_, _, _, h⟩ => h.2.2.2.2.2.2
theorem wkP_in {r : Int → Int} {side x : Int} (hx : 0 ≤ x ∧ x < 63) : ∀ {n : Nat} {y : Int}, wkP r side x n y → 0 ≤ y ∧ y < 63
  | 0, _, h => by rw [h]; exact hx
  | n + 1, _, ⟨_, _, _, h⟩ => sEdge_y h
theorem sEdge_rev {r : Int → Int} {side z d y : Int} (h : sEdge r side z d y) (hz : freeB r side z = true) : sEdge r side y ((d + 3) % 6) z := by
  have hy := sEdge_y h
  obtain ⟨h1, h2, h3, h4, h5, h6, h7⟩ := h
  have hs := nextF_s ⟨h1, h2⟩ ⟨h3, h4⟩ (by rw [h5]; exact h6)
  rw [h5] at hs
  exact ⟨hy.1, hy.2, by omega, by omega, hs, by omega, hz⟩
theorem ms_of_wk {r : Int → Int} {side x : Int} (hx : freeB r side x = true) : ∀ {n m : Nat} {s : Int}, wkP r side x n s → msP r side m s → msP r side (m + n) x
  | 0, m, s, h, hm => by
    have h2 : s = x := h
    rw [← h2]
    exact hm
  | n + 1, m, s, ⟨z, d, h1, h2⟩, hm => by
    have hz := wkP_free hx h1
    have h3 := ms_of_wk hx (m := m + 1) h1 ⟨s, (d + 3) % 6, hm, sEdge_rev h2 hz⟩
    rw [show m + (n + 1) = m + 1 + n by omega]
    exact h3
theorem wkP_cons {r : Int → Int} {side x d z : Int} (he : sEdge r side x d z) : ∀ {n : Nat} {s : Int}, wkP r side z n s → wkP r side x (n + 1) s
  | 0, s, h => by
    have h2 : s = z := h
    rw [h2]
    exact ⟨x, d, rfl, he⟩
  | n + 1, s, ⟨y, e, h1, h2⟩ => ⟨y, e, wkP_cons he h1, h2⟩
theorem wk_of_ms {r : Int → Int} {side : Int} : ∀ {n : Nat} {x : Int}, msP r side n x → ∃ s, 0 ≤ s ∧ s < 63 ∧ srcB r side s = true ∧ wkP r side x n s
  | 0, x, h => ⟨x, h.1, h.2.1, h.2.2.1, rfl⟩
  | n + 1, x, ⟨z, d, h1, h2⟩ => by
    obtain ⟨s, s0, s1, s2, s3⟩ := wk_of_ms h1
    exact ⟨s, s0, s1, s2, wkP_cons (sEdge_rev h2 (msP_free h1)) s3⟩
theorem ms_sup {r : Int → Int} {side x : Int} (hx : freeB r side x = true) (hr : 0 ≤ x ∧ x < 63) {n : Nat} : msP r side n x ↔ supN r side x n := by
  constructor
  · exact fun h => wk_of_ms h
  · rintro ⟨s, s0, s1, s2, s3⟩
    have h := ms_of_wk hx (m := 0) s3 ⟨s0, s1, s2, wkP_free hx s3⟩
    rw [Nat.zero_add] at h
    exact h
noncomputable def cD (r : Int → Int) (side y : Int) : Int := @dite Int (∃ k : Nat, k ≤ 999 ∧ msP r side k y) (Classical.propDecidable _) (fun h => ((Classical.choose (pk_least _ h) : Nat) : Int)) (fun _ => 1000)
theorem cD_spec {r : Int → Int} {side y : Int} (h : cD r side y ≠ 1000) : ∃ n : Nat, cD r side y = n ∧ n ≤ 999 ∧ msP r side n y := by
  unfold cD at h ⊢
  split
  · next hk =>
    obtain ⟨h1, h2⟩ := Classical.choose_spec (pk_least _ hk)
    exact ⟨_, rfl, h1.1, h1.2⟩
  · next hk => rw [dif_neg hk] at h; exact absurd rfl h
theorem cD_le {r : Int → Int} {side y : Int} {n : Nat} (h : msP r side n y) (hn : n ≤ 999) : cD r side y ≤ n := by
  have hex : ∃ k : Nat, k ≤ 999 ∧ msP r side k y := ⟨n, hn, h⟩
  unfold cD
  rw [dif_pos hex]
  obtain ⟨h1, h2⟩ := Classical.choose_spec (pk_least _ hex)
  apply Classical.byContradiction
  intro hlt
  exact h2 n (by omega) ⟨hn, h⟩
theorem cD_R (r : Int → Int) (side y : Int) : 0 ≤ cD r side y ∧ cD r side y ≤ 1000 := by
  by_cases h : cD r side y = 1000
  · omega
  · obtain ⟨n, h1, h2, _⟩ := cD_spec h
    omega
theorem cD_0 {r : Int → Int} {side y : Int} (hy : 0 ≤ y ∧ y < 63) : cD r side y = 0 ↔ srcB r side y = true ∧ freeB r side y = true := by
  constructor
  · intro h
    obtain ⟨n, h1, h2, h3⟩ := cD_spec (r := r) (side := side) (y := y) (by omega)
    have : n = 0 := by omega
    subst this
    exact h3.2.2
  · intro h
    have h1 := cD_le (r := r) (side := side) (y := y) (n := 0) ⟨hy.1, hy.2, h⟩ (by decide)
    have h2 := cD_R r side y
    omega
theorem cD_2 {r : Int → Int} {side z d y : Int} (he : sEdge r side z d y) (hz : cD r side z ≤ 998) : cD r side y ≤ cD r side z + 1 := by
  obtain ⟨n, h1, h2, h3⟩ := cD_spec (r := r) (side := side) (y := z) (by omega)
  have h4 := cD_le (r := r) (side := side) (y := y) (n := n + 1) ⟨z, d, h3, he⟩ (by omega)
  omega
theorem cD_3 {r : Int → Int} {side y R : Int} (hR : 0 ≤ R) (hR2 : R ≤ 998) (h : cD r side y = R + 1) : ∃ z d, sEdge r side z d y ∧ cD r side z = R := by
  obtain ⟨n, h1, h2, h3⟩ := cD_spec (r := r) (side := side) (y := y) (by omega)
  cases n with
  | zero => omega
  | succ n =>
    obtain ⟨z, d, h4, h5⟩ := h3
    have h6 := cD_le h4 (by omega)
    have h7 := cD_2 h5 (by omega)
    exact ⟨z, d, h5, by omega⟩
theorem ms_round {r : Int → Int} {side R : Int} {f : Int → Int} (hR : 0 ≤ R) (hR2 : R ≤ 900) (hI : wsI (cD r side) f R) (hP : wsP r side (cD r side) f R 63 0) : wsI (cD r side) f (R + 1) ∧ wsP r side (cD r side) f (R + 1) 0 0 ∧ ∀ x, 0 ≤ x → x < 63 → cD r side x = R + 1 + 1 → f x = 1000 := by
  refine ⟨fun x h0 h1 => ?_, fun x d y he h4 => by have := he.1; have := he.2.2.1; omega, fun x h0 h1 h2 => (hI x h0 h1).2.2 (by omega)⟩
  obtain ⟨q1, q2, q3⟩ := hI x h0 h1
  refine ⟨fun h => ?_, fun h => Or.inr (q3 (by omega)), fun h => q3 (by omega)⟩
  by_cases hc : cD r side x ≤ R
  · exact q1 hc
  · have hq : cD r side x = R + 1 := by omega
    rcases q2 hq with e | e
    · rw [e, hq]
    · exfalso
      obtain ⟨z, d, h5, h6⟩ := cD_3 hR (by omega) hq
      exact hP z d x h5 (Or.inl h5.2.1) h6 e
noncomputable def spC (r : Int → Int) (side x : Int) : Int := if cD r side x ≤ 6 then cD r side x else 1000
theorem spC_sup {r : Int → Int} {side x : Int} (hx : freeB r side x = true) (hr : 0 ≤ x ∧ x < 63) : spC r side x = if supF r side x = -5 then 1000 else supF r side x := by
  unfold spC
  split
  · next h =>
    have h0 := cD_R r side x
    obtain ⟨n, h1, h2, h3⟩ := cD_spec (r := r) (side := side) (y := x) (by omega)
    have h4 := supF_is (n := n) (by omega) ((ms_sup hx hr).mp h3) (fun k hk q => by
      have := cD_le ((ms_sup hx hr).mpr q) (by omega)
      omega)
    rw [h4, if_neg (by omega), h1]
  · next h =>
    rw [supF_no (fun k hk q => by
      have := cD_le ((ms_sup hx hr).mpr q) (by omega)
      omega), if_pos rfl]
/-- what stands still while the class measures -/
def mFr (g g' : ZH) : Prop := zFr [97, 98] g g'
theorem StN.fr {ks : List Nat} {g g' : ZH} {r : Int → Int} (h : StN g r) (hf : zFr ks g g') (hk : ∀ k ∈ ks, 15 ≤ k) : StN g' r := by
  have n : ∀ k, k < 15 → g' k = g k := fun k hk2 => hf k (fun q => by have := hk k q; omega)
  unfold StN
  rw [n 3 (by decide), n 4 (by decide), n 5 (by decide), n 6 (by decide), n 7 (by decide), n 8 (by decide), n 9 (by decide), n 10 (by decide), n 11 (by decide), n 12 (by decide), n 13 (by decide), n 14 (by decide)]
  exact h
theorem BdN.fr {ks : List Nat} {g g' : ZH} (h : BdN g) (hf : zFr ks g g') (hk : ∀ k ∈ ks, 3 ≤ k) : BdN g' := by
  unfold BdN
  rw [hf 2 (fun q => by have := hk 2 q; omega)]
  exact h
theorem c_X5_spread (g : ZH) {r : Int → Int} (hb : BdN g) {side R x : Int} (hR : 0 ≤ R ∧ R < 6) (hx : 0 ≤ x ∧ x < 63) (hfree : ∀ y, 0 ≤ y → y < 63 → g 98 y = zB (freeB r side y)) (hI : wsI (cD r side) (g 97) R) (hP : wsP r side (cD r side) (g 97) R x 0) (hgx : g 97 x = R) : ZC 1 mX5_spread [.inr 96, .inl x] g (fun _ g' => zFr [97] g g' ∧ wsI (cD r side) (g' 97) R ∧ wsP r side (cD r side) (g' 97) R (x + 1) 0) := by
  have hdx : cD r side x = R := by
    have h1 := hI x hx.1 hx.2
    have h2 := cD_R r side x
    by_cases q : cD r side x ≤ R
    · have := h1.1 q; omega
    · by_cases q2 : cD r side x = R + 1
      · rcases h1.2.1 q2 with e | e <;> omega
      · have := h1.2.2 (by omega); omega
  refine ZC.of (by decide +kernel) (Nat.le_of_ble_eq_true rfl) ?_
  have loop : ∀ (n : Nat) (d : Int) (g1 : ZH) (o3 : Option ZV), 0 ≤ d → d + n = 6 → zFr [97] g g1 → g1 97 x = R → wsI (cD r side) (g1 97) R → wsP r side (cD r side) (g1 97) R x d → ZW 1 mX5_spread 2 [some (.inr 96), some (.inl x), some (.inl d), o3] [] g1 (fun _ g' => zFr [97] g g' ∧ wsI (cD r side) (g' 97) R ∧ wsP r side (cD r side) (g' 97) R (x + 1) 0) := by
    intro n
    induction n with
    | zero =>
      intro d g1 o3 h0 hn hf hx1 hI1 hP1
      refine ZW.iload_n dX5_spread_2 rfl ?_
      refine ZW.bipush dX5_spread_3 rfl ?_
      refine ZW.icmp_ge (tgt := 71) dX5_spread_5 (by decide) (by first | omega | exact zB_R _) (by first | omega | exact zB_R _) (fun c5 => ?_) (fun c5 => ?_)
      · refine ZW.vret dX5_spread_71 rfl ?_
        refine ⟨hf, hI1, fun y e w he hor hy => hP1 y e w he ?_ hy⟩
        have h1 := he.2.2.2.1
        have h2 := he.2.2.1
        by_cases q : y = x
        · exact Or.inr ⟨q, by omega⟩
        · exact Or.inl (by omega)
      · exact absurd c5 (by omega)
    | succ n ih =>
      intro d g1 o3 h0 hn hf hx1 hI1 hP1
      have h1 := (hb.fr hf (by decide)) x d hx.1 hx.2 h0 (by omega)
      have h2 := nbF_R x d
      have hfree1 : g1 98 = g 98 := hf 98 (by decide)
      have next : (∀ y, sEdge r side x d y → g1 97 y ≠ 1000) → ∀ o3 : Option ZV, ZW 1 mX5_spread 65 [some (.inr 96), some (.inl x), some (.inl d), o3] [] g1 (fun _ g' => zFr [97] g g' ∧ wsI (cD r side) (g' 97) R ∧ wsP r side (cD r side) (g' 97) R (x + 1) 0) := by
        intro hne o3
        refine ZW.iinc dX5_spread_65 rfl (by decide) rfl ?_
        refine ZW.goto (tgt := 2) dX5_spread_68 (by decide) ?_
        refine ih (d + 1) g1 o3 (by omega) (by omega) hf hx1 hI1 (fun y e w he hor hy => ?_)
        by_cases q : y = x ∧ e = d
        · rw [q.1, q.2] at he
          exact hne w he
        · exact hP1 y e w he (by omega) hy
      refine ZW.iload_n dX5_spread_2 rfl ?_
      refine ZW.bipush dX5_spread_3 rfl ?_
      refine ZW.icmp_ge (tgt := 71) dX5_spread_5 (by decide) (by first | omega | exact zB_R _) (by first | omega | exact zB_R _) (fun c5 => ?_) (fun c5 => ?_)
      · exact absurd c5 (by omega)
      · refine ZW.aload_n dX5_spread_8 rfl ?_
        refine ZW.getR dX5_spread_9 fl_X5_19 ⟨_, rfl, rfl⟩ ?_
        refine ZW.getR dX5_spread_12 fl_X5_39 ⟨_, rfl, rfl⟩ ?_
        refine ZW.iload_n dX5_spread_15 rfl ?_
        refine ZW.bipush dX5_spread_16 rfl ?_
        refine ZW.imul dX5_spread_18 ?_
        refine ZW.iload_n dX5_spread_19 rfl ?_
        refine ZW.iadd dX5_spread_20 ?_
        refine ZW.iald dX5_spread_21 rfl (by decide) (by omega) rfl ?_
        rw [h1]
        refine ZW.istore_n dX5_spread_22 (by decide) rfl ?_
        refine ZW.iload_n dX5_spread_23 rfl ?_
        refine ZW.callS (as := [_]) dX5_spread_24 cs_X5_42 rfl (by decide) (Nat.le_of_ble_eq_true rfl) rfl (c_X0_isHex _ (by omega)) (fun v1 g2 ⟨q1, q2⟩ => ?_)
        subst q1; subst q2
        rw [nbF_hex]
        refine ZW.if_eq (tgt := 65) dX5_spread_27 (by decide) (by first | omega | exact zB_R _) (fun c27 => ?_) (fun c27 => ?_)
        · have e := of_decide_eq_false (zB_eq c27)
          exact next (fun y he => absurd (fun q => he.2.2.2.2.2.1 (he.2.2.2.2.1.symm.trans q)) e) _
        · have e := of_decide_eq_true (zB_ne c27)
          have hr := (nextF_R (x := x) (d := d)).resolve_left e
          have hnb : nbF x d = nextF x d := by unfold nbF; rw [if_neg e]
          have hIo := hI1 (nextF x d) hr.1 hr.2
          have hwr := cD_R r side (nextF x d)
          have hgo : zR (g2 97 (nextF x d)) := by
            by_cases q : cD r side (nextF x d) ≤ R
            · rw [hIo.1 q]; omega
            · by_cases q2 : cD r side (nextF x d) = R + 1
              · rcases hIo.2.1 q2 with e | e <;> rw [e] <;> omega
              · rw [hIo.2.2 (by omega)]; omega
          rw [hnb]
          refine ZW.aload_n dX5_spread_30 rfl ?_
          refine ZW.getR dX5_spread_31 fl_X5_15 ⟨_, rfl, rfl⟩ ?_
          refine ZW.iload_n dX5_spread_34 rfl ?_
          refine ZW.zald dX5_spread_35 rfl (by decide) (by omega) rfl ?_
          rw [hfree1, hfree _ hr.1 hr.2]
          refine ZW.if_eq (tgt := 65) dX5_spread_36 (by decide) (by first | omega | exact zB_R _) (fun c36 => ?_) (fun c36 => ?_)
          · have e2 := zB_eq c36
            refine next (fun y he => ?_) _
            have h7 := he.2.2.2.2.2.2
            rw [← he.2.2.2.2.1, e2] at h7
            cases h7
          · have e2 := zB_ne c36
            refine ZW.aload_n dX5_spread_39 rfl ?_
            refine ZW.getR dX5_spread_40 fl_X5_9 ⟨_, rfl, rfl⟩ ?_
            refine ZW.iload_n dX5_spread_43 rfl ?_
            refine ZW.iald dX5_spread_44 rfl (by decide) (by omega) rfl ?_
            refine ZW.sipush dX5_spread_45 rfl ?_
            refine ZW.icmp_ne (tgt := 65) dX5_spread_48 (by decide) (by first | omega | exact zB_R _) (by first | omega | exact zB_R _) (fun c48 => ?_) (fun c48 => ?_)
            · refine next (fun y he => ?_) _
              rw [← he.2.2.2.2.1]
              exact c48
            · have hed : sEdge r side x d (nextF x d) := ⟨hx.1, hx.2, h0, by omega, rfl, e, e2⟩
              have h3 := cD_2 hed (by omega)
              have hq : cD r side (nextF x d) = R + 1 := by
                by_cases q : cD r side (nextF x d) ≤ R
                · have := hIo.1 q
                  omega
                · omega
              refine ZW.aload_n dX5_spread_51 rfl ?_
              refine ZW.getR dX5_spread_52 fl_X5_9 ⟨_, rfl, rfl⟩ ?_
              refine ZW.iload_n dX5_spread_55 rfl ?_
              refine ZW.aload_n dX5_spread_56 rfl ?_
              refine ZW.getR dX5_spread_57 fl_X5_9 ⟨_, rfl, rfl⟩ ?_
              refine ZW.iload_n dX5_spread_60 rfl ?_
              refine ZW.iald dX5_spread_61 rfl (by decide) (by omega) rfl ?_
              rw [hx1]
              refine ZW.iconst dX5_spread_62 ?_
              refine ZW.iadd dX5_spread_63 ?_
              refine ZW.iast dX5_spread_64 rfl (by decide) (by omega) ?_
              refine ZW.iinc dX5_spread_65 rfl (by decide) rfl ?_
              refine ZW.goto (tgt := 2) dX5_spread_68 (by decide) ?_
              refine ih (d + 1) _ _ (by omega) (by omega) (hf.set (by decide) _ _) ?_ (fun y y0 y1 => ?_) (fun y e w he hor hy => ?_)
              · rw [zSet_same, zUp_ne _ _ (fun q => by rw [← q] at hq; omega)]
                exact hx1
              · rw [zSet_same]
                by_cases q : y = nextF x d
                · rw [q, zUp_same]
                  exact ⟨fun z => by omega, fun _ => Or.inl rfl, fun z => by omega⟩
                · rw [zUp_ne _ _ q]
                  exact hI1 y y0 y1
              · rw [zSet_same]
                by_cases q : w = nextF x d
                · rw [q, zUp_same]
                  omega
                · rw [zUp_ne _ _ q]
                  refine hP1 y e w he ?_ hy
                  by_cases q2 : y = x ∧ e = d
                  · have h5 := he.2.2.2.2.1
                    rw [q2.1, q2.2] at h5
                    exact absurd h5.symm q
                  · omega
  refine ZW.iconst dX5_spread_0 ?_
  refine ZW.istore_n dX5_spread_1 (by decide) rfl ?_
  exact loop 6 0 g _ (by omega) (by omega) (zFr.rf _ _) hgx hI hP
set_option maxRecDepth 100000 in
set_option maxHeartbeats 1000000 in
theorem c_X5_measure (g : ZH) {r : Int → Int} (hA : okA r) (hS : StN g r) (hb : BdN g) {side : Int} (hs : side = 0 ∨ side = 1) : ZC 3 mX5_measure [.inr 96, .inr 3, .inl side] g (fun _ g' => zFr [97, 98] g g' ∧ ∀ x, 0 ≤ x → x < 63 → g' 97 x = spC r side x) := by
  refine ZC.of (by decide +kernel) (Nat.le_of_ble_eq_true rfl) ?_
  have loopX : ∀ (n : Nat) (x R : Int) (g1 : ZH), 0 ≤ x → x + n = 63 → 0 ≤ R → R < 6 → zFr [97, 98] g g1 → (∀ y, 0 ≤ y → y < 63 → g1 98 y = zB (freeB r side y)) → wsI (cD r side) (g1 97) R → wsP r side (cD r side) (g1 97) R x 0 → (∀ (g2 : ZH) (o4 : Option ZV), zFr [97, 98] g g2 → (∀ y, 0 ≤ y → y < 63 → g2 98 y = zB (freeB r side y)) → wsI (cD r side) (g2 97) (R + 1) → wsP r side (cD r side) (g2 97) (R + 1) 0 0 → (∀ x, 0 ≤ x → x < 63 → cD r side x = R + 1 + 1 → g2 97 x = 1000) → ZW 3 mX5_measure 121 [some (.inr 96), some (.inr 3), some (.inl side), some (.inl R), o4] [] g2 (fun _ g' => zFr [97, 98] g g' ∧ ∀ x, 0 ≤ x → x < 63 → g' 97 x = spC r side x)) → ZW 3 mX5_measure 91 [some (.inr 96), some (.inr 3), some (.inl side), some (.inl R), some (.inl x)] [] g1 (fun _ g' => zFr [97, 98] g g' ∧ ∀ x, 0 ≤ x → x < 63 → g' 97 x = spC r side x) := by
    intro n
    induction n with
    | zero =>
      intro x R g1 hx hn hR hR2 hf hfr hI hP k
      refine ZW.iload dX5_measure_91 rfl ?_
      refine ZW.bipush dX5_measure_93 rfl ?_
      refine ZW.icmp_ge (tgt := 121) dX5_measure_95 (by decide) (by first | omega | exact zB_R _) (by first | omega | exact zB_R _) (fun c95 => ?_) (fun c95 => ?_)
      · have e : x = 63 := by omega
        subst e
        have h1 := ms_round hR (by omega) hI hP
        exact k g1 _ hf hfr h1.1 h1.2.1 h1.2.2
      · exact absurd c95 (by omega)
    | succ n ih =>
      intro x R g1 hx hn hR hR2 hf hfr hI hP k
      have hIx := hI x hx (by omega)
      have hsx := cD_R r side x
      have hgx : zR (g1 97 x) ∧ (cD r side x = R → g1 97 x = R) := by
        by_cases q : cD r side x ≤ R
        · rw [hIx.1 q]; omega
        · by_cases q2 : cD r side x = R + 1
          · rcases hIx.2.1 q2 with e | e <;> rw [e] <;> omega
          · rw [hIx.2.2 (by omega)]; omega
      have hgR := hgx.1
      refine ZW.iload dX5_measure_91 rfl ?_
      refine ZW.bipush dX5_measure_93 rfl ?_
      refine ZW.icmp_ge (tgt := 121) dX5_measure_95 (by decide) (by first | omega | exact zB_R _) (by first | omega | exact zB_R _) (fun c95 => ?_) (fun c95 => ?_)
      · exact absurd c95 (by omega)
      · refine ZW.aload_n dX5_measure_98 rfl ?_
        refine ZW.getR dX5_measure_99 fl_X5_9 ⟨_, rfl, rfl⟩ ?_
        refine ZW.iload dX5_measure_102 rfl ?_
        refine ZW.iald dX5_measure_104 rfl (by decide) (by omega) rfl ?_
        refine ZW.iload_n dX5_measure_105 rfl ?_
        refine ZW.icmp_ne (tgt := 115) dX5_measure_106 (by decide) (by first | omega | exact zB_R _) (by first | omega | exact zB_R _) (fun c106 => ?_) (fun c106 => ?_)
        · refine ZW.iinc dX5_measure_115 rfl (by decide) rfl ?_
          refine ZW.goto (tgt := 91) dX5_measure_118 (by decide) ?_
          refine ih (x + 1) R g1 (by omega) (by omega) hR hR2 hf hfr hI (fun y e w he hor hy => ?_) k
          have h2 := he.2.2.1
          by_cases q : y = x
          · subst q
            exact absurd (hgx.2 hy) c106
          · exact hP y e w he (Or.inl (by omega)) hy
        · refine ZW.aload_n dX5_measure_109 rfl ?_
          refine ZW.iload dX5_measure_110 rfl ?_
          refine ZW.callVv (as := [_]) dX5_measure_112 cv_X5_35 ⟨_, rfl⟩ rfl (by decide) (Nat.le_of_ble_eq_true rfl) rfl (fun _ _ hz _ => hz) (c_X5_spread _ (hb.fr hf (by decide)) ⟨hR, hR2⟩ ⟨hx, by omega⟩ hfr hI hP c106) (fun g2 ⟨f2, hI2, hP2⟩ => ?_)
          refine ZW.iinc dX5_measure_115 rfl (by decide) rfl ?_
          refine ZW.goto (tgt := 91) dX5_measure_118 (by decide) ?_
          exact ih (x + 1) R g2 (by omega) (by omega) hR hR2 (hf.tr (f2.up (by decide))) (fun y y0 y1 => by rw [f2 98 (by decide)]; exact hfr y y0 y1) hI2 hP2 k
  have loopR : ∀ (n : Nat) (R : Int) (g1 : ZH) (o4 : Option ZV), 0 ≤ R → R + n = 6 → zFr [97, 98] g g1 → (∀ y, 0 ≤ y → y < 63 → g1 98 y = zB (freeB r side y)) → wsI (cD r side) (g1 97) R → wsP r side (cD r side) (g1 97) R 0 0 → (∀ x, 0 ≤ x → x < 63 → cD r side x = R + 1 → g1 97 x = 1000) → ZW 3 mX5_measure 82 [some (.inr 96), some (.inr 3), some (.inl side), some (.inl R), o4] [] g1 (fun _ g' => zFr [97, 98] g g' ∧ ∀ x, 0 ≤ x → x < 63 → g' 97 x = spC r side x) := by
    intro n
    induction n with
    | zero =>
      intro R g1 o4 hR hn hf hfr hI hP hZ
      have e : R = 6 := by omega
      subst e
      refine ZW.iload_n dX5_measure_82 rfl ?_
      refine ZW.bipush dX5_measure_83 rfl ?_
      refine ZW.icmp_ge (tgt := 127) dX5_measure_85 (by decide) (by first | omega | exact zB_R _) (by first | omega | exact zB_R _) (fun c85 => ?_) (fun c85 => ?_)
      · refine ZW.vret dX5_measure_127 rfl ?_
        refine ⟨hf, fun x x0 x1 => ?_⟩
        have h1 := hI x x0 x1
        unfold spC
        split
        · next q => exact h1.1 q
        · next q =>
          by_cases q2 : cD r side x = 7
          · exact hZ x x0 x1 q2
          · exact h1.2.2 (by omega)
      · exact absurd c85 (by omega)
    | succ n ih =>
      intro R g1 o4 hR hn hf hfr hI hP hZ
      refine ZW.iload_n dX5_measure_82 rfl ?_
      refine ZW.bipush dX5_measure_83 rfl ?_
      refine ZW.icmp_ge (tgt := 127) dX5_measure_85 (by decide) (by first | omega | exact zB_R _) (by first | omega | exact zB_R _) (fun c85 => ?_) (fun c85 => ?_)
      · exact absurd c85 (by omega)
      · refine ZW.iconst dX5_measure_88 ?_
        refine ZW.istore dX5_measure_89 (by decide) rfl ?_
        refine loopX 63 0 R g1 (by omega) (by omega) hR (by omega) hf hfr hI hP (fun g2 p4 hf2 hfr2 hI2 hP2 hZ2 => ?_)
        refine ZW.iinc dX5_measure_121 rfl (by decide) rfl ?_
        refine ZW.goto (tgt := 82) dX5_measure_124 (by decide) ?_
        exact ih (R + 1) g2 _ (by omega) (by omega) hf2 hfr2 hI2 hP2 hZ2
  have fill : ∀ (n : Nat) (x : Int) (g1 : ZH) (o4 : Option ZV), 0 ≤ x → x + n = 63 → zFr [97, 98] g g1 → (∀ y, 0 ≤ y → y < x → g1 98 y = zB (freeB r side y) ∧ g1 97 y = (if srcB r side y = true ∧ freeB r side y = true then 0 else 1000)) → ZW 3 mX5_measure 2 [some (.inr 96), some (.inr 3), some (.inl side), some (.inl x), o4] [] g1 (fun _ g' => zFr [97, 98] g g' ∧ ∀ x, 0 ≤ x → x < 63 → g' 97 x = spC r side x) := by
    intro n
    induction n with
    | zero =>
      intro x g1 o4 hx hn hf hy
      refine ZW.iload_n dX5_measure_2 rfl ?_
      refine ZW.bipush dX5_measure_3 rfl ?_
      refine ZW.icmp_ge (tgt := 80) dX5_measure_5 (by decide) (by first | omega | exact zB_R _) (by first | omega | exact zB_R _) (fun c5 => ?_) (fun c5 => ?_)
      · refine ZW.iconst dX5_measure_80 ?_
        refine ZW.istore_n dX5_measure_81 (by decide) rfl ?_
        have v0 : ∀ y, 0 ≤ y → y < 63 → (cD r side y = 0 → g1 97 y = 0) ∧ (cD r side y ≠ 0 → g1 97 y = 1000) := fun y y0 y1 => by
          have h1 := (hy y y0 (by omega)).2
          have h2 := cD_0 (r := r) (side := side) (y := y) ⟨y0, y1⟩
          refine ⟨fun q => by rw [h1, if_pos (h2.mp q)], fun q => by rw [h1, if_neg (fun z => q (h2.mpr z))]⟩
        refine loopR 6 0 g1 _ (by omega) (by omega) hf (fun y y0 y1 => (hy y y0 (by omega)).1) (fun y y0 y1 => ?_) (fun y e w he hor => by have := he.1; have := he.2.2.1; omega) (fun y y0 y1 q => (v0 y y0 y1).2 (by omega))
        have h3 := cD_R r side y
        refine ⟨fun q => ?_, fun q => Or.inr ((v0 y y0 y1).2 (by omega)), fun q => (v0 y y0 y1).2 (by omega)⟩
        rw [(v0 y y0 y1).1 (by omega)]
        omega
      · exact absurd c5 (by omega)
    | succ n ih =>
      intro x g1 o4 hx hn hf hy
      have hS1 := hS.fr hf (by decide)
      have hb1 := hb.fr hf (by decide)
      have hX := (st_x hS1 (x := x) ⟨hx, by omega⟩).2.2.1
      have hgf := hA.1.1.1 (126 + x) (by omega) (by omega)
      have hgb := hA.1.1.1 (189 + side) (by omega) (by omega)
      have hba : g1 8 side = r (189 + side) := by
        rcases hs with q | q
        · rw [q]; exact hS1.2.1.1
        · rw [q]; exact hS1.2.1.2
      refine ZW.iload_n dX5_measure_2 rfl ?_
      refine ZW.bipush dX5_measure_3 rfl ?_
      refine ZW.icmp_ge (tgt := 80) dX5_measure_5 (by decide) (by first | omega | exact zB_R _) (by first | omega | exact zB_R _) (fun c5 => ?_) (fun c5 => ?_)
      · exact absurd c5 (by omega)
      · refine ZW.aload_n dX5_measure_8 rfl ?_
        refine ZW.getR dX5_measure_9 fl_X5_15 ⟨_, rfl, rfl⟩ ?_
        refine ZW.iload_n dX5_measure_12 rfl ?_
        refine ZW.aload_n dX5_measure_13 rfl ?_
        refine ZW.iload_n dX5_measure_14 rfl ?_
        refine ZW.iload_n dX5_measure_15 rfl ?_
        refine ZW.callS (as := [_, _, _]) dX5_measure_16 cs_X5_23 rfl (by decide) (Nat.le_of_ble_eq_true rfl) rfl (c_X5_isFree _ hA hS1 hb1 hs ⟨hx, by omega⟩) (fun v1 g2 ⟨q1, q2⟩ => ?_)
        subst q1; subst q2
        refine ZW.zast dX5_measure_19 rfl (by decide) (by omega) (by exact zB_1 _) ?_
        refine ZW.aload_n dX5_measure_20 rfl ?_
        refine ZW.getR dX5_measure_21 fl_X5_27 ⟨_, rfl, rfl⟩ ?_
        refine ZW.iload_n dX5_measure_24 rfl ?_
        refine ZW.iald dX5_measure_25 rfl (by decide) (by omega) rfl ?_
        obtain ⟨g3, hg3⟩ : ∃ z, z = zSet g2 98 x (zB (freeB r side x)) := ⟨_, rfl⟩
        have f3 : zFr [97, 98] g g3 := by rw [hg3]; exact hf.set (by decide) _ _
        have a98 : g3 98 x = zB (freeB r side x) := by rw [hg3, zSet_same, zUp_same]
        have k8 : g3 8 side = r (189 + side) := by rw [hg3, zSet_ne _ _ _ (by decide)]; exact hba
        have k6 : g3 6 x = r (126 + x) - 1 := by rw [hg3, zSet_ne _ _ _ (by decide)]; exact hX
        have old : ∀ y, 0 ≤ y → y < x → g3 98 y = zB (freeB r side y) ∧ g3 97 y = (if srcB r side y = true ∧ freeB r side y = true then 0 else 1000) := fun y y0 y1 => by
          rw [hg3, zSet_same, zUp_ne _ _ (by omega), zSet_ne _ _ _ (by decide)]
          exact hy y y0 y1
        rw [← hg3]
        have last : ∀ v : Int, v = (if srcB r side x = true ∧ freeB r side x = true then 0 else 1000) → ∀ o4 : Option ZV, ZW 3 mX5_measure 73 [some (.inr 96), some (.inr 3), some (.inl side), some (.inl x), o4] [.inl v, .inl x, .inr 97] g3 (fun _ g' => zFr [97, 98] g g' ∧ ∀ x, 0 ≤ x → x < 63 → g' 97 x = spC r side x) := by
          intro v hv o4
          refine ZW.iast dX5_measure_73 rfl (by decide) (by omega) ?_
          refine ZW.iinc dX5_measure_74 rfl (by decide) rfl ?_
          refine ZW.goto (tgt := 2) dX5_measure_77 (by decide) ?_
          refine ih (x + 1) _ _ (by omega) (by omega) (f3.set (by decide) _ _) (fun y y0 y1 => ?_)
          rw [zSet_ne _ _ _ (show (98 : Nat) ≠ 97 by decide), zSet_same]
          by_cases q : y = x
          · rw [q, zUp_same]; exact ⟨a98, hv⟩
          · rw [zUp_ne _ _ q]; exact old y y0 (by omega)
        have mid : ∀ b : Bool, b = srcB r side x → ZW 3 mX5_measure 45 [some (.inr 96), some (.inr 3), some (.inl side), some (.inl x), o4] [.inl (zB b)] g3 (fun _ g' => zFr [97, 98] g g' ∧ ∀ x, 0 ≤ x → x < 63 → g' 97 x = spC r side x) := by
          intro b hbb
          refine ZW.istore dX5_measure_45 (by decide) rfl ?_
          refine ZW.aload_n dX5_measure_47 rfl ?_
          refine ZW.getR dX5_measure_48 fl_X5_9 ⟨_, rfl, rfl⟩ ?_
          refine ZW.iload_n dX5_measure_51 rfl ?_
          refine ZW.iload dX5_measure_52 rfl ?_
          refine ZW.if_eq (tgt := 70) dX5_measure_54 (by decide) (by first | omega | exact zB_R _) (fun c54 => ?_) (fun c54 => ?_)
          · have e := zB_eq c54
            refine ZW.sipush dX5_measure_70 rfl ?_
            exact last 1000 (by rw [← hbb, e, if_neg (fun q => Bool.noConfusion q.1)]) _
          · have e := zB_ne c54
            refine ZW.aload_n dX5_measure_57 rfl ?_
            refine ZW.getR dX5_measure_58 fl_X5_15 ⟨_, rfl, rfl⟩ ?_
            refine ZW.iload_n dX5_measure_61 rfl ?_
            refine ZW.zald dX5_measure_62 rfl (by decide) (by omega) rfl ?_
            rw [a98]
            refine ZW.if_eq (tgt := 70) dX5_measure_63 (by decide) (by first | omega | exact zB_R _) (fun c63 => ?_) (fun c63 => ?_)
            · have e2 := zB_eq c63
              refine ZW.sipush dX5_measure_70 rfl ?_
              exact last 1000 (by rw [e2, if_neg (fun q => Bool.noConfusion q.2)]) _
            · have e2 := zB_ne c63
              refine ZW.iconst dX5_measure_66 ?_
              refine ZW.goto (tgt := 73) dX5_measure_67 (by decide) ?_
              exact last 0 (by rw [← hbb, e, e2, if_pos ⟨rfl, rfl⟩]) _
        have hsrc : srcB r side x = decide (r (189 + side) = x ∨ r (126 + x) = side + 1) := rfl
        rw [k8]
        refine ZW.iload_n dX5_measure_26 rfl ?_
        refine ZW.icmp_eq (tgt := 40) dX5_measure_27 (by decide) (by first | omega | exact zB_R _) (by first | omega | exact zB_R _) (fun c27 => ?_) (fun c27 => ?_)
        · refine ZW.iconst dX5_measure_40 ?_
          refine ZW.goto (tgt := 45) dX5_measure_41 (by decide) ?_
          exact mid true (by rw [hsrc, decide_eq_true (Or.inl c27)])
        · refine ZW.aload_n dX5_measure_30 rfl ?_
          refine ZW.getR dX5_measure_31 fl_X5_32 ⟨_, rfl, rfl⟩ ?_
          refine ZW.iload_n dX5_measure_34 rfl ?_
          refine ZW.iald dX5_measure_35 rfl (by decide) (by omega) rfl ?_
          rw [k6]
          refine ZW.iload_n dX5_measure_36 rfl ?_
          refine ZW.icmp_ne (tgt := 44) dX5_measure_37 (by decide) (by first | omega | exact zB_R _) (by first | omega | exact zB_R _) (fun c37 => ?_) (fun c37 => ?_)
          · refine ZW.iconst dX5_measure_44 ?_
            exact mid false (by rw [hsrc, decide_eq_false (fun q => by omega)])
          · refine ZW.iconst dX5_measure_40 ?_
            refine ZW.goto (tgt := 45) dX5_measure_41 (by decide) ?_
            exact mid true (by rw [hsrc, decide_eq_true (Or.inr (by omega))])
  refine ZW.iconst dX5_measure_0 ?_
  refine ZW.istore_n dX5_measure_1 (by decide) rfl ?_
  exact fill 63 0 g _ (by omega) (by omega) (zFr.rf _ _) (fun y y0 y1 => by omega)
theorem c_X5_reaches (g : ZH) {x : Int} (hx : 0 ≤ x ∧ x < 63) (hR : zR (g 97 x)) : ZC 0 mX5_reaches [.inr 96, .inl x] g (fun v g' => v = zB (decide (g 97 x ≠ 1000)) ∧ g' = g) := by
  refine ZC.of (by decide +kernel) (Nat.le_of_ble_eq_true rfl) ?_
  refine ZW.aload_n dX5_reaches_0 rfl ?_
  refine ZW.getR dX5_reaches_1 fl_X5_9 ⟨_, rfl, rfl⟩ ?_
  refine ZW.iload_n dX5_reaches_4 rfl ?_
  refine ZW.iald dX5_reaches_5 rfl (by decide) (by omega) rfl ?_
  refine ZW.sipush dX5_reaches_6 rfl ?_
  refine ZW.icmp_eq (tgt := 16) dX5_reaches_9 (by decide) (by first | omega | exact zB_R _) (by first | omega | exact zB_R _) (fun c9 => ?_) (fun c9 => ?_)
  · refine ZW.iconst dX5_reaches_16 ?_
    refine ZW.iretz dX5_reaches_17 rfl (by first | exact Or.inl rfl | exact Or.inr rfl | assumption | omega) ?_
    exact ⟨by rw [decide_eq_false (fun q => q c9)]; rfl, rfl⟩
  · refine ZW.iconst dX5_reaches_12 ?_
    refine ZW.goto (tgt := 17) dX5_reaches_13 (by decide) ?_
    refine ZW.iretz dX5_reaches_17 rfl (by first | exact Or.inl rfl | exact Or.inr rfl | assumption | omega) ?_
    exact ⟨by rw [decide_eq_true c9]; rfl, rfl⟩
