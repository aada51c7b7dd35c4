-- the board's distances, decided
def nAll (n : Nat) (p : Int → Bool) : Bool := (List.range n).all (fun i => p (i : Int))
theorem nAll_at {n : Nat} {p : Int → Bool} (h : nAll n p = true) {x : Int} (h0 : 0 ≤ x) (hx : x < n) : p x = true := by
  obtain ⟨m, rfl⟩ := Int.eq_ofNat_of_zero_le h0
  exact List.all_eq_true.mp h m (List.mem_range.mpr (by omega))
set_option maxRecDepth 100000 in
theorem ds_2 : nAll 63 (fun a => nAll 63 (fun x => nAll 6 (fun d => decide (nextF x d = -5 ∨ stepsF a (nextF x d) ≤ stepsF a x + 1)))) = true := by decide +kernel
set_option maxRecDepth 100000 in
theorem ds_3 : nAll 63 (fun a => nAll 63 (fun x => decide (a = x) || !(nAll 6 (fun d => !(decide (nextF x d ≠ -5 ∧ stepsF a (nextF x d) + 1 = stepsF a x)))))) = true := by decide +kernel
set_option maxRecDepth 100000 in
theorem ds_0 : nAll 63 (fun a => nAll 63 (fun x => decide ((stepsF a x = 0 ↔ a = x) ∧ 0 ≤ stepsF a x ∧ stepsF a x ≤ 12 ∧ stepsF a x = stepsF x a))) = true := by decide +kernel
set_option maxRecDepth 100000 in
theorem nx_s : nAll 63 (fun x => nAll 6 (fun d => decide (nextF x d = -5 ∨ nextF (nextF x d) ((d + 3) % 6) = x))) = true := by decide +kernel
theorem stepsF_2 {a x d : Int} (ha : 0 ≤ a ∧ a < 63) (hx : 0 ≤ x ∧ x < 63) (hd : 0 ≤ d ∧ d < 6) (h : nextF x d ≠ -5) : stepsF a (nextF x d) ≤ stepsF a x + 1 := by
  have h1 := of_decide_eq_true (nAll_at (nAll_at (nAll_at ds_2 ha.1 ha.2) hx.1 hx.2) hd.1 hd.2)
  exact h1.resolve_left h
theorem stepsF_3 {a x : Int} (ha : 0 ≤ a ∧ a < 63) (hx : 0 ≤ x ∧ x < 63) (h : a ≠ x) : ∃ d, 0 ≤ d ∧ d < 6 ∧ nextF x d ≠ -5 ∧ stepsF a (nextF x d) + 1 = stepsF a x := by
  have h1 := nAll_at (nAll_at ds_3 ha.1 ha.2) hx.1 hx.2
  rw [Bool.or_eq_true] at h1
  rcases h1 with h1 | h1
  · exact absurd (of_decide_eq_true h1) h
  · rw [Bool.not_eq_true'] at h1
    unfold nAll at h1
    rw [← Bool.not_eq_true, List.all_eq_true] at h1
    apply Classical.byContradiction
    intro hno
    apply h1
    intro m hm
    rw [Bool.not_eq_true', decide_eq_false_iff_not]
    intro q
    exact hno ⟨(m : Int), by omega, by have := List.mem_range.mp hm; omega, q.1, q.2⟩
theorem stepsF_0 {a x : Int} (ha : 0 ≤ a ∧ a < 63) (hx : 0 ≤ x ∧ x < 63) : (stepsF a x = 0 ↔ a = x) ∧ 0 ≤ stepsF a x ∧ stepsF a x ≤ 12 ∧ stepsF a x = stepsF x a := of_decide_eq_true (nAll_at (nAll_at ds_0 ha.1 ha.2) hx.1 hx.2)
theorem nextF_s {x d : Int} (hx : 0 ≤ x ∧ x < 63) (hd : 0 ≤ d ∧ d < 6) (h : nextF x d ≠ -5) : nextF (nextF x d) ((d + 3) % 6) = x := (of_decide_eq_true (nAll_at (nAll_at nx_s hx.1 hx.2) hd.1 hd.2)).resolve_left h
/-- what stands in the row of steps while the round R is under way -/
def bfsI (a R : Int) (f : Int → Int) : Prop := ∀ x, 0 ≤ x → x < 63 → (stepsF a x ≤ R → f x = stepsF a x) ∧ (stepsF a x = R + 1 → f x = R + 1 ∨ f x = 1000) ∧ (R + 1 < stepsF a x → f x = 1000)
def bfsP (a R hx hd : Int) (f : Int → Int) : Prop := ∀ x d, 0 ≤ x → x < 63 → 0 ≤ d → d < 6 → (x < hx ∨ (x = hx ∧ d < hd)) → stepsF a x = R → nextF x d ≠ -5 → f (nextF x d) ≠ 1000
theorem bfs_round {a R : Int} {f : Int → Int} (ha : 0 ≤ a ∧ a < 63) (hR : 0 ≤ R) (hI : bfsI a R f) (hP : bfsP a R 63 0 f) : bfsI a (R + 1) f ∧ bfsP a (R + 1) 0 0 f := by
  refine ⟨fun x h0 h1 => ?_, fun x d h0 h1 h2 h3 h4 => by omega⟩
  obtain ⟨q1, q2, q3⟩ := hI x h0 h1
  refine ⟨fun h => ?_, fun h => Or.inr (q3 (by omega)), fun h => q3 (by omega)⟩
  by_cases hc : stepsF a x ≤ R
  · exact q1 hc
  · have hq : stepsF a x = R + 1 := by omega
    rcases q2 hq with e | e
    · rw [e, hq]
    · exfalso
      obtain ⟨d, d0, d1, d2, d3⟩ := stepsF_3 ha ⟨h0, h1⟩ (fun q => by have := (stepsF_0 ha ⟨h0, h1⟩).1.mpr q; omega)
      have hr := (nextF_R (x := x) (d := d)).resolve_left d2
      have hs := nextF_s ⟨h0, h1⟩ ⟨d0, d1⟩ d2
      have h5 := hP (nextF x d) ((d + 3) % 6) hr.1 hr.2 (by omega) (by omega) (Or.inl hr.2) (by omega) (by rw [hs]; omega)
      rw [hs] at h5
      exact h5 e
theorem c_X8_laysDistances (g : ZH) {a : Int} (ha : 0 ≤ a ∧ a < 63) : ZC 2 mX8_laysDistances [.inr 100, .inl a] g (fun _ g' => zFr [108] g g' ∧ ∀ x, 0 ≤ x → x < 63 → g' 108 x = stepsF a x) := by
  refine ZC.of (by decide +kernel) (Nat.le_of_ble_eq_true rfl) ?_
  -- the innermost loop, over directions
  have loopD : ∀ (n : Nat) (d R x : Int) (g1 : ZH) (o5 : Option ZV), 0 ≤ d → d + n = 6 → 0 ≤ R → R < 63 → 0 ≤ x → x < 63 → zFr [108] g g1 → bfsI a R (g1 108) → bfsP a R x d (g1 108) → (∀ (g2 : ZH) (o4 o5 : Option ZV), zFr [108] g g2 → bfsI a R (g2 108) → bfsP a R (x + 1) 0 (g2 108) → ZW 2 mX8_laysDistances 112 [some (.inr 100), some (.inl a), some (.inl R), some (.inl x), o4, o5] [] g2 (fun _ g' => zFr [108] g g' ∧ ∀ x, 0 ≤ x → x < 63 → g' 108 x = stepsF a x)) → ZW 2 mX8_laysDistances 51 [some (.inr 100), some (.inl a), some (.inl R), some (.inl x), some (.inl d), o5] [] g1 (fun _ g' => zFr [108] g g' ∧ ∀ x, 0 ≤ x → x < 63 → g' 108 x = stepsF a x) := by
    intro n
    induction n with
    | zero =>
      intro d R x g1 o5 h0 hn hR hR2 hx hx2 hf hI hP k
      refine ZW.iload dX8_laysDistances_51 rfl ?_
      refine ZW.bipush dX8_laysDistances_53 rfl ?_
      refine ZW.icmp_ge (tgt := 112) dX8_laysDistances_55 (by decide) (by omega) (by omega) (fun c55 => ?_) (fun c55 => ?_)
      · refine k g1 _ _ hf hI (fun y e y0 y1 e0 e1 he => hP y e y0 y1 e0 e1 ?_)
        rcases he with he | he
        · by_cases q : y = x
          · exact Or.inr ⟨q, by omega⟩
          · exact Or.inl (by omega)
        · omega
      · exact absurd c55 (by omega)
    | succ n ih =>
      intro d R x g1 o5 h0 hn hR hR2 hx hx2 hf hI hP k
      have hIx := hI x hx hx2
      have hsx := stepsF_0 ha (x := x) ⟨hx, hx2⟩
      have hgx : zR (g1 108 x) ∧ (g1 108 x = R ↔ stepsF a x = R) := by
        by_cases q : stepsF a x ≤ R
        · rw [hIx.1 q]; omega
        · by_cases q2 : stepsF a x = R + 1
          · rcases hIx.2.1 q2 with e | e <;> rw [e] <;> omega
          · rw [hIx.2.2 (by omega)]; omega
      have hgR := hgx.1
      refine ZW.iload dX8_laysDistances_51 rfl ?_
      refine ZW.bipush dX8_laysDistances_53 rfl ?_
      refine ZW.icmp_ge (tgt := 112) dX8_laysDistances_55 (by decide) (by omega) (by omega) (fun c55 => ?_) (fun c55 => ?_)
      · exact absurd c55 (by omega)
      · refine ZW.aload_n dX8_laysDistances_58 rfl ?_
        refine ZW.getR dX8_laysDistances_59 fl_X8_32 ⟨_, rfl, rfl⟩ ?_
        refine ZW.iload_n dX8_laysDistances_62 rfl ?_
        refine ZW.iald dX8_laysDistances_63 rfl (by decide) (by omega) rfl ?_
        refine ZW.iload_n dX8_laysDistances_64 rfl ?_
        refine ZW.icmp_ne (tgt := 112) dX8_laysDistances_65 (by decide) (by omega) (by omega) (fun c65 => ?_) (fun c65 => ?_)
        · refine k g1 _ _ hf hI (fun y e y0 y1 e0 e1 he hy => ?_)
          by_cases q : y = x
          · subst q
            exact absurd (hgx.2.mpr hy) c65
          · exact hP y e y0 y1 e0 e1 (Or.inl (by omega)) hy
        · have hdx := hgx.2.mp c65
          have hnr := nextF_R' x d
          refine ZW.iload_n dX8_laysDistances_68 rfl ?_
          refine ZW.iload dX8_laysDistances_69 rfl ?_
          refine ZW.callS (as := [_, _]) dX8_laysDistances_71 cs_X8_59 rfl (by decide) (Nat.le_of_ble_eq_true rfl) rfl (c_X8_next _ ⟨hx, hx2⟩ (by omega)) (fun r1 g2 ⟨e1, e2⟩ => ?_)
          subst e1; subst e2
          refine ZW.istore dX8_laysDistances_74 (by decide) rfl ?_
          refine ZW.iload dX8_laysDistances_76 rfl ?_
          refine ZW.bipush dX8_laysDistances_78 rfl ?_
          refine ZW.icmp_eq (tgt := 106) dX8_laysDistances_80 (by decide) (by omega) (by omega) (fun c80 => ?_) (fun c80 => ?_)
          · refine ZW.iinc dX8_laysDistances_106 rfl (by decide) rfl ?_
            refine ZW.goto (tgt := 51) dX8_laysDistances_109 (by decide) ?_
            refine ih (d + 1) R x _ _ (by omega) (by omega) hR hR2 hx hx2 hf hI (fun y e y0 y1 e0 e1 he hy hne => ?_) k
            by_cases q : y = x ∧ e = d
            · rw [q.1, q.2] at hne
              exact absurd c80 hne
            · exact hP y e y0 y1 e0 e1 (by omega) hy hne
          · have hr := (nextF_R (x := x) (d := d)).resolve_left c80
            have h2 := stepsF_2 ha ⟨hx, hx2⟩ ⟨h0, by omega⟩ c80
            have hIo := hI (nextF x d) hr.1 hr.2
            have hgo : zR (g2 108 (nextF x d)) := by
              by_cases q : stepsF a (nextF x d) ≤ R
              · have := stepsF_0 ha (x := nextF x d) hr
                rw [hIo.1 q]; omega
              · rcases hIo.2.1 (by omega) with e | e <;> rw [e] <;> omega
            refine ZW.aload_n dX8_laysDistances_83 rfl ?_
            refine ZW.getR dX8_laysDistances_84 fl_X8_32 ⟨_, rfl, rfl⟩ ?_
            refine ZW.iload dX8_laysDistances_87 rfl ?_
            refine ZW.iald dX8_laysDistances_89 rfl (by decide) (by omega) rfl ?_
            refine ZW.sipush dX8_laysDistances_90 rfl ?_
            refine ZW.icmp_ne (tgt := 106) dX8_laysDistances_93 (by decide) (by omega) (by omega) (fun c93 => ?_) (fun c93 => ?_)
            · refine ZW.iinc dX8_laysDistances_106 rfl (by decide) rfl ?_
              refine ZW.goto (tgt := 51) dX8_laysDistances_109 (by decide) ?_
              refine ih (d + 1) R x _ _ (by omega) (by omega) hR hR2 hx hx2 hf hI (fun y e y0 y1 e0 e1 he hy hne => ?_) k
              by_cases q : y = x ∧ e = d
              · rw [q.1, q.2]
                exact c93
              · exact hP y e y0 y1 e0 e1 (by omega) hy hne
            · have hq : stepsF a (nextF x d) = R + 1 := by
                by_cases q : stepsF a (nextF x d) ≤ R
                · have := stepsF_0 ha (x := nextF x d) hr
                  have := hIo.1 q
                  omega
                · omega
              refine ZW.aload_n dX8_laysDistances_96 rfl ?_
              refine ZW.getR dX8_laysDistances_97 fl_X8_32 ⟨_, rfl, rfl⟩ ?_
              refine ZW.iload dX8_laysDistances_100 rfl ?_
              refine ZW.iload_n dX8_laysDistances_102 rfl ?_
              refine ZW.iconst dX8_laysDistances_103 ?_
              refine ZW.iadd dX8_laysDistances_104 ?_
              refine ZW.iast dX8_laysDistances_105 rfl (by decide) (by omega) ?_
              refine ZW.iinc dX8_laysDistances_106 rfl (by decide) rfl ?_
              refine ZW.goto (tgt := 51) dX8_laysDistances_109 (by decide) ?_
              refine ih (d + 1) R x _ _ (by omega) (by omega) hR hR2 hx hx2 (hf.set (by decide) _ _) (fun y y0 y1 => ?_) (fun y e y0 y1 e0 e1 he hy hne => ?_) k
              · rw [zSet_same]
                by_cases q : y = nextF x d
                · rw [q, zUp_same]
                  exact ⟨fun z => by omega, fun _ => Or.inl rfl, fun z => by omega⟩
                · rw [zUp_ne _ _ q]
                  exact hI y y0 y1
              · rw [zSet_same]
                by_cases q : nextF y e = nextF x d
                · rw [q, zUp_same]
                  omega
                · rw [zUp_ne _ _ q]
                  refine hP y e y0 y1 e0 e1 ?_ hy hne
                  by_cases q2 : y = x ∧ e = d
                  · exact absurd (by rw [q2.1, q2.2]) q
                  · omega
  have loopX : ∀ (n : Nat) (x R : Int) (g1 : ZH) (o4 o5 : Option ZV), 0 ≤ x → x + n = 63 → 0 ≤ R → R < 63 → zFr [108] g g1 → bfsI a R (g1 108) → bfsP a R x 0 (g1 108) → (∀ (g2 : ZH) (o4 o5 : Option ZV), zFr [108] g g2 → bfsI a (R + 1) (g2 108) → bfsP a (R + 1) 0 0 (g2 108) → ∀ o3 : Option ZV, ZW 2 mX8_laysDistances 118 [some (.inr 100), some (.inl a), some (.inl R), o3, o4, o5] [] g2 (fun _ g' => zFr [108] g g' ∧ ∀ x, 0 ≤ x → x < 63 → g' 108 x = stepsF a x)) → ZW 2 mX8_laysDistances 42 [some (.inr 100), some (.inl a), some (.inl R), some (.inl x), o4, o5] [] g1 (fun _ g' => zFr [108] g g' ∧ ∀ x, 0 ≤ x → x < 63 → g' 108 x = stepsF a x) := by
    intro n
    induction n with
    | zero =>
      intro x R g1 o4 o5 hx hn hR hR2 hf hI hP k
      refine ZW.iload_n dX8_laysDistances_42 rfl ?_
      refine ZW.bipush dX8_laysDistances_43 rfl ?_
      refine ZW.icmp_ge (tgt := 118) dX8_laysDistances_45 (by decide) (by omega) (by omega) (fun c45 => ?_) (fun c45 => ?_)
      · have e : x = 63 := by omega
        subst e
        have h1 := bfs_round ha hR hI hP
        exact k g1 _ _ hf h1.1 h1.2 _
      · exact absurd c45 (by omega)
    | succ n ih =>
      intro x R g1 o4 o5 hx hn hR hR2 hf hI hP k
      refine ZW.iload_n dX8_laysDistances_42 rfl ?_
      refine ZW.bipush dX8_laysDistances_43 rfl ?_
      refine ZW.icmp_ge (tgt := 118) dX8_laysDistances_45 (by decide) (by omega) (by omega) (fun c45 => ?_) (fun c45 => ?_)
      · exact absurd c45 (by omega)
      · refine ZW.iconst dX8_laysDistances_48 ?_
        refine ZW.istore dX8_laysDistances_49 (by decide) rfl ?_
        refine loopD 6 0 R x g1 _ (by omega) (by omega) hR hR2 hx (by omega) hf hI hP (fun g2 p4 p5 hf2 hI2 hP2 => ?_)
        refine ZW.iinc dX8_laysDistances_112 rfl (by decide) rfl ?_
        refine ZW.goto (tgt := 42) dX8_laysDistances_115 (by decide) ?_
        exact ih (x + 1) R g2 _ _ (by omega) (by omega) hR hR2 hf2 hI2 hP2 k
  have loopR : ∀ (n : Nat) (R : Int) (g1 : ZH) (o3 o4 o5 : Option ZV), 0 ≤ R → R + n = 63 → zFr [108] g g1 → bfsI a R (g1 108) → bfsP a R 0 0 (g1 108) → ZW 2 mX8_laysDistances 34 [some (.inr 100), some (.inl a), some (.inl R), o3, o4, o5] [] g1 (fun _ g' => zFr [108] g g' ∧ ∀ x, 0 ≤ x → x < 63 → g' 108 x = stepsF a x) := by
    intro n
    induction n with
    | zero =>
      intro R g1 o3 o4 o5 hR hn hf hI hP
      refine ZW.iload_n dX8_laysDistances_34 rfl ?_
      refine ZW.bipush dX8_laysDistances_35 rfl ?_
      refine ZW.icmp_ge (tgt := 124) dX8_laysDistances_37 (by decide) (by omega) (by omega) (fun c37 => ?_) (fun c37 => ?_)
      · refine ZW.vret dX8_laysDistances_124 rfl ?_
        refine ⟨hf, fun x h0 h1 => (hI x h0 h1).1 ?_⟩
        have := stepsF_0 ha (x := x) ⟨h0, h1⟩
        omega
      · exact absurd c37 (by omega)
    | succ n ih =>
      intro R g1 o3 o4 o5 hR hn hf hI hP
      refine ZW.iload_n dX8_laysDistances_34 rfl ?_
      refine ZW.bipush dX8_laysDistances_35 rfl ?_
      refine ZW.icmp_ge (tgt := 124) dX8_laysDistances_37 (by decide) (by omega) (by omega) (fun c37 => ?_) (fun c37 => ?_)
      · exact absurd c37 (by omega)
      · refine ZW.iconst dX8_laysDistances_40 ?_
        refine ZW.istore_n dX8_laysDistances_41 (by decide) rfl ?_
        refine loopX 63 0 R g1 _ _ (by omega) (by omega) hR (by omega) hf hI hP (fun g2 p4 p5 hf2 hI2 hP2 p3 => ?_)
        refine ZW.iinc dX8_laysDistances_118 rfl (by decide) rfl ?_
        refine ZW.goto (tgt := 34) dX8_laysDistances_121 (by decide) ?_
        exact ih (R + 1) g2 _ _ _ (by omega) (by omega) hf2 hI2 hP2
  have fill : ∀ (n : Nat) (x : Int) (g1 : ZH) (o3 o4 o5 : Option ZV), 0 ≤ x → x + n = 63 → zFr [108] g g1 → (∀ y, 0 ≤ y → y < x → g1 108 y = if y = a then 0 else 1000) → ZW 2 mX8_laysDistances 2 [some (.inr 100), some (.inl a), some (.inl x), o3, o4, o5] [] g1 (fun _ g' => zFr [108] g g' ∧ ∀ x, 0 ≤ x → x < 63 → g' 108 x = stepsF a x) := by
    intro n
    induction n with
    | zero =>
      intro x g1 o3 o4 o5 hx hn hf hz
      refine ZW.iload_n dX8_laysDistances_2 rfl ?_
      refine ZW.bipush dX8_laysDistances_3 rfl ?_
      refine ZW.icmp_ge (tgt := 32) dX8_laysDistances_5 (by decide) (by omega) (by omega) (fun c5 => ?_) (fun c5 => ?_)
      · refine ZW.iconst dX8_laysDistances_32 ?_
        refine ZW.istore_n dX8_laysDistances_33 (by decide) rfl ?_
        refine loopR 63 0 g1 _ _ _ (by omega) (by omega) hf (fun y y0 y1 => ?_) (fun y e y0 y1 e0 e1 he => by omega)
        rw [hz y y0 (by omega)]
        have h1 := stepsF_0 ha (x := y) ⟨y0, y1⟩
        by_cases q : y = a
        · rw [if_pos q]
          have := h1.1.mpr q.symm
          omega
        · rw [if_neg q]
          have : stepsF a y ≠ 0 := fun z => q (h1.1.mp z).symm
          omega
      · exact absurd c5 (by omega)
    | succ n ih =>
      intro x g1 o3 o4 o5 hx hn hf hz
      refine ZW.iload_n dX8_laysDistances_2 rfl ?_
      refine ZW.bipush dX8_laysDistances_3 rfl ?_
      refine ZW.icmp_ge (tgt := 32) dX8_laysDistances_5 (by decide) (by omega) (by omega) (fun c5 => ?_) (fun c5 => ?_)
      · exact absurd c5 (by omega)
      · refine ZW.aload_n dX8_laysDistances_8 rfl ?_
        refine ZW.getR dX8_laysDistances_9 fl_X8_32 ⟨_, rfl, rfl⟩ ?_
        refine ZW.iload_n dX8_laysDistances_12 rfl ?_
        refine ZW.iload_n dX8_laysDistances_13 rfl ?_
        refine ZW.iload_n dX8_laysDistances_14 rfl ?_
        refine ZW.icmp_ne (tgt := 22) dX8_laysDistances_15 (by decide) (by omega) (by omega) (fun c15 => ?_) (fun c15 => ?_)
        · refine ZW.sipush dX8_laysDistances_22 rfl ?_
          refine ZW.iast dX8_laysDistances_25 rfl (by decide) (by omega) ?_
          refine ZW.iinc dX8_laysDistances_26 rfl (by decide) rfl ?_
          refine ZW.goto (tgt := 2) dX8_laysDistances_29 (by decide) ?_
          refine ih (x + 1) _ _ _ _ (by omega) (by omega) (hf.set (by decide) _ _) (fun y y0 y1 => ?_)
          rw [zSet_same]
          by_cases q : y = x
          · rw [q, zUp_same, if_neg c15]
          · rw [zUp_ne _ _ q]; exact hz y y0 (by omega)
        · refine ZW.iconst dX8_laysDistances_18 ?_
          refine ZW.goto (tgt := 25) dX8_laysDistances_19 (by decide) ?_
          refine ZW.iast dX8_laysDistances_25 rfl (by decide) (by omega) ?_
          refine ZW.iinc dX8_laysDistances_26 rfl (by decide) rfl ?_
          refine ZW.goto (tgt := 2) dX8_laysDistances_29 (by decide) ?_
          refine ih (x + 1) _ _ _ _ (by omega) (by omega) (hf.set (by decide) _ _) (fun y y0 y1 => ?_)
          rw [zSet_same]
          by_cases q : y = x
          · rw [q, zUp_same, if_pos c15]
          · rw [zUp_ne _ _ q]; exact hz y y0 (by omega)
  refine ZW.iconst dX8_laysDistances_0 ?_
  refine ZW.istore_n dX8_laysDistances_1 (by decide) rfl ?_
  exact fill 63 0 g _ _ _ (by omega) (by omega) (zFr.rf _ _) (fun y y0 y1 => by omega)
