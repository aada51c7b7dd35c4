-- ways: the class lays the costs by steps of one point
theorem c_J7_fill (g : ZH) {v : Int} : ZC 0 mJ7_fill_53178 [.inr 95, .inl v] g (fun _ g' => zFr [95] g g' ∧ ∀ x, 0 ≤ x → x < 63 → g' 95 x = v) := by
  refine ZC.of (by decide +kernel) (Nat.le_of_ble_eq_true rfl) ?_
  have loop : ∀ (n : Nat) (x : Int) (g1 : ZH), 0 ≤ x → x + n = 63 → zFr [95] g g1 → (∀ y, 0 ≤ y → y < x → g1 95 y = v) → ZW 0 mJ7_fill_53178 5 [some (.inr 95), some (.inl v), some (.inl x), some (.inl 63)] [] g1 (fun _ g' => zFr [95] g g' ∧ ∀ x, 0 ≤ x → x < 63 → g' 95 x = v) := by
    intro n
    induction n with
    | zero =>
      intro x g1 h0 hn hf hz
      refine ZW.iload_n dJ7_fill_53178_5 rfl ?_
      refine ZW.iload_n dJ7_fill_53178_6 rfl ?_
      refine ZW.icmp_ge (tgt := 20) dJ7_fill_53178_7 (by decide) (by first | omega | exact zB_R _) (by first | omega | exact zB_R _) (fun c7 => ?_) (fun c7 => ?_)
      · refine ZW.vret dJ7_fill_53178_20 rfl ?_
        exact ⟨hf, fun y y0 y1 => hz y y0 (by omega)⟩
      · exact absurd c7 (by omega)
    | succ n ih =>
      intro x g1 h0 hn hf hz
      refine ZW.iload_n dJ7_fill_53178_5 rfl ?_
      refine ZW.iload_n dJ7_fill_53178_6 rfl ?_
      refine ZW.icmp_ge (tgt := 20) dJ7_fill_53178_7 (by decide) (by first | omega | exact zB_R _) (by first | omega | exact zB_R _) (fun c7 => ?_) (fun c7 => ?_)
      · exact absurd c7 (by omega)
      · refine ZW.aload_n dJ7_fill_53178_10 rfl ?_
        refine ZW.iload_n dJ7_fill_53178_11 rfl ?_
        refine ZW.iload_n dJ7_fill_53178_12 rfl ?_
        refine ZW.iast dJ7_fill_53178_13 rfl (by decide) (by omega) ?_
        refine ZW.iinc dJ7_fill_53178_14 rfl (by decide) rfl ?_
        refine ZW.goto (tgt := 5) dJ7_fill_53178_17 (by decide) ?_
        refine ih (x + 1) _ (by omega) (by omega) (hf.set (by decide) _ _) (fun y y0 y1 => ?_)
        rw [zSet_same]
        by_cases q : y = x
        · rw [q, zUp_same]
        · rw [zUp_ne _ _ q]; exact hz y y0 (by omega)
  refine ZW.iconst dJ7_fill_53178_0 ?_
  refine ZW.istore_n dJ7_fill_53178_1 (by decide) rfl ?_
  refine ZW.aload_n dJ7_fill_53178_2 rfl ?_
  refine ZW.alen dJ7_fill_53178_3 rfl rfl ?_
  refine ZW.istore_n dJ7_fill_53178_4 (by decide) rfl ?_
  exact loop 63 0 g (by omega) (by omega) (zFr.rf _ _) (fun y y0 y1 => by omega)
theorem c_X6_costOfStep (g : ZH) {r : Int → Int} (hA : okA r) (hS : StN g r) {x d y : Int} (hx : 0 ≤ x ∧ x < 63) (hd : 0 ≤ d ∧ d < 6) (hy : 0 ≤ y ∧ y < 63) : ZC 1 mX6_costOfStep [.inr 3, .inl x, .inl d, .inl y] g (fun v g' => v = stepC r x d y ∧ g' = g) := by
  have hY := (st_x hS hy).1
  have hgy := hA.1.1.1 y (by omega) (by omega)
  refine ZC.of (by decide +kernel) (Nat.le_of_ble_eq_true rfl) ?_
  have tail : ∀ v : Int, v = (if r y = 0 then 1 else 2) → ZW 1 mX6_costOfStep 14 [some (.inr 3), some (.inl x), some (.inl d), some (.inl y), none] [.inl v] g (fun v g' => v = stepC r x d y ∧ g' = g) := by
    intro v hv
    refine ZW.istore dX6_costOfStep_14 (by decide) rfl ?_
    refine ZW.aload_n dX6_costOfStep_16 rfl ?_
    refine ZW.iload_n dX6_costOfStep_17 rfl ?_
    refine ZW.iload_n dX6_costOfStep_18 rfl ?_
    refine ZW.callV (as := [_, _]) dX6_costOfStep_19 cv_X6_62 ⟨_, rfl⟩ rfl (by decide) (Nat.le_of_ble_eq_true rfl) rfl (c_X4_hasRiver _ hA hS hx hd) (fun v1 g1 ⟨q1, q2⟩ => ?_)
    subst q1; subst q2
    refine ZW.if_eq (tgt := 32) dX6_costOfStep_22 (by decide) (by first | omega | exact zB_R _) (fun c22 => ?_) (fun c22 => ?_)
    · have e := zB_eq c22
      refine ZW.iload dX6_costOfStep_32 rfl ?_
      refine ZW.ireti dX6_costOfStep_34 rfl ?_
      exact ⟨by unfold stepC; rw [e, ← hv, zB_f]; omega, rfl⟩
    · have e := zB_ne c22
      refine ZW.iload dX6_costOfStep_25 rfl ?_
      refine ZW.iconst dX6_costOfStep_27 ?_
      refine ZW.iadd dX6_costOfStep_28 ?_
      refine ZW.goto (tgt := 34) dX6_costOfStep_29 (by decide) ?_
      refine ZW.ireti dX6_costOfStep_34 rfl ?_
      exact ⟨by unfold stepC; rw [e, ← hv, zB_t], rfl⟩
  refine ZW.aload_n dX6_costOfStep_0 rfl ?_
  refine ZW.getR dX6_costOfStep_1 fl_X6_59 ⟨_, rfl, rfl⟩ ?_
  refine ZW.iload_n dX6_costOfStep_4 rfl ?_
  refine ZW.iald dX6_costOfStep_5 rfl (by decide) (by omega) rfl ?_
  rw [hY]
  refine ZW.if_ne (tgt := 13) dX6_costOfStep_6 (by decide) (by first | omega | exact zB_R _) (fun c6 => ?_) (fun c6 => ?_)
  · refine ZW.iconst dX6_costOfStep_13 ?_
    exact tail 2 (by rw [if_neg c6])
  · refine ZW.iconst dX6_costOfStep_9 ?_
    refine ZW.goto (tgt := 14) dX6_costOfStep_10 (by decide) ?_
    exact tail 1 (by rw [if_pos c6])
def cwJ (r : Int → Int) (u : Int) (f : Int → Int) (s hx hd : Int) : Prop :=
  f (ofF r u 2) = 0 ∧ (∀ x, 0 ≤ x → x < 63 → f x = 1000 ∨ (0 ≤ f x ∧ f x ≤ ofF r u 3)) ∧ (∀ y, 0 ≤ y → y < 63 → y ≠ ofF r u 2 → f y ≠ 1000 → ∃ x d, edgeP r u x d y ∧ f x ≤ s ∧ f y = f x + stepC r x d y) ∧ (∀ x d y, edgeP r u x d y → (f x < s ∨ (f x = s ∧ (x < hx ∨ (x = hx ∧ d < hd)))) → f x + stepC r x d y ≤ ofF r u 3 → f y ≤ f x + stepC r x d y)
theorem cwJ_skip {r : Int → Int} {u : Int} {f : Int → Int} {s hx hd : Int} (h : cwJ r u f s hx hd) (hk : ∀ y, edgeP r u hx hd y → f hx = s → s + stepC r hx hd y ≤ ofF r u 3 → f y ≤ s + stepC r hx hd y) : cwJ r u f s hx (hd + 1) := by
  refine ⟨h.1, h.2.1, h.2.2.1, fun x d y he hor hle => ?_⟩
  by_cases q : x = hx ∧ d = hd ∧ f x = s
  · obtain ⟨rfl, rfl, q3⟩ := q
    rw [q3] at hle ⊢
    exact hk y he q3 hle
  · exact h.2.2.2 x d y he (by omega) hle
theorem cwJ_next {r : Int → Int} {u : Int} {f : Int → Int} {s hx hd : Int} (h : cwJ r u f s hx hd) (hk : f hx = s → ∀ d y, edgeP r u hx d y → d < hd) : cwJ r u f s (hx + 1) 0 := by
  refine ⟨h.1, h.2.1, h.2.2.1, fun x d y he hor hle => h.2.2.2 x d y he ?_ hle⟩
  have h3 := he.2.2.1
  rcases hor with q | ⟨q1, q2⟩
  · exact Or.inl q
  · refine Or.inr ⟨q1, ?_⟩
    by_cases q3 : x = hx
    · subst q3
      exact Or.inr ⟨rfl, hk q1 d y he⟩
    · omega
theorem cwJ_up {r : Int → Int} {u : Int} {f : Int → Int} {s hx hd y : Int} (h : cwJ r u f s hx hd) (hs : 0 ≤ s) (he : edgeP r u hx hd y) (hf : f hx = s) (hP : s + stepC r hx hd y ≤ ofF r u 3) (hlt : s + stepC r hx hd y < f y) : cwJ r u (zUp f y (s + stepC r hx hd y)) s hx (hd + 1) := by
  have hc := stepC_R r hx hd y
  have hy : y ≠ hx := fun q => absurd (congrArg f q) (by omega)
  have hfr : y ≠ ofF r u 2 := fun q => absurd (congrArg f q) (by rw [h.1]; omega)
  have low : ∀ x, f x ≤ s → x ≠ y := fun x hx2 q => by rw [q] at hx2; omega
  refine ⟨by rw [zUp_ne _ _ (fun q => hfr q.symm)]; exact h.1, fun x x0 x1 => ?_, fun z z0 z1 zn zf => ?_, fun x d z hed hor hle => ?_⟩
  · by_cases q : x = y
    · rw [q, zUp_same]; exact Or.inr ⟨by omega, hP⟩
    · rw [zUp_ne _ _ q]; exact h.2.1 x x0 x1
  · by_cases q : z = y
    · subst q
      exact ⟨hx, hd, he, by rw [zUp_ne _ _ (fun q => hy q.symm)]; omega, by rw [zUp_same, zUp_ne _ _ (fun q => hy q.symm), hf]⟩
    · rw [zUp_ne _ _ q] at zf ⊢
      obtain ⟨x, d, e1, e2, e3⟩ := h.2.2.1 z z0 z1 zn zf
      exact ⟨x, d, e1, by rw [zUp_ne _ _ (low x e2)]; exact e2, by rw [zUp_ne _ _ (low x e2)]; exact e3⟩
  · have hxy : x ≠ y := fun q => by rw [q, zUp_same] at hor; omega
    rw [zUp_ne _ _ hxy] at hor hle ⊢
    by_cases q : z = y
    · rw [q, zUp_same]
      by_cases q2 : x = hx ∧ d = hd
      · rw [q2.1, q2.2, hf]; exact Int.le_refl _
      · have := h.2.2.2 x d z hed (by omega) hle
        rw [q] at this
        omega
    · rw [zUp_ne _ _ q]
      refine h.2.2.2 x d z hed ?_ hle
      by_cases q2 : x = hx ∧ d = hd
      · exact absurd (by rw [← hed.2.2.2.2.1, ← he.2.2.2.2.1, q2.1, q2.2]) q
      · omega
theorem c_X6_goOn (g : ZH) {r : Int → Int} (hA : okA r) (hS : StN g r) (hb : BdN g) {u s x : Int} (hu : 0 ≤ u ∧ u < r 192) (hul : 0 < ofF r u 1) (hx : 0 ≤ x ∧ x < 63) (hs : 0 ≤ s ∧ s < 1000) (hI : cwJ r u (g 95) s x 0) (hgx : g 95 x = s) (hgo : goB r u x = true) : ZC 2 mX6_goOn [.inr 94, .inr 3, .inl u, .inl x] g (fun _ g' => zFr [95] g g' ∧ cwJ r u (g' 95) s (x + 1) 0) := by
  have h16 := hA.1.1.2
  have hU := hA.1.2.1 u hu.1 (by omega)
  have hP := ofF_R hA.1.1 (u := u) (w := 3) (by omega) (by decide)
  refine ZC.of (by decide +kernel) (Nat.le_of_ble_eq_true rfl) ?_
  have loop : ∀ (n : Nat) (d : Int) (g1 : ZH) (o5 o6 : Option ZV), 0 ≤ d → d + n = 6 → zFr [95] g g1 → g1 95 x = s → cwJ r u (g1 95) s x d → ZW 2 mX6_goOn 3 [some (.inr 94), some (.inr 3), some (.inl u), some (.inl x), some (.inl d), o5, o6] [] g1 (fun _ g' => zFr [95] g g' ∧ cwJ r u (g' 95) s (x + 1) 0) := by
    intro n
    induction n with
    | zero =>
      intro d g1 o5 o6 h0 hn hf hx1 hI1
      refine ZW.iload dX6_goOn_3 rfl ?_
      refine ZW.bipush dX6_goOn_5 rfl ?_
      refine ZW.icmp_ge (tgt := 111) dX6_goOn_7 (by decide) (by first | omega | exact zB_R _) (by first | omega | exact zB_R _) (fun c7 => ?_) (fun c7 => ?_)
      · refine ZW.vret dX6_goOn_111 rfl ?_
        exact ⟨hf, cwJ_next hI1 (fun _ d2 y he => by have := he.2.2.2.1; omega)⟩
      · exact absurd c7 (by omega)
    | succ n ih =>
      intro d g1 o5 o6 h0 hn hf hx1 hI1
      have hS1 := hS.fr hf (by decide)
      have h1 := (hb.fr hf (by decide)) x d hx.1 hx.2 h0 (by omega)
      have h2 := nbF_R x d
      have hst := st_u hS1 hu.1 hu.2
      have next : (∀ y, edgeP r u x d y → s + stepC r x d y ≤ ofF r u 3 → g1 95 y ≤ s + stepC r x d y) → ∀ o5 o6 : Option ZV, ZW 2 mX6_goOn 105 [some (.inr 94), some (.inr 3), some (.inl u), some (.inl x), some (.inl d), o5, o6] [] g1 (fun _ g' => zFr [95] g g' ∧ cwJ r u (g' 95) s (x + 1) 0) := by
        intro hne o5 o6
        refine ZW.iinc dX6_goOn_105 rfl (by decide) rfl ?_
        refine ZW.goto (tgt := 3) dX6_goOn_108 (by decide) ?_
        exact ih (d + 1) g1 _ _ (by omega) (by omega) hf hx1 (cwJ_skip hI1 (fun y he _ => hne y he))
      refine ZW.iload dX6_goOn_3 rfl ?_
      refine ZW.bipush dX6_goOn_5 rfl ?_
      refine ZW.icmp_ge (tgt := 111) dX6_goOn_7 (by decide) (by first | omega | exact zB_R _) (by first | omega | exact zB_R _) (fun c7 => ?_) (fun c7 => ?_)
      · exact absurd c7 (by omega)
      · refine ZW.aload_n dX6_goOn_10 rfl ?_
        refine ZW.getR dX6_goOn_11 fl_X6_15 ⟨_, rfl, rfl⟩ ?_
        refine ZW.getR dX6_goOn_14 fl_X6_44 ⟨_, rfl, rfl⟩ ?_
        refine ZW.iload_n dX6_goOn_17 rfl ?_
        refine ZW.bipush dX6_goOn_18 rfl ?_
        refine ZW.imul dX6_goOn_20 ?_
        refine ZW.iload dX6_goOn_21 rfl ?_
        refine ZW.iadd dX6_goOn_23 ?_
        refine ZW.iald dX6_goOn_24 rfl (by decide) (by omega) rfl ?_
        rw [h1]
        refine ZW.istore dX6_goOn_25 (by decide) rfl ?_
        refine ZW.iload dX6_goOn_27 rfl ?_
        refine ZW.callS (as := [_]) dX6_goOn_29 cs_X6_47 rfl (by decide) (Nat.le_of_ble_eq_true rfl) rfl (c_X0_isHex _ (by omega)) (fun v1 g2 ⟨q1, q2⟩ => ?_)
        subst q1; subst q2
        rw [nbF_hex]
        refine ZW.if_eq (tgt := 105) dX6_goOn_32 (by decide) (by first | omega | exact zB_R _) (fun c32 => ?_) (fun c32 => ?_)
        · have e := of_decide_eq_false (zB_eq c32)
          exact next (fun y he => absurd (fun q => he.2.2.2.2.2.1 (he.2.2.2.2.1.symm.trans q)) e) _ _
        · have e := of_decide_eq_true (zB_ne c32)
          have hr := (nextF_R (x := x) (d := d)).resolve_left e
          have hnb : nbF x d = nextF x d := by unfold nbF; rw [if_neg e]
          have hsd := sdF_R hA (nextF x d)
          rw [hnb]
          refine ZW.aload_n dX6_goOn_35 rfl ?_
          refine ZW.iload dX6_goOn_36 rfl ?_
          refine ZW.callV (as := [_]) dX6_goOn_38 cv_X6_51 ⟨_, rfl⟩ rfl (by decide) (Nat.le_of_ble_eq_true rfl) rfl (c_X4_sideOn _ hA hS1 hr) (fun v1 g3 ⟨q1, q2⟩ => ?_)
          subst q1; subst q2
          refine ZW.iconst dX6_goOn_41 ?_
          refine ZW.aload_n dX6_goOn_42 rfl ?_
          refine ZW.getR dX6_goOn_43 fl_X6_24 ⟨_, rfl, rfl⟩ ?_
          refine ZW.iload_n dX6_goOn_46 rfl ?_
          refine ZW.iald dX6_goOn_47 rfl (by decide) (by omega) rfl ?_
          rw [hst.1]
          refine ZW.isub dX6_goOn_48 ?_
          refine ZW.icmp_ne (tgt := 55) dX6_goOn_49 (by decide) (by first | omega | exact zB_R _) (by first | omega | exact zB_R _) (fun c49 => ?_) (fun c49 => ?_)
          · have hent : entB r u (nextF x d) = true := by unfold entB; rw [isOnB_sd (by omega), decide_eq_false c49]; rfl
            have hed : edgeP r u x d (nextF x d) := ⟨hx.1, hx.2, h0, by omega, rfl, e, hgo, hent⟩
            have hc := stepC_R r x d (nextF x d)
            have hfo := hI1.2.1 (nextF x d) hr.1 hr.2
            have hP2 := (hst.2.2.2.2 hul).1
            refine ZW.aload_n dX6_goOn_55 rfl ?_
            refine ZW.getR dX6_goOn_56 fl_X6_9 ⟨_, rfl, rfl⟩ ?_
            refine ZW.iload_n dX6_goOn_59 rfl ?_
            refine ZW.iald dX6_goOn_60 rfl (by decide) (by omega) rfl ?_
            rw [hx1]
            refine ZW.aload_n dX6_goOn_61 rfl ?_
            refine ZW.iload_n dX6_goOn_62 rfl ?_
            refine ZW.iload dX6_goOn_63 rfl ?_
            refine ZW.iload dX6_goOn_65 rfl ?_
            refine ZW.callS (as := [_, _, _, _]) dX6_goOn_67 cs_X6_55 rfl (by decide) (Nat.le_of_ble_eq_true rfl) rfl (c_X6_costOfStep _ hA hS1 hx (by omega) hr) (fun v1 g4 ⟨q1, q2⟩ => ?_)
            subst q1; subst q2
            refine ZW.iadd dX6_goOn_70 ?_
            refine ZW.istore dX6_goOn_71 (by decide) rfl ?_
            refine ZW.iload dX6_goOn_73 rfl ?_
            refine ZW.aload_n dX6_goOn_75 rfl ?_
            refine ZW.getR dX6_goOn_76 fl_X6_33 ⟨_, rfl, rfl⟩ ?_
            refine ZW.iload_n dX6_goOn_79 rfl ?_
            refine ZW.iald dX6_goOn_80 rfl (by decide) (by omega) rfl ?_
            rw [hP2]
            refine ZW.icmp_gt (tgt := 105) dX6_goOn_81 (by decide) (by first | omega | exact zB_R _) (by first | omega | exact zB_R _) (fun c81 => ?_) (fun c81 => ?_)
            · refine next (fun y he hle => ?_) _ _
              rw [← he.2.2.2.2.1] at hle
              omega
            · refine ZW.iload dX6_goOn_84 rfl ?_
              refine ZW.aload_n dX6_goOn_86 rfl ?_
              refine ZW.getR dX6_goOn_87 fl_X6_9 ⟨_, rfl, rfl⟩ ?_
              refine ZW.iload dX6_goOn_90 rfl ?_
              refine ZW.iald dX6_goOn_92 rfl (by decide) (by omega) rfl ?_
              refine ZW.icmp_ge (tgt := 105) dX6_goOn_93 (by decide) (by first | omega | exact zB_R _) (by first | omega | exact zB_R _) (fun c93 => ?_) (fun c93 => ?_)
              · refine next (fun y he hle => ?_) _ _
                rw [← he.2.2.2.2.1]
                exact c93
              · have hlt2 : x ≠ nextF x d := fun q => by
                  have e : g4 95 (nextF x d) = g4 95 x := by rw [← q]
                  omega
                refine ZW.aload_n dX6_goOn_96 rfl ?_
                refine ZW.getR dX6_goOn_97 fl_X6_9 ⟨_, rfl, rfl⟩ ?_
                refine ZW.iload dX6_goOn_100 rfl ?_
                refine ZW.iload dX6_goOn_102 rfl ?_
                refine ZW.iast dX6_goOn_104 rfl (by decide) (by omega) ?_
                refine ZW.iinc dX6_goOn_105 rfl (by decide) rfl ?_
                refine ZW.goto (tgt := 3) dX6_goOn_108 (by decide) ?_
                refine ih (d + 1) _ _ _ (by omega) (by omega) (hf.set (by decide) _ _) ?_ ?_
                · rw [zSet_same, zUp_ne _ _ (fun q => hlt2 q)]
                  exact hx1
                · rw [zSet_same]
                  exact cwJ_up hI1 hs.1 hed hx1 c81 c93
          · refine ZW.goto (tgt := 105) dX6_goOn_52 (by decide) ?_
            refine next (fun y he hle => ?_) _ _
            have h8 := he.2.2.2.2.2.2.2
            rw [← he.2.2.2.2.1] at h8
            unfold entB at h8
            rw [isOnB_sd (by omega), decide_eq_true c49] at h8
            cases h8
  refine ZW.iconst dX6_goOn_0 ?_
  refine ZW.istore dX6_goOn_1 (by decide) rfl ?_
  exact loop 6 0 g _ _ (by omega) (by omega) (zFr.rf _ _) hgx hI
noncomputable def wyC (r : Int → Int) (u x : Int) : Int := if wayF r u x ≤ ofF r u 3 then wayF r u x else 1000
theorem wyC_of {r : Int → Int} (hA : okA r) {u : Int} (hu : 0 ≤ u ∧ u < 16) {f : Int → Int} (h : wayP r u (ofF r u 3) f) {x : Int} (h0 : 0 ≤ x) (h1 : x < 63) : f x = wyC r u x := by
  have hU := hA.1.2.1 u hu.1 hu.2
  have hP := ofF_R hA.1.1 hu (w := 3) (by decide)
  have h2 := wayP_eq h (wayF_P r u hU.2) (by omega) (by decide) h0 h1
  unfold wyC
  split
  · next q => exact h2.1 q
  · next q =>
    rcases h.2.1 x h0 h1 with e | e
    · exact e
    · exfalso
      have := h2.2 (by omega)
      omega
set_option maxRecDepth 100000 in
set_option maxHeartbeats 1000000 in
theorem c_X6_measure (g : ZH) {r : Int → Int} (hA : okA r) (hS : StN g r) (hb : BdN g) {u : Int} (hu : 0 ≤ u ∧ u < r 192) (hul : 0 < ofF r u 1) : ZC 3 mX6_measure [.inr 94, .inr 3, .inl u] g (fun _ g' => zFr [95] g g' ∧ ∀ x, 0 ≤ x → x < 63 → g' 95 x = wyC r u x) := by
  have h16 := hA.1.1.2
  have hu16 : 0 ≤ u ∧ u < 16 := by omega
  have hU := hA.1.2.1 u hu.1 (by omega)
  have hP := ofF_R hA.1.1 hu16 (w := 3) (by decide)
  have hst0 := st_u hS hu.1 hu.2
  refine ZC.of (by decide +kernel) (Nat.le_of_ble_eq_true rfl) ?_
  have loopX : ∀ (n : Nat) (x s : Int) (g1 : ZH), 0 ≤ x → x + n = 63 → 0 ≤ s → s < ofF r u 3 → zFr [95] g g1 → cwJ r u (g1 95) s x 0 → (∀ (g2 : ZH) (o6 : Option ZV), zFr [95] g g2 → cwJ r u (g2 95) (s + 1) 0 0 → ZW 3 mX6_measure 101 [some (.inr 94), some (.inr 3), some (.inl u), some (.inl (ofF r u 2)), some (.inl (1 - ofF r u 0)), some (.inl s), o6] [] g2 (fun _ g' => zFr [95] g g' ∧ ∀ x, 0 ≤ x → x < 63 → g' 95 x = wyC r u x)) → ZW 3 mX6_measure 51 [some (.inr 94), some (.inr 3), some (.inl u), some (.inl (ofF r u 2)), some (.inl (1 - ofF r u 0)), some (.inl s), some (.inl x)] [] g1 (fun _ g' => zFr [95] g g' ∧ ∀ x, 0 ≤ x → x < 63 → g' 95 x = wyC r u x) := by
    intro n
    induction n with
    | zero =>
      intro x s g1 hx hn s0 s1 hf hI k
      have hx63 : x = 63 := by omega
      subst hx63
      refine ZW.iload dX6_measure_51 rfl ?_
      refine ZW.bipush dX6_measure_53 rfl ?_
      refine ZW.icmp_ge (tgt := 101) dX6_measure_55 (by decide) (by first | omega | exact zB_R _) (by first | omega | exact zB_R _) (fun c55 => ?_) (fun c55 => ?_)
      · refine k g1 _ hf ⟨hI.1, hI.2.1, fun y y0 y1 yn yf => ?_, fun x d y he hor hle => hI.2.2.2 x d y he ?_ hle⟩
        · obtain ⟨z, d, e1, e2, e3⟩ := hI.2.2.1 y y0 y1 yn yf
          exact ⟨z, d, e1, by omega, e3⟩
        · have h1 := he.1
          have h2 := he.2.1
          have h3 := he.2.2.1
          by_cases q : g1 95 x < s
          · exact Or.inl q
          · exact Or.inr ⟨by omega, Or.inl h2⟩
      · exact absurd c55 (by omega)
    | succ n ih =>
      intro x s g1 hx hn s0 s1 hf hI k
      have hS1 := hS.fr hf (by decide)
      have hb1 := hb.fr hf (by decide)
      have hgx := hI.2.1 x hx (by omega)
      refine ZW.iload dX6_measure_51 rfl ?_
      refine ZW.bipush dX6_measure_53 rfl ?_
      refine ZW.icmp_ge (tgt := 101) dX6_measure_55 (by decide) (by first | omega | exact zB_R _) (by first | omega | exact zB_R _) (fun c55 => ?_) (fun c55 => ?_)
      · exact absurd c55 (by omega)
      · have skip : (g1 95 x = s → goB r u x = false) → ZW 3 mX6_measure 95 [some (.inr 94), some (.inr 3), some (.inl u), some (.inl (ofF r u 2)), some (.inl (1 - ofF r u 0)), some (.inl s), some (.inl x)] [] g1 (fun _ g' => zFr [95] g g' ∧ ∀ x, 0 ≤ x → x < 63 → g' 95 x = wyC r u x) := by
          intro hno
          refine ZW.iinc dX6_measure_95 rfl (by decide) rfl ?_
          refine ZW.goto (tgt := 51) dX6_measure_98 (by decide) ?_
          refine ih (x + 1) s g1 (by omega) (by omega) s0 s1 hf (cwJ_next hI (fun q d y he => ?_)) k
          have h7 := he.2.2.2.2.2.2.1
          rw [hno q] at h7
          cases h7
        have go : g1 95 x = s → goB r u x = true → ZW 3 mX6_measure 87 [some (.inr 94), some (.inr 3), some (.inl u), some (.inl (ofF r u 2)), some (.inl (1 - ofF r u 0)), some (.inl s), some (.inl x)] [] g1 (fun _ g' => zFr [95] g g' ∧ ∀ x, 0 ≤ x → x < 63 → g' 95 x = wyC r u x) := by
          intro hgs hgo
          refine ZW.aload_n dX6_measure_87 rfl ?_
          refine ZW.aload_n dX6_measure_88 rfl ?_
          refine ZW.iload_n dX6_measure_89 rfl ?_
          refine ZW.iload dX6_measure_90 rfl ?_
          refine ZW.callVv (as := [_, _, _]) dX6_measure_92 cv_X6_40 ⟨_, rfl⟩ rfl (by decide) (Nat.le_of_ble_eq_true rfl) rfl (fun _ _ hz _ => hz) (c_X6_goOn _ hA hS1 hb1 hu hul ⟨hx, by omega⟩ ⟨s0, by omega⟩ hI hgs hgo) (fun g2 ⟨f2, I2⟩ => ?_)
          refine ZW.iinc dX6_measure_95 rfl (by decide) rfl ?_
          refine ZW.goto (tgt := 51) dX6_measure_98 (by decide) ?_
          exact ih (x + 1) s g2 (by omega) (by omega) s0 s1 (hf.tr f2) I2 k
        refine ZW.aload_n dX6_measure_58 rfl ?_
        refine ZW.getR dX6_measure_59 fl_X6_9 ⟨_, rfl, rfl⟩ ?_
        refine ZW.iload dX6_measure_62 rfl ?_
        refine ZW.iald dX6_measure_64 rfl (by decide) (by omega) rfl ?_
        refine ZW.iload dX6_measure_65 rfl ?_
        refine ZW.icmp_ne (tgt := 95) dX6_measure_67 (by decide) (by first | omega | exact zB_R _) (by first | omega | exact zB_R _) (fun c67 => ?_) (fun c67 => ?_)
        · exact skip (fun q => absurd q c67)
        · refine ZW.iload dX6_measure_70 rfl ?_
          refine ZW.iload_n dX6_measure_72 rfl ?_
          refine ZW.icmp_eq (tgt := 87) dX6_measure_73 (by decide) (by first | omega | exact zB_R _) (by first | omega | exact zB_R _) (fun c73 => ?_) (fun c73 => ?_)
          · exact go c67 (by unfold goB; rw [decide_eq_true c73]; rfl)
          · refine ZW.aload_n dX6_measure_76 rfl ?_
            refine ZW.iload dX6_measure_77 rfl ?_
            refine ZW.iload dX6_measure_79 rfl ?_
            refine ZW.callV (as := [_, _]) dX6_measure_81 cv_X6_36 ⟨_, rfl⟩ rfl (by decide) (Nat.le_of_ble_eq_true rfl) rfl (c_X4_inZone _ hA hS1 hb1 (by omega) ⟨hx, by omega⟩) (fun v1 g2 ⟨q1, q2⟩ => ?_)
            subst q1; subst q2
            refine ZW.if_ne (tgt := 95) dX6_measure_84 (by decide) (by first | omega | exact zB_R _) (fun c84 => ?_) (fun c84 => ?_)
            · have e := zB_ne c84
              exact skip (fun _ => by unfold goB; rw [decide_eq_false c73, e]; rfl)
            · have e := zB_eq c84
              exact go c67 (by unfold goB; rw [e]; simp)
  have loopS : ∀ (n : Nat) (s : Int) (g1 : ZH) (o6 : Option ZV), 0 ≤ s → s + n = ofF r u 3 → zFr [95] g g1 → cwJ r u (g1 95) s 0 0 → ZW 3 mX6_measure 37 [some (.inr 94), some (.inr 3), some (.inl u), some (.inl (ofF r u 2)), some (.inl (1 - ofF r u 0)), some (.inl s), o6] [] g1 (fun _ g' => zFr [95] g g' ∧ ∀ x, 0 ≤ x → x < 63 → g' 95 x = wyC r u x) := by
    intro n
    induction n with
    | zero =>
      intro s g1 o6 s0 hn hf hI
      have hst := st_u (hS.fr hf (by decide)) hu.1 hu.2
      have hP2 := (hst.2.2.2.2 hul).1
      refine ZW.iload dX6_measure_37 rfl ?_
      refine ZW.aload_n dX6_measure_39 rfl ?_
      refine ZW.getR dX6_measure_40 fl_X6_33 ⟨_, rfl, rfl⟩ ?_
      refine ZW.iload_n dX6_measure_43 rfl ?_
      refine ZW.iald dX6_measure_44 rfl (by decide) (by omega) rfl ?_
      rw [hP2]
      refine ZW.icmp_ge (tgt := 107) dX6_measure_45 (by decide) (by first | omega | exact zB_R _) (by first | omega | exact zB_R _) (fun c45 => ?_) (fun c45 => ?_)
      · refine ZW.vret dX6_measure_107 rfl ?_
        refine ⟨hf, fun x x0 x1 => wyC_of hA hu16 ⟨hI.1, hI.2.1, fun x d y he hne hle => ?_, fun y y0 y1 yn yf => ?_⟩ x0 x1⟩
        · have hc := stepC_R r x d y
          exact hI.2.2.2 x d y he (Or.inl (by omega)) hle
        · obtain ⟨z, d, e1, e2, e3⟩ := hI.2.2.1 y y0 y1 yn yf
          exact ⟨z, d, e1, by omega, e3⟩
      · exact absurd c45 (by omega)
    | succ n ih =>
      intro s g1 o6 s0 hn hf hI
      have hst := st_u (hS.fr hf (by decide)) hu.1 hu.2
      have hP2 := (hst.2.2.2.2 hul).1
      refine ZW.iload dX6_measure_37 rfl ?_
      refine ZW.aload_n dX6_measure_39 rfl ?_
      refine ZW.getR dX6_measure_40 fl_X6_33 ⟨_, rfl, rfl⟩ ?_
      refine ZW.iload_n dX6_measure_43 rfl ?_
      refine ZW.iald dX6_measure_44 rfl (by decide) (by omega) rfl ?_
      rw [hP2]
      refine ZW.icmp_ge (tgt := 107) dX6_measure_45 (by decide) (by first | omega | exact zB_R _) (by first | omega | exact zB_R _) (fun c45 => ?_) (fun c45 => ?_)
      · exact absurd c45 (by omega)
      · refine ZW.iconst dX6_measure_48 ?_
        refine ZW.istore dX6_measure_49 (by decide) rfl ?_
        refine loopX 63 0 s g1 (by omega) (by omega) s0 (by omega) hf hI (fun g2 p6 hf2 hI2 => ?_)
        refine ZW.iinc dX6_measure_101 rfl (by decide) rfl ?_
        refine ZW.goto (tgt := 37) dX6_measure_104 (by decide) ?_
        exact ih (s + 1) g2 _ (by omega) (by omega) hf2 hI2
  refine ZW.aload_n dX6_measure_0 rfl ?_
  refine ZW.getR dX6_measure_1 fl_X6_19 ⟨_, rfl, rfl⟩ ?_
  refine ZW.iload_n dX6_measure_4 rfl ?_
  refine ZW.iald dX6_measure_5 rfl (by decide) (by omega) rfl ?_
  rw [hst0.2.2.1]
  refine ZW.istore_n dX6_measure_6 (by decide) rfl ?_
  refine ZW.iconst dX6_measure_7 ?_
  refine ZW.aload_n dX6_measure_8 rfl ?_
  refine ZW.getR dX6_measure_9 fl_X6_24 ⟨_, rfl, rfl⟩ ?_
  refine ZW.iload_n dX6_measure_12 rfl ?_
  refine ZW.iald dX6_measure_13 rfl (by decide) (by omega) rfl ?_
  rw [hst0.1]
  refine ZW.isub dX6_measure_14 ?_
  refine ZW.istore dX6_measure_15 (by decide) rfl ?_
  refine ZW.aload_n dX6_measure_17 rfl ?_
  refine ZW.getR dX6_measure_18 fl_X6_9 ⟨_, rfl, rfl⟩ ?_
  refine ZW.sipush dX6_measure_21 rfl ?_
  refine ZW.callSv (as := [_, _]) dX6_measure_24 cs_X6_27 rfl (by decide) (Nat.le_of_ble_eq_true rfl) rfl (fun _ _ hz _ => hz) (c_J7_fill _) (fun g1 ⟨f1, a1⟩ => ?_)
  refine ZW.aload_n dX6_measure_27 rfl ?_
  refine ZW.getR dX6_measure_28 fl_X6_9 ⟨_, rfl, rfl⟩ ?_
  refine ZW.iload_n dX6_measure_31 rfl ?_
  refine ZW.iconst dX6_measure_32 ?_
  refine ZW.iast dX6_measure_33 rfl (by decide) (by omega) ?_
  refine ZW.iconst dX6_measure_34 ?_
  refine ZW.istore dX6_measure_35 (by decide) rfl ?_
  have v : ∀ x, 0 ≤ x → x < 63 → (zSet g1 95 (ofF r u 2) 0) 95 x = if x = ofF r u 2 then 0 else 1000 := fun x x0 x1 => by
    rw [zSet_same]
    by_cases q : x = ofF r u 2
    · rw [if_pos q, q, zUp_same]
    · rw [if_neg q, zUp_ne _ _ q, a1 x x0 x1]
  refine loopS (ofF r u 3).toNat 0 _ _ (by omega) (by omega) (f1.set (by decide) _ _) ⟨by rw [v _ hU.2.1 hU.2.2, if_pos rfl], fun x x0 x1 => ?_, fun y y0 y1 yn yf => ?_, fun x d y he hor hle => ?_⟩
  · rw [v x x0 x1]
    split
    · exact Or.inr ⟨by omega, by omega⟩
    · exact Or.inl rfl
  · rw [v y y0 y1, if_neg yn] at yf
    exact absurd rfl yf
  · exfalso
    have h1 := he.1
    have h3 := he.2.2.1
    rw [v x he.1 he.2.1] at hor
    split at hor <;> omega
theorem sdF_no {r : Int → Int} (hA : okA r) (x : Int) : sdF r x = -1 ↔ unitOnF r x = -5 := by
  unfold sdF
  split
  · next q => exact ⟨fun _ => q, fun _ => rfl⟩
  · next q =>
    have h := (unitOnF_R hA.1.1 x).resolve_left q
    have h2 := (hA.1.2.1 _ h.1 h.2.2.1).1
    exact ⟨fun z => by omega, fun z => absurd z q⟩
theorem c_X6_canEndOn (g : ZH) {r : Int → Int} (hA : okA r) (hS : StN g r) {u x : Int} (hu : 0 ≤ u ∧ u < 16) (hx : 0 ≤ x ∧ x < 63) (hw : g 95 x = wyC r u x) : ZC 1 mX6_canEndOn [.inr 94, .inr 3, .inl x] g (fun v g' => v = zB (canR r u x) ∧ g' = g) := by
  have hwr := wayF_R r u x
  have hP := ofF_R hA.1.1 hu (w := 3) (by decide)
  have hsd := sdF_R hA x
  have hno := sdF_no hA x
  have hcR : zR (wyC r u x) ∧ (wyC r u x = 1000 ↔ ¬ wayF r u x ≤ ofF r u 3) := by unfold wyC; split <;> omega
  have hcR1 := hcR.1
  refine ZC.of (by decide +kernel) (Nat.le_of_ble_eq_true rfl) ?_
  refine ZW.aload_n dX6_canEndOn_0 rfl ?_
  refine ZW.getR dX6_canEndOn_1 fl_X6_9 ⟨_, rfl, rfl⟩ ?_
  refine ZW.iload_n dX6_canEndOn_4 rfl ?_
  refine ZW.iald dX6_canEndOn_5 rfl (by decide) (by omega) rfl ?_
  rw [hw]
  refine ZW.sipush dX6_canEndOn_6 rfl ?_
  refine ZW.icmp_eq (tgt := 25) dX6_canEndOn_9 (by decide) (by first | omega | exact zB_R _) (by first | omega | exact zB_R _) (fun c9 => ?_) (fun c9 => ?_)
  · refine ZW.iconst dX6_canEndOn_25 ?_
    refine ZW.iretz dX6_canEndOn_26 rfl (by first | exact Or.inl rfl | exact Or.inr rfl | assumption | omega) ?_
    exact ⟨by unfold canR; rw [decide_eq_false (fun q => hcR.2.mp c9 q.1)]; rfl, rfl⟩
  · refine ZW.aload_n dX6_canEndOn_12 rfl ?_
    refine ZW.iload_n dX6_canEndOn_13 rfl ?_
    refine ZW.callV (as := [_]) dX6_canEndOn_14 cv_X6_51 ⟨_, rfl⟩ rfl (by decide) (Nat.le_of_ble_eq_true rfl) rfl (c_X4_sideOn _ hA hS hx) (fun v1 g1 ⟨q1, q2⟩ => ?_)
    subst q1; subst q2
    refine ZW.iconst dX6_canEndOn_17 ?_
    refine ZW.icmp_ne (tgt := 25) dX6_canEndOn_18 (by decide) (by first | omega | exact zB_R _) (by first | omega | exact zB_R _) (fun c18 => ?_) (fun c18 => ?_)
    · refine ZW.iconst dX6_canEndOn_25 ?_
      refine ZW.iretz dX6_canEndOn_26 rfl (by first | exact Or.inl rfl | exact Or.inr rfl | assumption | omega) ?_
      exact ⟨by unfold canR; rw [decide_eq_false (fun q => c18 (hno.mpr q.2))]; rfl, rfl⟩
    · refine ZW.iconst dX6_canEndOn_21 ?_
      refine ZW.goto (tgt := 26) dX6_canEndOn_22 (by decide) ?_
      refine ZW.iretz dX6_canEndOn_26 rfl (by first | exact Or.inl rfl | exact Or.inr rfl | assumption | omega) ?_
      exact ⟨by unfold canR; rw [decide_eq_true ⟨Classical.byContradiction (fun q => c9 (hcR.2.mpr q)), hno.mp c18⟩]; rfl, rfl⟩
theorem c_X6_endCount (g : ZH) {r : Int → Int} (hA : okA r) (hS : StN g r) {u : Int} (hu : 0 ≤ u ∧ u < 16) (hw : ∀ x, 0 ≤ x → x < 63 → g 95 x = wyC r u x) : ZC 2 mX6_endCount [.inr 94, .inr 3] g (fun v g' => v = reachF r u ∧ g' = g) := by
  refine ZC.of (by decide +kernel) (Nat.le_of_ble_eq_true rfl) ?_
  have loop : ∀ (n : Nat) (x acc : Int), 0 ≤ x → x + n = 63 → ZW 2 mX6_endCount 4 [some (.inr 94), some (.inr 3), some (.inl acc), some (.inl x)] [] g (fun v g' => v = acc + cntF (fun x => zB (canR r u x)) n x ∧ g' = g) := by
    intro n
    induction n with
    | zero =>
      intro x acc h0 hn
      refine ZW.iload_n dX6_endCount_4 rfl ?_
      refine ZW.bipush dX6_endCount_5 rfl ?_
      refine ZW.icmp_ge (tgt := 33) dX6_endCount_7 (by decide) (by first | omega | exact zB_R _) (by first | omega | exact zB_R _) (fun c7 => ?_) (fun c7 => ?_)
      · refine ZW.iload_n dX6_endCount_33 rfl ?_
        refine ZW.ireti dX6_endCount_34 rfl ?_
        exact ⟨by simp [cntF], rfl⟩
      · exact absurd c7 (by omega)
    | succ n ih =>
      intro x acc h0 hn
      refine ZW.iload_n dX6_endCount_4 rfl ?_
      refine ZW.bipush dX6_endCount_5 rfl ?_
      refine ZW.icmp_ge (tgt := 33) dX6_endCount_7 (by decide) (by first | omega | exact zB_R _) (by first | omega | exact zB_R _) (fun c7 => ?_) (fun c7 => ?_)
      · exact absurd c7 (by omega)
      · refine ZW.iload_n dX6_endCount_10 rfl ?_
        refine ZW.aload_n dX6_endCount_11 rfl ?_
        refine ZW.aload_n dX6_endCount_12 rfl ?_
        refine ZW.iload_n dX6_endCount_13 rfl ?_
        refine ZW.callV (as := [_, _]) dX6_endCount_14 cv_X6_65 ⟨_, rfl⟩ rfl (by decide) (Nat.le_of_ble_eq_true rfl) rfl (c_X6_canEndOn _ hA hS hu ⟨h0, by omega⟩ (hw x h0 (by omega))) (fun v1 g1 ⟨q1, q2⟩ => ?_)
        subst q1; subst q2
        refine ZW.if_eq (tgt := 24) dX6_endCount_17 (by decide) (by first | omega | exact zB_R _) (fun c17 => ?_) (fun c17 => ?_)
        · have e := zB_eq c17
          refine ZW.iconst dX6_endCount_24 ?_
          refine ZW.iadd dX6_endCount_25 ?_
          refine ZW.istore_n dX6_endCount_26 (by decide) rfl ?_
          refine ZW.iinc dX6_endCount_27 rfl (by decide) rfl ?_
          refine ZW.goto (tgt := 4) dX6_endCount_30 (by decide) ?_
          refine ZW.mono (ih (x + 1) _ (by omega) (by omega)) (fun v g' hh => ⟨?_, hh.2⟩)
          rw [hh.1, cntF_s, e, zB_f]; omega
        · have e := zB_ne c17
          refine ZW.iconst dX6_endCount_20 ?_
          refine ZW.goto (tgt := 25) dX6_endCount_21 (by decide) ?_
          refine ZW.iadd dX6_endCount_25 ?_
          refine ZW.istore_n dX6_endCount_26 (by decide) rfl ?_
          refine ZW.iinc dX6_endCount_27 rfl (by decide) rfl ?_
          refine ZW.goto (tgt := 4) dX6_endCount_30 (by decide) ?_
          refine ZW.mono (ih (x + 1) _ (by omega) (by omega)) (fun v g' hh => ⟨?_, hh.2⟩)
          rw [hh.1, cntF_s, e, zB_t]; omega
  refine ZW.iconst dX6_endCount_0 ?_
  refine ZW.istore_n dX6_endCount_1 (by decide) rfl ?_
  refine ZW.iconst dX6_endCount_2 ?_
  refine ZW.istore_n dX6_endCount_3 (by decide) rfl ?_
  refine ZW.mono (loop 63 0 0 (by omega) (by omega)) (fun v g' hh => ⟨?_, hh.2⟩)
  rw [hh.1, Int.zero_add]; rfl
