-- the class reads its text
theorem sgn_in {t : Int → Int} {L p : Int} (h : p < L) : sgn t L p = t p := by unfold sgn; rw [if_pos h]
theorem sgn_out {t : Int → Int} {L p : Int} (h : ¬ p < L) : sgn t L p = 0 := by unfold sgn; rw [if_neg h]
theorem rd_bad0 {t : Int → Int} {L p : Int} (h1 : sgn t L p ≠ 46) (h2 : ¬ (48 ≤ sgn t L p ∧ sgn t L p ≤ 57)) : okO t L p = false ∧ atO t L p = p := by
  refine ⟨decide_eq_false (fun q => q.elim h1 (fun z => h2 z.1)), ?_⟩
  unfold atO
  rw [if_neg h1, if_pos h2]
theorem rd_bad1 {t : Int → Int} {L p : Int} (h1 : sgn t L p ≠ 46) (h2 : 48 ≤ sgn t L p ∧ sgn t L p ≤ 57) (h3 : ¬ (sgn t L (p2F t L p) = 62 ∨ sgn t L (p2F t L p) = 33)) : okO t L p = false ∧ atO t L p = p2F t L p := by
  refine ⟨decide_eq_false (fun q => q.elim h1 (fun z => h3 z.2.1)), ?_⟩
  unfold atO
  rw [if_neg h1, if_neg (fun q => q h2), if_pos h3]
theorem rd_bad2 {t : Int → Int} {L p : Int} (h1 : sgn t L p ≠ 46) (h2 : 48 ≤ sgn t L p ∧ sgn t L p ≤ 57) (h3 : sgn t L (p2F t L p) = 62 ∨ sgn t L (p2F t L p) = 33) (h4 : ¬ (97 ≤ sgn t L (p2F t L p + 1) ∧ sgn t L (p2F t L p + 1) ≤ 105)) : okO t L p = false ∧ atO t L p = p2F t L p + 1 := by
  refine ⟨decide_eq_false (fun q => q.elim h1 (fun z => h4 z.2.2.1)), ?_⟩
  unfold atO
  rw [if_neg h1, if_neg (fun q => q h2), if_neg (fun q => q h3), if_pos h4]
theorem rd_bad3 {t : Int → Int} {L p : Int} (h1 : sgn t L p ≠ 46) (h2 : 48 ≤ sgn t L p ∧ sgn t L p ≤ 57) (h3 : sgn t L (p2F t L p) = 62 ∨ sgn t L (p2F t L p) = 33) (h4 : 97 ≤ sgn t L (p2F t L p + 1) ∧ sgn t L (p2F t L p + 1) ≤ 105) (h5 : ¬ (49 ≤ sgn t L (p2F t L p + 2) ∧ sgn t L (p2F t L p + 2) ≤ 55)) : okO t L p = false ∧ atO t L p = p2F t L p + 2 := by
  refine ⟨decide_eq_false (fun q => q.elim h1 (fun z => h5 z.2.2.2)), ?_⟩
  unfold atO
  rw [if_neg h1, if_neg (fun q => q h2), if_neg (fun q => q h3), if_neg (fun q => q h4), if_pos h5]
theorem rd_good {t : Int → Int} {L p : Int} (h1 : sgn t L p ≠ 46) (h2 : 48 ≤ sgn t L p ∧ sgn t L p ≤ 57) (h3 : sgn t L (p2F t L p) = 62 ∨ sgn t L (p2F t L p) = 33) (h4 : 97 ≤ sgn t L (p2F t L p + 1) ∧ sgn t L (p2F t L p + 1) ≤ 105) (h5 : 49 ≤ sgn t L (p2F t L p + 2) ∧ sgn t L (p2F t L p + 2) ≤ 55) : okO t L p = true ∧ atO t L p = p2F t L p + 3 := by
  refine ⟨decide_eq_true (Or.inr ⟨h2, h3, h4, h5⟩), ?_⟩
  unfold atO
  rw [if_neg h1, if_neg (fun q => q h2), if_neg (fun q => q h3), if_neg (fun q => q h4), if_neg (fun q => q h5)]
def rdP (g : ZH) (t : Int → Int) (L : Int) (g' : ZH) (v : Int) : Prop := v = (if resF t L 61 0 = -5 then -1 else resF t L 61 0) ∧ ∃ k U S C l, OR g g' k U S C l ∧ (resF t L 61 0 = -5 → l = ordL t L 61 0)
theorem rdP.bad {g g1 : ZH} {t : Int → Int} {L p e k U S C : Int} {l : List ZO} {n : Nat} (h0 : 0 ≤ e) (hr : resF t L 61 0 = resF t L (n + 1) p) (hb : okO t L p = false ∧ atO t L p = e) (hO : OR g g1 k U S C l) : rdP g t L g1 e := by
  have h1 : resF t L 61 0 = e := by rw [hr, resF_s, if_neg (by rw [hb.1]; decide), hb.2]
  refine ⟨by rw [h1, if_neg (by omega)], k, U, S, C, l, hO, fun q => by omega⟩
set_option maxHeartbeats 1000000 in
theorem c_X3_read (g : ZH) {t : Int → Int} {L : Int} (hT : g 90 = t) (hL : g 89 1 = L) (ht : txP t L) : ZC 3 mX3_read [.inr 89] g (fun v g' => rdP g t L g' v) := by
  have hL0 := ht.1
  have hL1 := ht.2.1
  refine ZC.of (by decide +kernel) (Nat.le_of_ble_eq_true rfl) ?_
  have fin : ∀ (s i : Int) (g1 : ZH), -10 ≤ s ∧ s ≤ 10 → 0 ≤ i → L ≤ i → i ≤ 100 → g1 89 1 = L → (s = 5 → rdP g t L g1 (-1)) → (s ≠ 5 → rdP g t L g1 L) → ZW 3 mX3_read 9 [some (.inr 89), some (.inl s), some (.inl i)] [] g1 (fun v g' => rdP g t L g' v) := by
    intro s i g1 hs hi hiL hi2 e1 k1 k2
    refine ZW.iload_n dX3_read_9 rfl ?_
    refine ZW.aload_n dX3_read_10 rfl ?_
    refine ZW.getI (fz := 1) dX3_read_11 fl_X3_23 ⟨_, rfl, rfl⟩ rfl rfl ?_
    rw [e1]
    refine ZW.icmp_ge (tgt := 42) dX3_read_14 (by decide) (by first | omega | exact zB_R _) (by first | omega | exact zB_R _) (fun c14 => ?_) (fun c14 => ?_)
    · refine ZW.iload_n dX3_read_42 rfl ?_
      refine ZW.iconst dX3_read_43 ?_
      refine ZW.icmp_ne (tgt := 51) dX3_read_44 (by decide) (by first | omega | exact zB_R _) (by first | omega | exact zB_R _) (fun c44 => ?_) (fun c44 => ?_)
      · refine ZW.aload_n dX3_read_51 rfl ?_
        refine ZW.getI (fz := 1) dX3_read_52 fl_X3_23 ⟨_, rfl, rfl⟩ rfl rfl ?_
        rw [e1]
        refine ZW.ireti dX3_read_55 rfl ?_
        exact k2 c44
      · refine ZW.iconst dX3_read_47 ?_
        refine ZW.goto (tgt := 55) dX3_read_48 (by decide) ?_
        refine ZW.ireti dX3_read_55 rfl ?_
        exact k1 c44
    · exact absurd c14 (by omega)
  have step : ∀ (Q0 : Int → ZH → Prop) (s i : Int) (g1 : ZH), 0 ≤ i → i < L → g1 89 1 = L → g1 90 = t → ZC 2 mX3_stageAfter [.inr 89, .inl s, .inl (t i)] g1 Q0 → (∀ v g2, Q0 v g2 → (-10 ≤ v ∧ v ≤ 10) ∧ (v = -1 → rdP g t L g2 i) ∧ (v ≠ -1 → ZW 3 mX3_read 9 [some (.inr 89), some (.inl v), some (.inl (i + 1))] [] g2 (fun v g' => rdP g t L g' v))) → ZW 3 mX3_read 9 [some (.inr 89), some (.inl s), some (.inl i)] [] g1 (fun v g' => rdP g t L g' v) := by
    intro Q0 s i g1 hi hiL e1 e2 hc hk
    refine ZW.iload_n dX3_read_9 rfl ?_
    refine ZW.aload_n dX3_read_10 rfl ?_
    refine ZW.getI (fz := 1) dX3_read_11 fl_X3_23 ⟨_, rfl, rfl⟩ rfl rfl ?_
    rw [e1]
    refine ZW.icmp_ge (tgt := 42) dX3_read_14 (by decide) (by first | omega | exact zB_R _) (by first | omega | exact zB_R _) (fun c14 => ?_) (fun c14 => ?_)
    · exact absurd c14 (by omega)
    · refine ZW.aload_n dX3_read_17 rfl ?_
      refine ZW.iload_n dX3_read_18 rfl ?_
      refine ZW.aload_n dX3_read_19 rfl ?_
      refine ZW.getR dX3_read_20 fl_X3_9 ⟨_, rfl, rfl⟩ ?_
      refine ZW.iload_n dX3_read_23 rfl ?_
      refine ZW.cald dX3_read_24 rfl (by decide) (by omega) rfl ?_
      rw [e2]
      refine ZW.callV (as := [_, _]) dX3_read_25 cv_X3_30 ⟨_, rfl⟩ rfl (by decide) (Nat.le_of_ble_eq_true rfl) rfl (hc) (fun v g2 q => ?_)
      obtain ⟨k0, k1, k2⟩ := hk v g2 q
      refine ZW.istore_n dX3_read_28 (by decide) rfl ?_
      refine ZW.iload_n dX3_read_29 rfl ?_
      refine ZW.iconst dX3_read_30 ?_
      refine ZW.icmp_ne (tgt := 36) dX3_read_31 (by decide) (by first | omega | exact zB_R _) (by first | omega | exact zB_R _) (fun c31 => ?_) (fun c31 => ?_)
      · refine ZW.iinc dX3_read_36 rfl (by decide) rfl ?_
        refine ZW.goto (tgt := 9) dX3_read_39 (by decide) ?_
        exact k2 c31
      · refine ZW.iload_n dX3_read_34 rfl ?_
        refine ZW.ireti dX3_read_35 rfl ?_
        exact k1 c31
  have tR : ∀ i, 0 ≤ i → i < L → 0 ≤ t i ∧ t i < 65536 := ht.2.2
  have head : ∀ (n : Nat) (k p : Int) (l : List ZO) (g1 : ZH) (U S C : Int), 0 ≤ p → p ≤ L → k + n = 61 → 2 * k ≤ p → ordL t L 61 0 = l ++ ordL t L n p → resF t L 61 0 = resF t L n p → OR g g1 k U S C l → ZW 3 mX3_read 9 [some (.inr 89), some (.inl 0), some (.inl p)] [] g1 (fun v g' => rdP g t L g' v) := by
    intro n
    induction n with
    | zero => intro k p l g1 U S C p0 p1 hk hkp ho hr hO; omega
    | succ n ih =>
      intro k p l g1 U S C p0 p1 hk hkp ho hr hO
      have lg : ∀ {g2 : ZH} {k U S C : Int} {l : List ZO}, OR g g2 k U S C l → g2 89 1 = L := fun h => h.2.1.trans hL
      have tg : ∀ {g2 : ZH} {k U S C : Int} {l : List ZO}, OR g g2 k U S C l → g2 90 = t := fun h => (h.1 90 (by decide)).trans hT
      have kg : ∀ {g2 : ZH} {k U S C : Int} {l : List ZO}, OR g g2 k U S C l → g2 89 2 = k := fun h => h.2.2.1
      have k0 : 0 ≤ k := by have := hO.2.2.2.2.2.2.1; omega
      -- an order has been read
      have tail5 : ∀ (e : Int) (g2 : ZH) (U S C : Int), okO t L p = true → atO t L p = e → e ≤ L → OR g g2 (k + 1) U S C (l ++ [(whO t L p, unO t L p, hxO t L p)]) → ZW 3 mX3_read 9 [some (.inr 89), some (.inl 5), some (.inl e)] [] g2 (fun v g' => rdP g t L g' v) := by
        intro e g2 U S C hok hat he hO2
        have hlt := okO_lt hok
        rw [ordL_s t L n p, if_pos hok, hat] at ho
        rw [resF_s t L n p, if_pos hok, hat] at hr
        by_cases q : e < L
        · refine step _ 5 e g2 (by omega) q (lg hO2) (tg hO2) (c_X3_stage5 _ (tR e (by omega) q)) (fun v g3 h3 => ?_)
          obtain ⟨v1, v2⟩ := h3
          subst v2
          rw [if_pos q] at hr
          by_cases q59 : t e = 59
          · rw [if_pos q59] at v1 hr
            rw [if_pos ⟨q, q59⟩] at ho
            refine ⟨by omega, fun z => by omega, fun _ => ?_⟩
            rw [v1]
            exact ih (k + 1) (e + 1) _ _ _ _ _ (by omega) (by omega) (by omega) (by omega) (by rw [ho, List.append_assoc]; rfl) hr hO2
          · rw [if_neg q59] at v1 hr
            exact ⟨by omega, fun _ => ⟨by rw [hr, if_neg (by omega)], _, _, _, _, _, hO2, fun z => by omega⟩, fun z => absurd v1 z⟩
        · rw [if_neg q] at hr
          rw [if_neg (fun z => q z.1)] at ho
          exact fin 5 e g2 (by decide) (by omega) (by omega) (by omega) (lg hO2) (fun _ => ⟨by rw [hr, if_pos rfl], _, _, _, _, _, hO2, fun _ => ho.symm⟩) (fun z => absurd rfl z)
      by_cases hp : p < L
      · have hc := tR p p0 hp
        have hsg := sgn_in (t := t) hp
        refine step _ 0 p g1 p0 hp (lg hO) (tg hO) (c_X3_stage0 _ hc (by rw [kg hO]; omega)) (fun v g2 h2 => ?_)
        by_cases h46 : t p = 46
        · obtain ⟨v1, v2⟩ := h2.1 h46
          subst v1
          have hok : okO t L p = true := decide_eq_true (Or.inl (hsg.trans h46))
          have hat : atO t L p = p + 1 := by unfold atO; rw [if_pos (hsg.trans h46)]
          have hw : whO t L p = 2 := by unfold whO; rw [if_pos (hsg.trans h46)]
          refine ⟨by decide, fun z => by omega, fun _ => tail5 (p + 1) g2 U 46 C hok hat (by omega) ?_⟩
          rw [v2]
          exact (hO.s 46).add (by show (46 : Int) = _; rw [hw]; rfl) (fun z => absurd hw z)
        · by_cases hd : 48 ≤ t p ∧ t p ≤ 57
          · obtain ⟨v1, v2⟩ := h2.2.1 hd
            have b1 : sgn t L p ≠ 46 := by rw [hsg]; exact h46
            have b2 : 48 ≤ sgn t L p ∧ sgn t L p ≤ 57 := by rw [hsg]; exact hd
            have hO2 := hO.u (t p - 48)
            rw [← v2] at hO2
            have hp2 : p2F t L p = p + 1 ∨ p2F t L p = p + 2 := by unfold p2F; split <;> omega
            -- behind the sign
            have tail3 : ∀ (g3 : ZH) (U C : Int), U = unO t L p → p2F t L p < L → (sgn t L (p2F t L p) = 62 ∨ sgn t L (p2F t L p) = 33) → OR g g3 k U (sgn t L (p2F t L p)) C l → ZW 3 mX3_read 9 [some (.inr 89), some (.inl 3), some (.inl (p2F t L p + 1))] [] g3 (fun v g' => rdP g t L g' v) := by
              intro g3 U C hU hq b3 hO3
              have hSR := sgn_R ht (p := p2F t L p) (by omega)
              by_cases q1 : p2F t L p + 1 < L
              · have hc1 := tR _ (by omega) q1
                have hs1 := sgn_in (t := t) q1
                refine step _ 3 _ g3 (by omega) q1 (lg hO3) (tg hO3) (c_X3_stage3 _ hc1) (fun v g4 h4 => ?_)
                obtain ⟨v3, v4⟩ := h4
                have hO4 := hO3.c (t (p2F t L p + 1) - 97)
                rw [← v4] at hO4
                by_cases b4 : 97 ≤ t (p2F t L p + 1) ∧ t (p2F t L p + 1) ≤ 105
                · rw [if_pos b4] at v3
                  subst v3
                  rw [← hs1] at b4
                  refine ⟨by decide, fun z => by omega, fun _ => ?_⟩
                  rw [show p2F t L p + 1 + 1 = p2F t L p + 2 by omega]
                  by_cases q2 : p2F t L p + 2 < L
                  · have hc2 := tR _ (by omega) q2
                    have hs2 := sgn_in (t := t) q2
                    refine step _ 4 _ g4 (by omega) q2 (lg hO4) (tg hO4) (c_X3_stage4 _ hc2 (by rw [kg hO4]; omega) (by rw [hO4.2.2.2.2.1]; exact hSR)) (fun v g5 h5 => ?_)
                    by_cases b5 : 49 ≤ t (p2F t L p + 2) ∧ t (p2F t L p + 2) ≤ 55
                    · obtain ⟨v5, v6⟩ := h5.1 b5
                      subst v5
                      rw [← hs2] at b5
                      obtain ⟨hok, hat⟩ := rd_good b1 b2 b3 b4 b5
                      refine ⟨by decide, fun z => by omega, fun _ => ?_⟩
                      rw [show p2F t L p + 2 + 1 = p2F t L p + 3 by omega]
                      refine tail5 _ g5 U (sgn t L (p2F t L p)) (t (p2F t L p + 1) - 97) hok hat (by omega) ?_
                      rw [v6]
                      refine hO4.add ?_ (fun _ => ⟨hU, ?_⟩)
                      · show _ = if whO t L p = 0 then _ else if whO t L p = 1 then _ else _
                        unfold whO
                        rw [if_neg b1]
                        rcases b3 with e | e
                        · rw [e]; rfl
                        · rw [e]; rfl
                      · rw [hO4.2.2.2.2.2.1]
                        show _ = hxO t L p
                        unfold hxO
                        rw [if_neg b1, hs1, hs2]
                        omega
                    · obtain ⟨v5, v6⟩ := h5.2 b5
                      subst v6
                      rw [← hs2] at b5
                      exact ⟨by omega, fun _ => rdP.bad (by omega) hr (rd_bad3 b1 b2 b3 b4 b5) hO4, fun z => absurd v5 z⟩
                  · have hs2 := sgn_out (t := t) q2
                    have hb := rd_bad3 b1 b2 b3 b4 (by rw [hs2]; decide)
                    exact fin 4 _ g4 (by decide) (by omega) (by omega) (by omega) (lg hO4) (fun z => absurd z (by decide)) (fun _ => by
                      have e : L = p2F t L p + 2 := by omega
                      have h9 := rdP.bad (e := p2F t L p + 2) (by omega) hr hb hO4
                      rw [← e] at h9
                      exact h9)
                · rw [if_neg b4] at v3
                  rw [← hs1] at b4
                  exact ⟨by omega, fun _ => rdP.bad (by omega) hr (rd_bad2 b1 b2 b3 b4) hO4, fun z => absurd v3 z⟩
              · have hs1 := sgn_out (t := t) q1
                have hb := rd_bad2 b1 b2 b3 (by rw [hs1]; decide)
                exact fin 3 _ g3 (by decide) (by omega) (by omega) (by omega) (lg hO3) (fun z => absurd z (by decide)) (fun _ => by
                  have e : L = p2F t L p + 1 := by omega
                  have h9 := rdP.bad (e := p2F t L p + 1) (by omega) hr hb hO3
                  rw [← e] at h9
                  exact h9)
            -- the sign has been read
            have sign : ∀ (v : Int) (g3 g4 : ZH) (U S C : Int), U = unO t L p → p2F t L p < L → OR g g3 k U S C l → v = (if t (p2F t L p) = 62 ∨ t (p2F t L p) = 33 then 3 else -1) → g4 = zSet g3 89 7 (t (p2F t L p)) → (-10 ≤ v ∧ v ≤ 10) ∧ (v = -1 → rdP g t L g4 (p2F t L p)) ∧ (v ≠ -1 → ZW 3 mX3_read 9 [some (.inr 89), some (.inl v), some (.inl (p2F t L p + 1))] [] g4 (fun v g' => rdP g t L g' v)) := by
              intro v g3 g4 U S C hU hq hO3 v3 v4
              have hs := sgn_in (t := t) hq
              have hO4 := hO3.s (t (p2F t L p))
              rw [← v4] at hO4
              by_cases b3 : t (p2F t L p) = 62 ∨ t (p2F t L p) = 33
              · rw [if_pos b3] at v3
                subst v3
                rw [← hs] at b3 hO4
                exact ⟨by decide, fun z => by omega, fun _ => tail3 g4 _ _ hU hq b3 hO4⟩
              · rw [if_neg b3] at v3
                rw [← hs] at b3
                exact ⟨by omega, fun _ => rdP.bad (by omega) hr (rd_bad1 b1 b2 b3) hO4, fun z => absurd v3 z⟩
            have out1 : ∀ (s : Int) (g3 : ZH) (U S C : Int), s = 1 ∨ s = 2 → ¬ p2F t L p < L → p2F t L p ≤ L → OR g g3 k U S C l → ZW 3 mX3_read 9 [some (.inr 89), some (.inl s), some (.inl (p2F t L p))] [] g3 (fun v g' => rdP g t L g' v) := by
              intro s g3 U S C hs hq hq2 hO3
              have hs0 := sgn_out (t := t) hq
              have hb := rd_bad1 b1 b2 (by rw [hs0]; decide)
              exact fin s _ g3 (by omega) (by omega) (by omega) (by omega) (lg hO3) (fun z => by omega) (fun _ => by
                have e : L = p2F t L p := by omega
                have h9 := rdP.bad (e := p2F t L p) (by omega) hr hb hO3
                rw [← e] at h9
                exact h9)
            have tail2 : ∀ (g3 : ZH) (U S C : Int), U = unO t L p → p2F t L p ≤ L → OR g g3 k U S C l → ZW 3 mX3_read 9 [some (.inr 89), some (.inl 2), some (.inl (p2F t L p))] [] g3 (fun v g' => rdP g t L g' v) := by
              intro g3 U S C hU hq2 hO3
              by_cases q : p2F t L p < L
              · exact step _ 2 _ g3 (by omega) q (lg hO3) (tg hO3) (c_X3_stage2 _ (tR _ (by omega) q)) (fun v g4 h4 => sign v g3 g4 _ _ _ hU q hO3 h4.1 h4.2)
              · exact out1 2 g3 _ _ _ (Or.inr rfl) q hq2 hO3
            by_cases h49 : t p = 49
            · rw [if_pos h49] at v1
              subst v1
              refine ⟨by decide, fun z => by omega, fun _ => ?_⟩
              by_cases q : p + 1 < L
              · have hs1 := sgn_in (t := t) q
                by_cases d2 : 48 ≤ t (p + 1) ∧ t (p + 1) ≤ 53
                · have hd2 : d2B t L p = true := decide_eq_true ⟨by rw [hsg]; omega, by rw [hs1]; exact d2.1, by rw [hs1]; exact d2.2⟩
                  have e2 : p2F t L p = p + 2 := by unfold p2F; rw [hd2]; rfl
                  have eU : 10 + t (p + 1) - 48 = unO t L p := by unfold unO; rw [if_neg b1, hd2, if_pos rfl, hs1]; omega
                  refine step _ 1 _ g2 (by omega) q (lg hO2) (tg hO2) (c_X3_stage1 _ (tR _ (by omega) q)) (fun v g3 h3 => ?_)
                  obtain ⟨v3, v4⟩ := h3.1 d2
                  subst v3
                  have hO3 := hO2.u (10 + t (p + 1) - 48)
                  rw [← v4] at hO3
                  refine ⟨by decide, fun z => by omega, fun _ => ?_⟩
                  rw [show p + 1 + 1 = p2F t L p by omega]
                  exact tail2 g3 _ _ _ eU (by omega) hO3
                · have hd2 : d2B t L p = false := decide_eq_false (fun z => by rw [hs1] at z; exact d2 z.2)
                  have e2 : p2F t L p = p + 1 := by unfold p2F; rw [hd2]; rfl
                  have eU : t p - 48 = unO t L p := by unfold unO; rw [if_neg b1, hd2, hsg]; rfl
                  refine step _ 1 _ g2 (by omega) q (lg hO2) (tg hO2) (c_X3_stage1 _ (tR _ (by omega) q)) (fun v g3 h3 => ?_)
                  obtain ⟨v3, v4⟩ := h3.2 d2
                  rw [← e2] at v3 v4 q ⊢
                  exact sign v g2 g3 _ _ _ eU q hO2 v3 v4
              · have hs1 := sgn_out (t := t) q
                have hd2 : d2B t L p = false := decide_eq_false (fun z => by rw [hs1] at z; omega)
                have e2 : p2F t L p = p + 1 := by unfold p2F; rw [hd2]; rfl
                rw [← e2] at q ⊢
                exact out1 1 g2 _ _ _ (Or.inl rfl) q (by omega) hO2
            · rw [if_neg h49] at v1
              subst v1
              have hd2 : d2B t L p = false := decide_eq_false (fun z => by rw [hsg] at z; omega)
              have e2 : p2F t L p = p + 1 := by unfold p2F; rw [hd2]; rfl
              have eU : t p - 48 = unO t L p := by unfold unO; rw [if_neg b1, hd2, hsg]; rfl
              refine ⟨by decide, fun z => by omega, fun _ => ?_⟩
              rw [← e2]
              exact tail2 g2 _ _ _ eU (by omega) hO2
          · obtain ⟨v1, v2⟩ := h2.2.2 ⟨h46, hd⟩
            subst v2
            exact ⟨by omega, fun _ => rdP.bad p0 hr (rd_bad0 (by rw [hsg]; exact h46) (by rw [hsg]; exact hd)) hO, fun z => absurd v1 z⟩
      · have hs := sgn_out (t := t) hp
        have hb := rd_bad0 (t := t) (L := L) (p := p) (by rw [hs]; decide) (by rw [hs]; decide)
        exact fin 0 p g1 (by decide) p0 (by omega) (by omega) (lg hO) (fun z => absurd z (by decide)) (fun _ => by
          have e : L = p := by omega
          have h9 := rdP.bad (e := p) p0 hr hb hO
          rw [← e] at h9
          exact h9)
  refine ZW.aload_n dX3_read_0 rfl ?_
  refine ZW.iconst dX3_read_1 ?_
  refine ZW.puti (fz := 2) dX3_read_2 fp_X3_27 ⟨_, rfl, rfl⟩ rfl ?_
  refine ZW.iconst dX3_read_5 ?_
  refine ZW.istore_n dX3_read_6 (by decide) rfl ?_
  refine ZW.iconst dX3_read_7 ?_
  refine ZW.istore_n dX3_read_8 (by decide) rfl ?_
  refine head 61 0 0 [] _ (g 89 6) (g 89 7) (g 89 8) (by omega) (by omega) (by omega) (by omega) rfl rfl ⟨(zFr.rf _ _).set (by decide) _ _, ?_⟩
  rw [zSet_same, zUp_ne _ _ (by decide), zUp_same, zUp_ne _ _ (by decide), zUp_ne _ _ (by decide), zUp_ne _ _ (by decide)]
  exact ⟨rfl, rfl, rfl, rfl, rfl, rfl, fun j o hj => by cases hj⟩
