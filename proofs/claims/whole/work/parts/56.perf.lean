-- the class performs the orders of its text
theorem resF_R {t : Int → Int} {L : Int} (hL : L ≤ 60) : ∀ {n : Nat} {p : Int}, 0 ≤ p → p ≤ 61 → resF t L n p = -5 ∨ (0 ≤ resF t L n p ∧ resF t L n p ≤ 70)
  | 0, _, _, _ => Or.inr ⟨Int.le_refl 0, show (0 : Int) ≤ 70 by decide⟩
  | n + 1, p, h0, h1 => by
    have h2 := atO_R t L p
    rw [resF_s]
    split
    · split
      · split
        · exact resF_R hL (by omega) (by omega)
        · exact Or.inr ⟨by omega, by omega⟩
      · exact Or.inl rfl
    · exact Or.inr ⟨by omega, by omega⟩
theorem ordL_len {t : Int → Int} {L : Int} (hL : L ≤ 60) : ∀ {n : Nat} {p : Int}, ((ordL t L n p).length : Int) ≤ 0 ∨ 2 * ((ordL t L n p).length : Int) ≤ L + 1 - p
  | 0, _ => Or.inl (show ((0 : Nat) : Int) ≤ 0 by decide)
  | n + 1, p => by
    rw [ordL_s]
    split
    · next hk =>
      have h1 := okO_lt hk
      have h2 := ordL_len (t := t) hL (n := n) (p := atO t L p + 1)
      split
      · next q => rw [List.length_cons]; omega
      · rw [List.length_cons, List.length_nil]; omega
    · exact Or.inl (by decide)
noncomputable def prfV (r t : Int → Int) (L : Int) : Int := if resF t L 61 0 = -5 then (if runC r (ordL t L 61 0) = 0 then ((ordL t L 61 0).length : Int) else runC r (ordL t L 61 0)) else -100 - resF t L 61 0
def prfOk (r t : Int → Int) (L : Int) : Prop := resF t L 61 0 = -5 ∧ runC r (ordL t L 61 0) = 0
theorem okX_do {r : Int → Int} (h : okX r) {o : ZO} (ho : zoP o) : okX (doS r o) := by
  unfold doS
  split
  · next hr =>
    unfold rawF at hr
    split
    · next h0 => rw [if_pos h0] at hr; exact okX_moves h hr
    · next h0 =>
      rw [if_neg h0] at hr
      split
      · next h1 => rw [if_pos h1] at hr; exact okX_fights h hr
      · next h1 =>
        rw [if_neg h1] at hr
        split at hr
        · exact absurd hr (by decide)
        · next h9 => exact okX_ends h h9
  · exact h
theorem okX_run {l : List ZO} (hl : ∀ o ∈ l, zoP o) : ∀ {r : Int → Int}, okX r → okX (runS r l) := by
  induction l with
  | nil => intro r h; exact h
  | cons o l ih =>
    intro r h
    exact ih (fun z hz => hl z (List.mem_cons_of_mem _ hz)) (okX_do h (hl o List.mem_cons_self))
def prP (g : ZH) (r t : Int → Int) (L n : Int) (H : Int → Int → Int) (g' : ZH) (v : Int) : Prop := v = prfV r t L ∧ cA g g' ∧ (¬ prfOk r t L → StN g' r ∧ HisN g' n H) ∧ (prfOk r t L → StN g' (runS r (ordL t L 61 0)) ∧ HisN g' (minF (n + 1) 4) (psH r H))
set_option maxRecDepth 100000 in
set_option maxHeartbeats 1000000 in
theorem c_X7_perform (g : ZH) {r t : Int → Int} {n L : Int} {H : Int → Int → Int} (hX : okX r) (hS : StN g r) (hb : BdN g) (hH : HisN g n H) (hT : g 90 = t) (hL : g 89 1 = L) (ht : txP t L) : ZC 6 mX7_perform [.inr 0] g (fun v g' => prP g r t L n H g' v) := by
  have h16 := hX.1.1.1.2
  have hrR := resF_R (t := t) (L := L) ht.2.1 (n := 61) (p := 0) (by decide) (by decide)
  refine ZC.of (by decide +kernel) (Nat.le_of_ble_eq_true rfl) ?_
  refine ZW.aload_n dX7_perform_0 rfl ?_
  refine ZW.getR dX7_perform_1 fl_X7_41 ⟨_, rfl, rfl⟩ ?_
  refine ZW.callV (as := []) dX7_perform_4 cv_X7_147 ⟨_, rfl⟩ rfl (by decide) (Nat.le_of_ble_eq_true rfl) rfl (c_X3_read _ hT hL ht) (fun v1 g1 ⟨q1, k, U, S, C, l, hO, hl⟩ => ?_)
  have hv1 : zR v1 := by rw [q1]; split <;> omega
  have S1 := hS.fr hO.1 (by decide)
  have b1 := hb.fr hO.1 (by decide)
  have H1 := hH.fr (g' := g1) (fun k k0 k1 => hO.1 k (by simp; omega))
  have A1 : cA g g1 := ⟨fun k hk => hO.1 k (by simp; omega), hO.2.1⟩
  refine ZW.istore_n dX7_perform_7 (by decide) rfl ?_
  refine ZW.iload_n dX7_perform_8 rfl ?_
  refine ZW.iconst dX7_perform_9 ?_
  refine ZW.icmp_eq (tgt := 18) dX7_perform_10 (by decide) (by first | omega | exact zB_R _) (by first | omega | exact zB_R _) (fun c10 => ?_) (fun c10 => ?_)
  · have h5 : resF t L 61 0 = -5 := by
      rw [c10] at q1
      split at q1
      · assumption
      · omega
    have hl2 := hl h5
    have hlz : ∀ o ∈ l, zoP o := by rw [hl2]; exact ordL_R
    refine ZW.aload_n dX7_perform_18 rfl ?_
    refine ZW.getR dX7_perform_19 fl_X7_25 ⟨_, rfl, rfl⟩ ?_
    refine ZW.aload_n dX7_perform_22 rfl ?_
    refine ZW.getR dX7_perform_23 fl_X7_21 ⟨_, rfl, rfl⟩ ?_
    refine ZW.callVv (as := [_]) dX7_perform_26 cv_X7_131 ⟨_, rfl⟩ rfl (by decide) (Nat.le_of_ble_eq_true rfl) rfl (fun _ _ hz _ => hz) (c_X4_copyFrom_15_3 _ h16 S1) (fun g2 ⟨f2, P2⟩ => ?_)
    obtain ⟨S2, b2, H2, A2⟩ := put_past S1 b1 H1 f2
    have A12 := A1.tr A2
    have hlen : g2 89 2 = (l.length : Int) := by rw [f2 89 (by decide), hO.2.2.1, hO.2.2.2.2.2.2.1]
    have hrow : rowC g2 l := by
      unfold rowC
      rw [f2 91 (by decide), f2 92 (by decide), f2 93 (by decide)]
      exact hO.2.2.2.2.2.2.2
    have hklen : (l.length : Int) ≤ 30 ∨ True := Or.inr trivial
    have head : ∀ (m : Nat) (j : Nat) (rj : Int → Int) (g3 : ZH) (o1 o3 : Option ZV), j + m = l.length → l.length < 31 → okX rj → StN g3 rj → frA g2 g3 → runC r l = runC rj (l.drop j) → runS r l = runS rj (l.drop j) → ZW 6 mX7_perform 31 [some (.inr 0), o1, some (.inl (j : Int)), o3] [] g3 (fun v g' => prP g r t L n H g' v) := by
      intro m
      induction m with
      | zero =>
        intro j rj g3 o1 o3 hj hl30 hXj Sj F hc hs
        have e3 : g3 89 2 = (l.length : Int) := by rw [F 89 (by decide)]; exact hlen
        have hd : l.drop j = [] := List.drop_eq_nil_of_le (by omega)
        rw [hd] at hc hs
        refine ZW.iload_n dX7_perform_31 rfl ?_
        refine ZW.aload_n dX7_perform_32 rfl ?_
        refine ZW.getR dX7_perform_33 fl_X7_41 ⟨_, rfl, rfl⟩ ?_
        refine ZW.getI (fz := 2) dX7_perform_36 fl_X7_150 ⟨_, rfl, rfl⟩ rfl rfl ?_
        rw [e3]
        refine ZW.icmp_ge (tgt := 156) dX7_perform_39 (by decide) (by first | omega | exact zB_R _) (by first | omega | exact zB_R _) (fun c39 => ?_) (fun c39 => ?_)
        · refine ZW.aload_n dX7_perform_156 rfl ?_
          refine ZW.aload_n dX7_perform_157 rfl ?_
          refine ZW.getR dX7_perform_158 fl_X7_41 ⟨_, rfl, rfl⟩ ?_
          refine ZW.getI (fz := 2) dX7_perform_161 fl_X7_150 ⟨_, rfl, rfl⟩ rfl rfl ?_
          rw [e3]
          refine ZW.callV (as := [_]) dX7_perform_164 cv_X7_138 ⟨_, rfl⟩ rfl (by decide) (Nat.le_of_ble_eq_true rfl) rfl (c_X7_recordedIfDone _ ⟨by omega, by omega⟩ hX (F.past P2) (F.his H2)) (fun v4 g4 h4 => ?_)
          refine ZW.ireti dX7_perform_167 rfl ?_
          have hok : prfOk r t L := ⟨h5, by rw [← hl2, hc]; rfl⟩
          have hd4 := act_end (F := rj) A12 F H2 (fun _ => Sj) (fun q => by omega) h4
          refine ⟨?_, hd4.2.1, fun q => absurd hok q, fun _ => ?_⟩
          · unfold prfV
            rw [if_pos h5, if_pos hok.2, ← hl2]
            exact hd4.1
          · rw [← hl2, hs]
            exact hd4.2.2.2 (by omega)
        · exact absurd c39 (by omega)
      | succ m ih =>
        intro j rj g3 o1 o3 hj hl30 hXj Sj F hc hs
        have e3 : g3 89 2 = (l.length : Int) := by rw [F 89 (by decide)]; exact hlen
        have bj := F.bd b2
        obtain ⟨o, ho⟩ : ∃ o, l[j]? = some o := ⟨l[j]'(by omega), List.getElem?_eq_getElem (by omega)⟩
        have hoz := hlz o (List.mem_of_getElem? ho)
        have hro := hrow j o ho
        have hz2 : 0 ≤ o.2.1 ∧ o.2.1 < 16 := hoz.2.1
        have hz3 : 0 ≤ o.2.2 ∧ o.2.2 < 63 := hoz.2.2
        rw [← F 91 (by decide), ← F 92 (by decide), ← F 93 (by decide)] at hro
        have hdr : l.drop j = o :: l.drop (j + 1) := by
          rw [List.drop_eq_getElem_cons (by omega)]
          congr 1
          rw [List.getElem?_eq_getElem (by omega)] at ho
          exact Option.some.inj ho
        rw [hdr, runC_c] at hc
        rw [hdr] at hs
        have hs2 : runS r l = runS (doS rj o) (l.drop (j + 1)) := hs
        have hraw := rawF_R rj o
        -- behind one order
        have tail : ∀ (v : Int) (g4 : ZH) (o1 : Option ZV), -5 ≤ v → v < 1000 → frA g3 g4 → (rawF rj o = 0 → 0 ≤ v ∧ StN g4 (doS rj o)) → (rawF rj o ≠ 0 → v = rawF rj o ∧ StN g4 rj) → ZW 6 mX7_perform 127 [some (.inr 0), o1, some (.inl (j : Int)), some (.inl v)] [] g4 (fun v g' => prP g r t L n H g' v) := by
          intro v g4 o1 vR vR2 F4 hy hn
          have again : rawF rj o = 0 ∨ rawF rj o = -5 → ZW 6 mX7_perform 150 [some (.inr 0), o1, some (.inl (j : Int)), some (.inl v)] [] g4 (fun v g' => prP g r t L n H g' v) := by
            intro hq
            have hdo : doR rj o = 0 := by unfold doR; split <;> omega
            rw [if_pos hdo] at hc
            have h4 : StN g4 (doS rj o) := by
              by_cases q : rawF rj o = 0
              · exact (hy q).2
              · have : doS rj o = rj := by unfold doS; rw [if_neg q]
                rw [this]; exact (hn q).2
            refine ZW.iinc dX7_perform_150 rfl (by decide) rfl ?_
            refine ZW.goto (tgt := 31) dX7_perform_153 (by decide) ?_
            have h6 := ih (j + 1) (doS rj o) g4 o1 (some (.inl v)) (by omega) hl30 (okX_do hXj hoz) h4 (F.tr F4) hc hs2
            rw [show ((j + 1 : Nat) : Int) = (j : Int) + 1 by omega] at h6
            exact h6
          refine ZW.iload_n dX7_perform_127 rfl ?_
          refine ZW.if_ge (tgt := 150) dX7_perform_128 (by decide) (by first | omega | exact zB_R _) (fun c128 => ?_) (fun c128 => ?_)
          · exact again (Or.inl (Classical.byContradiction (fun q => by have := hn q; omega)))
          · refine ZW.iload_n dX7_perform_131 rfl ?_
            refine ZW.bipush dX7_perform_132 rfl ?_
            refine ZW.icmp_eq (tgt := 150) dX7_perform_134 (by decide) (by first | omega | exact zB_R _) (by first | omega | exact zB_R _) (fun c134 => ?_) (fun c134 => ?_)
            · exact again (Or.inr (by
                by_cases q : rawF rj o = 0
                · have := hy q; omega
                · have := (hn q).1; omega))
            · have q : rawF rj o ≠ 0 := fun q => by have := hy q; omega
              have hv := (hn q).1
              have hdo : doR rj o = v := by unfold doR; rw [if_neg (by omega)]; exact hv.symm
              rw [if_neg (by omega), hdo] at hc
              have h15 := (F.tr F4).past P2
              refine ZW.aload_n dX7_perform_137 rfl ?_
              refine ZW.getR dX7_perform_138 fl_X7_21 ⟨_, rfl, rfl⟩ ?_
              refine ZW.aload_n dX7_perform_141 rfl ?_
              refine ZW.getR dX7_perform_142 fl_X7_25 ⟨_, rfl, rfl⟩ ?_
              refine ZW.callVv (as := [_]) dX7_perform_145 cv_X7_131 ⟨_, rfl⟩ rfl (by decide) (Nat.le_of_ble_eq_true rfl) rfl (fun _ _ hz _ => hz) (c_X4_copyFrom_3_15 _ h16 h15) (fun g5 ⟨f5, S5⟩ => ?_)
              refine ZW.iload_n dX7_perform_148 rfl ?_
              refine ZW.ireti dX7_perform_149 rfl ?_
              have hno : ¬ prfOk r t L := fun z => by have := z.2; rw [← hl2] at this; omega
              have F5 : frA g2 g5 := (F.tr F4).tr (frA.of f5 (by decide))
              refine ⟨?_, A12.tr (cA.A F5), fun _ => ⟨S5, F5.his H2⟩, fun z => absurd z hno⟩
              unfold prfV
              rw [if_pos h5, ← hl2, hc, if_neg (by omega)]
        refine ZW.iload_n dX7_perform_31 rfl ?_
        refine ZW.aload_n dX7_perform_32 rfl ?_
        refine ZW.getR dX7_perform_33 fl_X7_41 ⟨_, rfl, rfl⟩ ?_
        refine ZW.getI (fz := 2) dX7_perform_36 fl_X7_150 ⟨_, rfl, rfl⟩ rfl rfl ?_
        rw [e3]
        refine ZW.icmp_ge (tgt := 156) dX7_perform_39 (by decide) (by first | omega | exact zB_R _) (by first | omega | exact zB_R _) (fun c39 => ?_) (fun c39 => ?_)
        · exact absurd c39 (by omega)
        · refine ZW.aload_n dX7_perform_42 rfl ?_
          refine ZW.getR dX7_perform_43 fl_X7_41 ⟨_, rfl, rfl⟩ ?_
          refine ZW.getR dX7_perform_46 fl_X7_153 ⟨_, rfl, rfl⟩ ?_
          refine ZW.iload_n dX7_perform_49 rfl ?_
          refine ZW.cald dX7_perform_50 rfl (by decide) (by omega) rfl ?_
          rw [hro.1]
          by_cases o0 : o.1 = 0
          · have hno := hro.2 (by omega)
            have hraw0 : rawF rj o = refMF rj o.2.1 o.2.2 := by unfold rawF; rw [if_pos o0]
            rw [if_pos o0]
            refine ZW.bipush dX7_perform_51 rfl ?_
            refine ZW.icmp_ne (tgt := 82) dX7_perform_53 (by decide) (by first | omega | exact zB_R _) (by first | omega | exact zB_R _) (fun c53 => ?_) (fun c53 => ?_)
            · exact absurd rfl c53
            · refine ZW.aload_n dX7_perform_56 rfl ?_
              refine ZW.aload_n dX7_perform_57 rfl ?_
              refine ZW.getR dX7_perform_58 fl_X7_41 ⟨_, rfl, rfl⟩ ?_
              refine ZW.getR dX7_perform_61 fl_X7_157 ⟨_, rfl, rfl⟩ ?_
              refine ZW.iload_n dX7_perform_64 rfl ?_
              refine ZW.iald dX7_perform_65 rfl (by decide) (by omega) rfl ?_
              rw [hno.1]
              refine ZW.aload_n dX7_perform_66 rfl ?_
              refine ZW.getR dX7_perform_67 fl_X7_41 ⟨_, rfl, rfl⟩ ?_
              refine ZW.getR dX7_perform_70 fl_X7_159 ⟨_, rfl, rfl⟩ ?_
              refine ZW.iload_n dX7_perform_73 rfl ?_
              refine ZW.iald dX7_perform_74 rfl (by decide) (by omega) rfl ?_
              rw [hno.2]
              refine ZW.callV (as := [_, _]) dX7_perform_75 cv_X7_134 ⟨_, rfl⟩ rfl (by decide) (Nat.le_of_ble_eq_true rfl) rfl (c_X7_moveUnit _ hXj.1 Sj bj ⟨by omega, by omega⟩ ⟨by omega, by omega⟩) (fun v4 g4 ⟨q4, F4, y4, n4⟩ => ?_)
              have hM := refMF_R rj o.2.1 o.2.2
              have hV : (refMF rj o.2.1 o.2.2 = 0 → 0 ≤ v4 ∧ v4 < 1000) ∧ (refMF rj o.2.1 o.2.2 ≠ 0 → v4 = refMF rj o.2.1 o.2.2) := by
                rw [q4]
                unfold movV
                refine ⟨fun q => ?_, fun q => by rw [if_neg q]⟩
                rw [if_pos q]
                obtain ⟨h1, h2, h3, h4, h5, h6⟩ := refMF_0 q
                have hu2 := isUnitB_t hXj.1.1.1 h1
                have hw := wayF_R rj o.2.1 o.2.2
                have hP := ofF_R hXj.1.1.1 (u := o.2.1) (w := 3) ⟨hu2.1, hu2.2.2.1⟩ (by decide)
                unfold movesR
                omega
              refine ZW.istore_n dX7_perform_78 (by decide) rfl ?_
              refine ZW.goto (tgt := 127) dX7_perform_79 (by decide) ?_
              refine tail v4 g4 _ ?_ ?_ F4 (fun q => ?_) (fun q => ?_)
              · by_cases q : refMF rj o.2.1 o.2.2 = 0
                · have := hV.1 q; omega
                · have := hV.2 q; omega
              · by_cases q : refMF rj o.2.1 o.2.2 = 0
                · have := hV.1 q; omega
                · have := hV.2 q; omega
              · have hq := hraw0.symm.trans q
                refine ⟨(hV.1 hq).1, ?_⟩
                unfold doS
                rw [if_pos q, if_pos o0]
                exact y4 hq
              · rw [hraw0] at q ⊢
                exact ⟨hV.2 q, n4 q⟩
          · rw [if_neg o0]
            by_cases o1' : o.1 = 1
            · have hno := hro.2 (by omega)
              have hraw0 : rawF rj o = refAF rj o.2.1 o.2.2 := by unfold rawF; rw [if_neg o0, if_pos o1']
              rw [if_pos o1']
              refine ZW.bipush dX7_perform_51 rfl ?_
              refine ZW.icmp_ne (tgt := 82) dX7_perform_53 (by decide) (by first | omega | exact zB_R _) (by first | omega | exact zB_R _) (fun c53 => ?_) (fun c53 => ?_)
              · refine ZW.aload_n dX7_perform_82 rfl ?_
                refine ZW.getR dX7_perform_83 fl_X7_41 ⟨_, rfl, rfl⟩ ?_
                refine ZW.getR dX7_perform_86 fl_X7_153 ⟨_, rfl, rfl⟩ ?_
                refine ZW.iload_n dX7_perform_89 rfl ?_
                refine ZW.cald dX7_perform_90 rfl (by decide) (by omega) rfl ?_
                rw [hro.1, if_neg o0, if_pos o1']
                refine ZW.bipush dX7_perform_91 rfl ?_
                refine ZW.icmp_ne (tgt := 122) dX7_perform_93 (by decide) (by first | omega | exact zB_R _) (by first | omega | exact zB_R _) (fun c93 => ?_) (fun c93 => ?_)
                · exact absurd rfl c93
                · refine ZW.aload_n dX7_perform_96 rfl ?_
                  refine ZW.aload_n dX7_perform_97 rfl ?_
                  refine ZW.getR dX7_perform_98 fl_X7_41 ⟨_, rfl, rfl⟩ ?_
                  refine ZW.getR dX7_perform_101 fl_X7_157 ⟨_, rfl, rfl⟩ ?_
                  refine ZW.iload_n dX7_perform_104 rfl ?_
                  refine ZW.iald dX7_perform_105 rfl (by decide) (by omega) rfl ?_
                  rw [hno.1]
                  refine ZW.aload_n dX7_perform_106 rfl ?_
                  refine ZW.getR dX7_perform_107 fl_X7_41 ⟨_, rfl, rfl⟩ ?_
                  refine ZW.getR dX7_perform_110 fl_X7_159 ⟨_, rfl, rfl⟩ ?_
                  refine ZW.iload_n dX7_perform_113 rfl ?_
                  refine ZW.iald dX7_perform_114 rfl (by decide) (by omega) rfl ?_
                  rw [hno.2]
                  refine ZW.callV (as := [_, _]) dX7_perform_115 cv_X7_141 ⟨_, rfl⟩ rfl (by decide) (Nat.le_of_ble_eq_true rfl) rfl (c_X7_strike _ hXj Sj bj ⟨by omega, by omega⟩ ⟨by omega, by omega⟩) (fun v4 g4 ⟨q4, F4, y4, n4⟩ => ?_)
                  have hM := refAF_R rj o.2.1 o.2.2
                  have hV : (refAF rj o.2.1 o.2.2 = 0 → 0 ≤ v4 ∧ v4 < 1000) ∧ (refAF rj o.2.1 o.2.2 ≠ 0 → v4 = refAF rj o.2.1 o.2.2) := by
                    rw [q4]
                    unfold attV
                    refine ⟨fun q => ?_, fun q => by rw [if_neg q]⟩
                    rw [if_pos q]
                    obtain ⟨h1, h2, h3, h4, h5⟩ := refAF_0 q
                    obtain ⟨t1, t2, t3, t4, t5, t6, t7, t8, t9⟩ := canF_t hXj.1.1.1 h5
                    have hw1 := ofF_R hXj.1.1.1 (u := unitOnF rj o.2.2) (w := 1) ⟨t2, t4⟩ (by decide)
                    unfold fightsR
                    split
                    · exact weakF_R hXj.1.1.1 ⟨t2, t4⟩ (by omega)
                    · omega
                  refine ZW.istore_n dX7_perform_118 (by decide) rfl ?_
                  refine ZW.goto (tgt := 127) dX7_perform_119 (by decide) ?_
                  refine tail v4 g4 _ ?_ ?_ F4 (fun q => ?_) (fun q => ?_)
                  · by_cases q : refAF rj o.2.1 o.2.2 = 0
                    · have := hV.1 q; omega
                    · have := hV.2 q; omega
                  · by_cases q : refAF rj o.2.1 o.2.2 = 0
                    · have := hV.1 q; omega
                    · have := hV.2 q; omega
                  · have hq := hraw0.symm.trans q
                    refine ⟨(hV.1 hq).1, ?_⟩
                    unfold doS
                    rw [if_pos q, if_neg o0, if_pos o1']
                    exact y4 hq
                  · rw [hraw0] at q ⊢
                    exact ⟨hV.2 q, n4 q⟩
              · exact absurd c53 (by decide)
            · rw [if_neg o1']
              have hraw0 : rawF rj o = if rj 191 = 999 then -3 else 0 := by unfold rawF; rw [if_neg o0, if_neg o1']
              refine ZW.bipush dX7_perform_51 rfl ?_
              refine ZW.icmp_ne (tgt := 82) dX7_perform_53 (by decide) (by first | omega | exact zB_R _) (by first | omega | exact zB_R _) (fun c53 => ?_) (fun c53 => ?_)
              · refine ZW.aload_n dX7_perform_82 rfl ?_
                refine ZW.getR dX7_perform_83 fl_X7_41 ⟨_, rfl, rfl⟩ ?_
                refine ZW.getR dX7_perform_86 fl_X7_153 ⟨_, rfl, rfl⟩ ?_
                refine ZW.iload_n dX7_perform_89 rfl ?_
                refine ZW.cald dX7_perform_90 rfl (by decide) (by omega) rfl ?_
                rw [hro.1, if_neg o0, if_neg o1']
                refine ZW.bipush dX7_perform_91 rfl ?_
                refine ZW.icmp_ne (tgt := 122) dX7_perform_93 (by decide) (by first | omega | exact zB_R _) (by first | omega | exact zB_R _) (fun c93 => ?_) (fun c93 => ?_)
                · refine ZW.aload_n dX7_perform_122 rfl ?_
                  refine ZW.callV (as := []) dX7_perform_123 cv_X7_144 ⟨_, rfl⟩ rfl (by decide) (Nat.le_of_ble_eq_true rfl) rfl (c_X7_finishTurn _ hXj.1 Sj bj) (fun v4 g4 ⟨q4, F4, y4, n4⟩ => ?_)
                  have hV := endV_R hXj.1
                  rw [← q4] at hV
                  refine ZW.istore_n dX7_perform_126 (by decide) rfl ?_
                  refine tail v4 g4 _ hV.1 hV.2.1 F4 (fun q => ?_) (fun q => ?_)
                  · have h9 : rj 191 ≠ 999 := fun z => by rw [hraw0, if_pos z] at q; exact absurd q (by decide)
                    refine ⟨hV.2.2.mp h9, ?_⟩
                    unfold doS
                    rw [if_pos q, if_neg o0, if_neg o1']
                    exact y4 h9
                  · have h9 : rj 191 = 999 := Classical.byContradiction (fun z => q (by rw [hraw0, if_neg z]))
                    refine ⟨?_, n4 h9⟩
                    rw [q4, hraw0, if_pos h9]
                    unfold endV
                    rw [if_pos h9]
                · exact absurd c93 (by decide)
              · exact absurd c53 (by decide)
    have hl31 : l.length < 31 := by
      have := ordL_len (t := t) (L := L) ht.2.1 (n := 61) (p := 0)
      have hL60 : L ≤ 60 := ht.2.1
      rw [← hl2] at this
      omega
    refine ZW.iconst dX7_perform_29 ?_
    refine ZW.istore_n dX7_perform_30 (by decide) rfl ?_
    exact head l.length 0 r g2 _ _ (by omega) hl31 hX S2 (frA.rf _) rfl rfl
  · have h5 : resF t L 61 0 ≠ -5 := fun q => c10 (by rw [q1, if_pos q])
    rw [if_neg h5] at q1
    refine ZW.bipush dX7_perform_13 rfl ?_
    refine ZW.iload_n dX7_perform_15 rfl ?_
    refine ZW.isub dX7_perform_16 ?_
    refine ZW.ireti dX7_perform_17 rfl ?_
    have hno : ¬ prfOk r t L := fun z => h5 z.1
    exact ⟨by unfold prfV; rw [if_neg h5, ← q1], A1, fun _ => ⟨S1, H1⟩, fun z => absurd z hno⟩
