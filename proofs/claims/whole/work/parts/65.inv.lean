-- WHAT HOLDS BETWEEN TWO CALLS OF THE LAW
theorem ofF_cong {r r' : Int → Int} (h : ∀ i, 0 ≤ i → i < 289 → r' i = r i) {u w : Int} (hu : 0 ≤ u ∧ u < 16) (hw : 0 ≤ w ∧ w < 6) : ofF r' u w = ofF r u w := h (193 + 6 * u + w) (by omega) (by omega)
theorem StF.cong {o gr ri fo un ba si st he po at_ sv r r' : Int → Int} (hS : StF o gr ri fo un ba si st he po at_ sv r) (h16 : 0 ≤ r 192 ∧ r 192 ≤ 16) (h : ∀ i, 0 ≤ i → i < 289 → r' i = r i) : StF o gr ri fo un ba si st he po at_ sv r' := by
  have h192 := h 192 (by decide) (by decide)
  obtain ⟨a, b, c, d⟩ := hS
  refine ⟨fun x x0 x1 => ?_, ⟨b.1.trans (h 189 (by decide) (by decide)).symm, b.2.trans (h 190 (by decide) (by decide)).symm⟩, ⟨c.1.trans h192.symm, c.2.trans (h 191 (by decide) (by decide)).symm⟩, fun u u0 u1 => ?_⟩
  · obtain ⟨a1, a2, a3, a4⟩ := a x x0 x1
    refine ⟨a1.trans (h x (by omega) (by omega)).symm, a2.trans (h (63 + x) (by omega) (by omega)).symm, by rw [a3, h (126 + x) (by omega) (by omega)], a4.trans (uoN_eq (uo_cong h192 (fun z z0 z1 => ?_))).symm⟩
    rw [ofF_cong h ⟨z0, by omega⟩ (by decide), ofF_cong h ⟨z0, by omega⟩ (by decide)]
  · rw [h192] at u1
    have e := fun w (hw : 0 ≤ w ∧ w < 6) => ofF_cong h (u := u) (w := w) ⟨u0, by omega⟩ hw
    rw [e 0 (by decide), e 1 (by decide), e 2 (by decide), e 3 (by decide), e 4 (by decide), e 5 (by decide)]
    exact d u u0 u1
theorem okX_cong {r r' : Int → Int} (hX : okX r) (h : ∀ i, 0 ≤ i → i < 289 → r' i = r i) : okX r' := by
  obtain ⟨⟨⟨hB, hU, hT⟩, hN, hV, hF, hZ⟩, h4⟩ := hX
  have h192 := h 192 (by decide) (by decide)
  have h191 := h 191 (by decide) (by decide)
  have n0 := hB.1 192 (by decide) (by decide)
  have n1 := hB.2
  have e := fun u w (hu : 0 ≤ u ∧ u < 16) (hw : 0 ≤ w ∧ w < 6) => ofF_cong h (u := u) (w := w) hu hw
  refine ⟨⟨⟨⟨fun i i0 i1 => by rw [h i i0 i1]; exact hB.1 i i0 i1, by rw [h192]; exact n1⟩, fun u u0 u1 => ?_, fun u u0 u1 => ?_, by rw [h191]; exact hT.2⟩, fun u v u0 u1 v0 v1 hu hv he => ?_, okV_off hV (fun x x0 x1 => h (63 + x) (by omega) (by omega)), fun x x0 x1 => by rw [h (126 + x) (by omega) (by omega)]; exact hF x x0 x1, fun u u0 u1 => ?_⟩, fun u u0 u1 => ?_⟩
  · rw [e u 0 ⟨u0, u1⟩ (by decide), e u 2 ⟨u0, u1⟩ (by decide)]; exact hU u u0 u1
  · rw [e u 5 ⟨u0, u1⟩ (by decide), h191]; exact hT.1 u u0 u1
  · rw [h192] at u1 v1
    rw [e u 1 ⟨u0, by omega⟩ (by decide)] at hu
    rw [e v 1 ⟨v0, by omega⟩ (by decide)] at hv
    rw [e u 2 ⟨u0, by omega⟩ (by decide), e v 2 ⟨v0, by omega⟩ (by decide)] at he
    exact hN u v u0 u1 v0 v1 hu hv he
  · rw [h192] at u0
    rw [e u 5 ⟨by omega, u1⟩ (by decide)]
    exact hZ u u0 u1
  · rw [e u 4 ⟨u0, u1⟩ (by decide)]; exact h4 u u0 u1
def hisP (g : ZH) (H : Int → Int → Int) : Prop := HisN g (g 100 4) H ∧ ∀ k, 0 ≤ k → k < g 100 4 → ∀ i, 0 ≤ i → i < 289 → hN g k i = H k i
def snpP (g : ZH) : Prop := g 0 4 = g 100 6 ∧ (g 100 6 = 1 → ∃ R, okX R ∧ StAt g 27 R ∧ ∀ i, 0 ≤ i → i < 289 → g 104 i = R i)
def Inv (g : ZH) : Prop := rI g ∧ okX (g 101) ∧ StN g (g 101) ∧ BdN g ∧ (∃ H : Int → Int → Int, hisP g H) ∧ (g 90 = g 105 ∧ g 89 1 = g 100 8) ∧ snpP g
theorem rI.cA {g g1 : ZH} (h : rI g) (hA : cA g g1) : rI g1 := by
  unfold rI
  rw [hA.1 101 (by omega), hA.1 100 (by omega), hA.1 105 (by omega)]
  exact h
theorem BdN.two {g g1 : ZH} (h : BdN g) (e : g1 2 = g 2) : BdN g1 := fun x d x0 x1 d0 d1 => by rw [e]; exact h x d x0 x1 d0 d1
theorem okX_n {r : Int → Int} (h : okX r) : 0 ≤ r 192 ∧ r 192 ≤ 16 := ⟨(h.1.1.1.1 192 (by decide) (by decide)).1, h.1.1.1.2⟩
theorem hN_cA {g g1 : ZH} (hA : cA g g1) (k i : Int) : hN g1 k i = hN g k i := by unfold hN; rw [hA.1 103 (by omega), hA.1 100 (by omega)]
/-- behind both calls: nothing done, or recorded and F now -/
theorem Inv.gen {g g1 g2 : ZH} {ok : Prop} {F : Int → Int} {H : Int → Int → Int} (hI : Inv g) (hH : hisP g H) (hA : cA g g1) (hn : ¬ ok → StN g1 (g 101) ∧ HisN g1 (g 100 4) H) (hy : ok → StN g1 F ∧ HisN g1 (minF (g 100 4 + 1) 4) (psH (g 101) H)) (rn : ¬ ok → rSame g1 g2) (ry : ok → rDone g1 g2 F) (hF : ok → okX F) : Inv g2 := by
  obtain ⟨i1, i2, i3, i4, -, i6, i7⟩ := hI
  have hr : rA g1 g2 := by
    by_cases q : ok
    · exact (ry q).1
    · exact (rn q).1
  have e101 := hA.1 101 (by omega)
  have e100 := hA.1 100 (by omega)
  have e105 := hA.1 105 (by omega)
  have e104 := hA.1 104 (by omega)
  obtain ⟨ra, rb, rc, rd, re⟩ := hr
  have hb : BdN g2 := i4.two ((ra 2 (by omega)).trans (hA.1 2 (by omega)))
  have htx : g2 90 = g2 105 ∧ g2 89 1 = g2 100 8 := by
    refine ⟨?_, ?_⟩
    · rw [ra 90 (by omega), hA.1 90 (by omega), rc, e105]; exact i6.1
    · rw [ra 89 (by omega), hA.2, re, e100]; exact i6.2
  have hsn : snpP g2 := by
    refine ⟨?_, fun q => ?_⟩
    · rw [ra 0 (by omega), hA.1 0 (by omega), rd, e100]; exact i7.1
    · rw [rd, e100] at q
      obtain ⟨R, r1, r2, r3⟩ := i7.2 q
      exact ⟨R, r1, r2.fr (fun k k0 k1 => (ra k (by omega)).trans (hA.1 k (by omega))), fun i i0 i1 => by rw [rb, e104]; exact r3 i i0 i1⟩
  by_cases q : ok
  · obtain ⟨-, ⟨rr1, rr2, rr3⟩, rF⟩ := ry q
    obtain ⟨s1, s2⟩ := hy q
    have hX := hF q
    have hcnt : g2 100 4 = minF (g 100 4 + 1) 4 := by
      have := i1.2.1
      rw [rr1, e100]
      unfold minF
      split <;> split <;> omega
    refine ⟨⟨by rw [rF]; exact hX.1, ?_, by rw [rc, e105, re, e100]; exact i1.2.2.1, by rw [rd, e100]; exact i1.2.2.2⟩, by rw [rF]; exact hX, by rw [rF]; exact StAt.fr (b := 3) s1 (fun k k0 k1 => ra k (by omega)), hb, ⟨psH (g 101) H, by rw [hcnt]; exact s2.fr (fun k k0 k1 => ra k (by omega)), fun k k0 k1 i i0 i1' => ?_⟩, htx, hsn⟩
    · rw [hcnt]
      have := i1.2.1
      unfold minF
      split <;> omega
    · unfold psH
      by_cases qk : k = 0
      · rw [if_pos qk, qk, rr2 i i0 i1', e101]
      · rw [if_neg qk]
        have h1 := rr3 (k - 1) (by omega) (by omega) i i0 i1'
        rw [show k - 1 + 1 = k by omega] at h1
        rw [h1, hN_cA hA]
        refine hH.2 (k - 1) (by omega) ?_ i i0 i1'
        rw [hcnt] at k1
        have := i1.2.1
        unfold minF at k1
        split at k1 <;> omega
  · obtain ⟨-, rh, rF⟩ := rn q
    obtain ⟨s1, s2⟩ := hn q
    have e2 : g2 101 = g 101 := rF.trans e101
    have e4 : g2 100 4 = g 100 4 := rh.2.trans (by rw [e100])
    refine ⟨⟨by rw [e2]; exact i1.1, by rw [e4]; exact i1.2.1, by rw [rc, e105, re, e100]; exact i1.2.2.1, by rw [rd, e100]; exact i1.2.2.2⟩, by rw [e2]; exact i2, by rw [e2]; exact StAt.fr (b := 3) s1 (fun k k0 k1 => ra k (by omega)), hb, ⟨H, by rw [e4]; exact s2.fr (fun k k0 k1 => ra k (by omega)), fun k k0 k1 i i0 i1' => ?_⟩, htx, hsn⟩
    rw [e4] at k1
    rw [hN_same rh, hN_cA hA]
    exact hH.2 k k0 k1 i i0 i1'
/-- the same call of both: one answer, and all holds again -/
def opP (d1 : Nat) (M1 : MMeth) (d2 : Nat) (M2 : MMeth) (as : List ZV) (g : ZH) : Prop := ∃ V : Int, ZC d1 M1 (.inr 0 :: as) g (fun v g1 => v = V ∧ ZC d2 M2 (.inr 100 :: as) g1 (fun r g2 => r = V ∧ Inv g2))
theorem op_act {g : ZH} {d1 d2 : Nat} {M1 M2 : MMeth} {as : List ZV} {V : Int} {F : Int → Int} {H : Int → Int → Int} (hI : Inv g) (hH : hisP g H) (c1 : ZC d1 M1 (.inr 0 :: as) g (fun v g' => v = V ∧ cA g g' ∧ cDo g' (g 101) (g 100 4) H V F)) (c2 : ∀ g1, g1 101 = g 101 → rI g1 → ZC d2 M2 (.inr 100 :: as) g1 (fun r g2 => actP g1 g2 V F r)) (hF : 0 ≤ V → okX F) : opP d1 M1 d2 M2 as g :=
  ⟨V, c1.mono (fun v g1 ⟨e, hA, hD⟩ => ⟨e, (c2 g1 (hA.1 101 (by omega)) (hI.1.cA hA)).mono (fun r g2 ⟨e2, h3, h4⟩ => ⟨e2, hI.gen (ok := 0 ≤ V) hH hA (fun q => hD.1 (by omega)) hD.2 (fun q => h3 (by omega)) h4 hF⟩)⟩)⟩
theorem op_qry {g : ZH} {d1 d2 : Nat} {M1 M2 : MMeth} {as : List ZV} {V : Int} (hI : Inv g) (c1 : ZC d1 M1 (.inr 0 :: as) g (fun v g' => v = V ∧ zFr SC g g')) (c2 : ∀ g1, g1 101 = g 101 → g1 100 = g 100 → rI g1 → ZC d2 M2 (.inr 100 :: as) g1 (fun r g2 => r = V ∧ rSame g1 g2)) : opP d1 M1 d2 M2 as g := by
  obtain ⟨H, hH⟩ := hI.2.2.2.2.1
  refine ⟨V, c1.mono (fun v g1 ⟨e, hf⟩ => ?_)⟩
  have hA : cA g g1 := cA.of (fun k hk => hf k (by unfold SC; simp; omega))
  exact ⟨e, (c2 g1 (hA.1 101 (by omega)) (hA.1 100 (by omega)) (hI.1.cA hA)).mono (fun r g2 ⟨e2, h3⟩ => ⟨e2, hI.gen (ok := False) (F := g 101) hH hA (fun _ => ⟨hI.2.2.1.fr hf (by decide), hH.1.fr (fun k k0 k1 => hf k (by unfold SC; simp; omega))⟩) (fun q => q.elim) (fun _ => h3) (fun q => q.elim) (fun q => q.elim)⟩)⟩
