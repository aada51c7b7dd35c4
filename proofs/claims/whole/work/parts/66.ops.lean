-- EACH CALL OF THE LAW, AT BOTH
theorem gndV_ok {r : Int → Int} (h : okX r) {x k : Int} (q : 0 ≤ gndV r x k) : okX (zUp r x k) := by
  unfold gndV at q
  split at q
  · next e1 =>
    split at q
    · next e2 =>
      have hx := isHexB_t e1
      have hk := of_decide_eq_true e2
      exact okX_lo h (by omega) (by omega) (Or.inl (by omega)) (fun _ _ => by omega)
    · exact absurd q (by decide)
  · exact absurd q (by decide)
theorem rivV_ok {r : Int → Int} (h : okX r) {x d b : Int} (q : 0 ≤ rivV r x d b) : okX (rivS r x d) := by
  unfold rivV at q
  split at q
  · next e1 =>
    split at q
    · next e2 =>
      have hx := isHexB_t e1
      have hk := of_decide_eq_true e2
      split at q
      · exact absurd q (by decide)
      · next e3 => exact okX_riv h hx (by omega) e3
    · exact absurd q (by decide)
  · exact absurd q (by decide)
theorem fortV_ok {r : Int → Int} (h : okX r) {x s : Int} (q : 0 ≤ fortV r x s) : okX (fortS r x s) := by
  unfold fortV at q
  split at q
  · next e1 =>
    split at q
    · next e2 =>
      have hk := of_decide_eq_true e2
      exact okX_fort h (isHexB_t e1) (by omega)
    · exact absurd q (by decide)
  · exact absurd q (by decide)
theorem baseV_ok {r : Int → Int} (h : okX r) {s x : Int} (q : 0 ≤ baseV r s x) : okX (zUp r (189 + s) x) := by
  unfold baseV at q
  split at q
  · next e1 =>
    have e2 := (Bool.and_eq_true _ _).mp e1
    have hx := isHexB_t e2.2
    have hk := of_decide_eq_true e2.1
    exact okX_lo h (by omega) (by omega) (Or.inr (by omega)) (fun _ _ => by omega)
  · exact absurd q (by decide)
theorem movV_ok {r : Int → Int} (h : okX r) {u x : Int} (q : 0 ≤ movV r u x) : okX (movesF r u x) := by
  have hM := refMF_R r u x
  unfold movV at q
  split at q
  · next e => exact okX_moves h e
  · exact absurd q (by omega)
theorem attV_ok {r : Int → Int} (h : okX r) {u x : Int} (q : 0 ≤ attV r u x) : okX (fightsF r u x) := by
  have hM := refAF_R r u x
  unfold attV at q
  split at q
  · next e => exact okX_fights h e
  · exact absurd q (by omega)
theorem op_act2 {g : ZH} {d1 d2 : Nat} {M1 M2 : MMeth} {as : List ZV} {V : Int} {F : Int → Int} {H : Int → Int → Int} (hI : Inv g) (hH : hisP g H) (c1 : ZC d1 M1 (.inr 0 :: as) g (fun v g' => v = V ∧ cA g g' ∧ cDo g' (g 101) (g 100 4) H V F ∧ (0 ≤ V → okX F))) (c2 : ∀ g1, g1 101 = g 101 → rI g1 → ZC d2 M2 (.inr 100 :: as) g1 (fun r g2 => actP g1 g2 V F r)) : opP d1 M1 d2 M2 as g :=
  ⟨V, c1.mono (fun v g1 ⟨e, hA, hD, hF⟩ => ⟨e, (c2 g1 (hA.1 101 (by omega)) (hI.1.cA hA)).mono (fun r g2 ⟨e2, h3, h4⟩ => ⟨e2, hI.gen (ok := 0 ≤ V) hH hA (fun q => hD.1 (by omega)) hD.2 (fun q => h3 (by omega)) h4 hF⟩)⟩)⟩
theorem op_act3 {g : ZH} {d1 d2 : Nat} {M1 M2 : MMeth} {as : List ZV} {V : Int} {F : Int → Int} {H : Int → Int → Int} (hI : Inv g) (hH : hisP g H) (c1 : ZC d1 M1 (.inr 0 :: as) g (fun v g' => v = V ∧ cA g g' ∧ cDo g' (g 101) (g 100 4) H V F)) (c2 : ∀ g1, cA g g1 → rI g1 → ZC d2 M2 (.inr 100 :: as) g1 (fun r g2 => actP g1 g2 V F r)) (hF : 0 ≤ V → okX F) : opP d1 M1 d2 M2 as g :=
  ⟨V, c1.mono (fun v g1 ⟨e, hA, hD⟩ => ⟨e, (c2 g1 hA (hI.1.cA hA)).mono (fun r g2 ⟨e2, h3, h4⟩ => ⟨e2, hI.gen (ok := 0 ≤ V) hH hA (fun q => hD.1 (by omega)) hD.2 (fun q => h3 (by omega)) h4 hF⟩)⟩)⟩
section OPS
theorem op_ground {g : ZH} (hI : Inv g) {x k : Int} (hx : zR x) (hk : zR k) : opP 4 mX7_ground 2 mX8_ground [.inl x, .inl k] g := by
  obtain ⟨H, hH⟩ := hI.2.2.2.2.1
  exact op_act hI hH (c_X7_ground g hI.2.1 hI.2.2.1 hH.1 hx hk) (fun g1 e hr => by have h := c_X8_ground g1 hr hx hk; rw [e] at h; exact h) (fun q => gndV_ok hI.2.1 q)
theorem op_river {g : ZH} (hI : Inv g) {x d b : Int} (hx : zR x) (hd : zR d) (hb : b = 0 ∨ b = 1) : opP 4 mX7_river 2 mX8_river [.inl x, .inl d, .inl b] g := by
  obtain ⟨H, hH⟩ := hI.2.2.2.2.1
  exact op_act hI hH (c_X7_river g hI.2.1 hI.2.2.1 hI.2.2.2.1 hH.1 hx hd hb) (fun g1 e hr => by have h := c_X8_river g1 hr hx hd hb; rw [e] at h; exact h) (fun q => rivV_ok hI.2.1 q)
theorem op_fort {g : ZH} (hI : Inv g) {x s : Int} (hx : zR x) (hs : zR s) : opP 4 mX7_fort 2 mX8_fort [.inl x, .inl s] g := by
  obtain ⟨H, hH⟩ := hI.2.2.2.2.1
  exact op_act hI hH (c_X7_fort g hI.2.1 hI.2.2.1 hH.1 hx hs) (fun g1 e hr => by have h := c_X8_fort g1 hr hx hs; rw [e] at h; exact h) (fun q => fortV_ok hI.2.1 q)
theorem op_base {g : ZH} (hI : Inv g) {s x : Int} (hs : zR s) (hx : zR x) : opP 4 mX7_base 2 mX8_base [.inl s, .inl x] g := by
  obtain ⟨H, hH⟩ := hI.2.2.2.2.1
  exact op_act hI hH (c_X7_base g hI.2.1 hI.2.2.1 hH.1 hs hx) (fun g1 e hr => by have h := c_X8_base g1 hr hs hx; rw [e] at h; exact h) (fun q => baseV_ok hI.2.1 q)
theorem op_place {g : ZH} (hI : Inv g) {s st x : Int} (hs : zR s) (hst : zR st) (hx : zR x) : opP 4 mX7_place 2 mX8_place [.inl s, .inl st, .inl x] g := by
  obtain ⟨H, hH⟩ := hI.2.2.2.2.1
  exact op_act2 hI hH (c_X7_place g hI.2.1 hI.2.2.1 hH.1 hs hst hx) (fun g1 e hr => by have h := c_X8_place g1 hr hs hst hx; rw [e] at h; exact h)
theorem op_move {g : ZH} (hI : Inv g) {u x : Int} (hu : zR u) (hx : zR x) : opP 5 mX7_move 7 mX8_move [.inl u, .inl x] g := by
  obtain ⟨H, hH⟩ := hI.2.2.2.2.1
  exact op_act hI hH (c_X7_move g hI.2.1 hI.2.2.1 hI.2.2.2.1 hH.1 hu hx) (fun g1 e hr => by have h := c_X8_move g1 hr hu hx; rw [e] at h; exact h) (fun q => movV_ok hI.2.1 q)
theorem op_attack {g : ZH} (hI : Inv g) {u x : Int} (hu : zR u) (hx : zR x) : opP 6 mX7_attack 9 mX8_attack [.inl u, .inl x] g := by
  obtain ⟨H, hH⟩ := hI.2.2.2.2.1
  exact op_act hI hH (c_X7_attack g hI.2.1 hI.2.2.1 hI.2.2.2.1 hH.1 hu hx) (fun g1 e hr => by have h := c_X8_attack g1 hr hu hx; rw [e] at h; exact h) (fun q => attV_ok hI.2.1 q)
theorem op_endTurn {g : ZH} (hI : Inv g) : opP 6 mX7_endTurn 8 mX8_endTurn [] g := by
  obtain ⟨H, hH⟩ := hI.2.2.2.2.1
  exact op_act hI hH (c_X7_endTurn g hI.2.1 hI.2.2.1 hI.2.2.2.1 hH.1) (fun g1 e hr => by have h := c_X8_endTurn g1 hr; rw [e] at h; exact h) (fun q => okX_ends hI.2.1 ((endV_R hI.2.1.1).2.2.mpr q))
theorem op_perform {g : ZH} (hI : Inv g) : opP 6 mX7_perform 10 mX8_perform [] g := by
  obtain ⟨H, hH⟩ := hI.2.2.2.2.1
  have h90 := hI.2.2.2.2.2.1.1
  refine ⟨prfV (g 101) (g 105) (g 100 8), (c_X7_perform g (t := g 105) (L := g 100 8) hI.2.1 hI.2.2.1 hI.2.2.2.1 hH.1 h90 hI.2.2.2.2.2.1.2 hI.1.2.2.1).mono (fun v g1 ⟨e, hA, hn, hy⟩ => ⟨e, (c_X8_perform g1 (hI.1.cA hA)).mono (fun r g2 ⟨e2, h3, h4⟩ => ?_)⟩)⟩
  have eF : perfF g1 = prfV (g 101) (g 105) (g 100 8) := by
    unfold perfF prfV
    rw [hA.1 101 (by omega), hA.1 100 (by omega), hA.1 105 (by omega)]
  have eO : perfOk g1 ↔ prfOk (g 101) (g 105) (g 100 8) := by
    unfold perfOk prfOk
    rw [hA.1 101 (by omega), hA.1 100 (by omega), hA.1 105 (by omega)]
  refine ⟨e2.trans eF, hI.gen (ok := prfOk (g 101) (g 105) (g 100 8)) hH hA hn hy (fun q => h3 (fun z => q (eO.mp z))) (fun q => ?_) (fun q => okX_run (fun o ho => ordL_R o ho) hI.2.1)⟩
  have h := h4 (eO.mpr q)
  rw [hA.1 101 (by omega), hA.1 100 (by omega), hA.1 105 (by omega)] at h
  exact h
theorem op_type {g : ZH} (hI : Inv g) {c : Int} (hc : 0 ≤ c ∧ c < 65536) : opP 1 mX7_type 0 mX8_type [.inl c] g := by
  obtain ⟨i1, i2, i3, i4, ⟨H, hH⟩, i6, i7⟩ := hI
  have hL := i1.2.2.1
  refine ⟨typV (g 100 8), (c_X7_type g i6.2 ⟨hL.1, hL.2.1⟩ hc).mono (fun v g1 ⟨e, h60, hlt⟩ => ⟨e, ?_⟩)⟩
  have fr : ∀ k, k ≠ 89 → k ≠ 90 → g1 k = g k := by
    intro k k1 k2
    by_cases q : g 100 8 = 60
    · rw [h60 q]
    · rw [hlt (by have := hL.2.1; omega), zSet_ne _ _ _ k1, zSet_ne _ _ _ k2]
  have hr1 : rI g1 := by
    unfold rI
    rw [fr 101 (by decide) (by decide), fr 100 (by decide) (by decide), fr 105 (by decide) (by decide)]
    exact i1
  refine (c_X8_type g1 hr1 (v := c) (by omega)).mono (fun r g2 ⟨e2, ⟨ra, r104, r6, rh, r101⟩, r8, r105⟩ => ?_)
  rw [fr 100 (by decide) (by decide)] at e2 r6 r8 r105
  rw [fr 105 (by decide) (by decide)] at r105
  have e101 : g2 101 = g 101 := r101.trans (fr 101 (by decide) (by decide))
  have e4 : g2 100 4 = g 100 4 := rh.2.trans (by rw [fr 100 (by decide) (by decide)])
  have hh : ∀ k i, hN g2 k i = hN g k i := fun k i => by
    rw [hN_same rh]
    unfold hN
    rw [fr 103 (by decide) (by decide), fr 100 (by decide) (by decide)]
  refine ⟨e2, ⟨by rw [e101]; exact i1.1, by rw [e4]; exact i1.2.1, ?_, by rw [r6]; exact i1.2.2.2⟩, by rw [e101]; exact i2, by rw [e101]; exact StAt.fr (b := 3) i3 (fun k k0 k1 => (ra k (by omega)).trans (fr k (by omega) (by omega))), i4.two ((ra 2 (by omega)).trans (fr 2 (by decide) (by decide))), ⟨H, by rw [e4]; exact hH.1.fr (fun k k0 k1 => (ra k (by omega)).trans (fr k (by omega) (by omega))), fun k k0 k1 i i0 i1' => by rw [e4] at k1; rw [hh]; exact hH.2 k k0 k1 i i0 i1'⟩, ?_, ?_, fun q => ?_⟩
  · rw [r8, r105]
    by_cases q : g 100 8 = 60
    · rw [if_pos q, if_pos q, ← q]; exact hL
    · rw [if_neg q, if_neg q]
      have h1 := hL.2.1
      have h2 := hL.1
      refine ⟨by omega, by omega, fun i i0 i1' => ?_⟩
      by_cases qi : i = g 100 8
      · rw [qi, zUp_same]; exact hc
      · rw [zUp_ne _ _ qi]; exact hL.2.2 i i0 (by omega)
  · rw [ra 90 (by omega), ra 89 (by omega), r8, r105]
    by_cases q : g 100 8 = 60
    · rw [h60 q, if_pos q, if_pos q]
      exact ⟨i6.1, by rw [i6.2, q]⟩
    · rw [if_neg q, if_neg q, hlt (by have := hL.2.1; omega)]
      refine ⟨?_, by rw [zSet_same, zUp_same]⟩
      rw [zSet_ne _ _ _ (by decide), zSet_same, i6.1]
  · rw [ra 0 (by omega), fr 0 (by decide) (by decide), r6]
    exact i7.1
  · rw [r6] at q
    obtain ⟨R, r1, r2, r3⟩ := i7.2 q
    exact ⟨R, r1, r2.fr (fun k k0 k1 => (ra k (by omega)).trans (fr k (by omega) (by omega))), fun i i0 i1' => by rw [r104, fr 104 (by decide) (by decide)]; exact r3 i i0 i1'⟩
theorem op_clearText {g : ZH} (hI : Inv g) : opP 0 mX7_clearText 0 mX8_clearText [] g := by
  obtain ⟨i1, i2, i3, i4, ⟨H, hH⟩, i6, i7⟩ := hI
  have hL := i1.2.2.1
  refine ⟨g 100 8, (c_X7_clearText g).mono (fun v g1 ⟨e, e1⟩ => ⟨e.trans i6.2, ?_⟩)⟩
  have fr : ∀ k, k ≠ 89 → g1 k = g k := fun k k1 => by rw [e1, zSet_ne _ _ _ k1]
  refine (c_X8_clearText g1).mono (fun r g2 ⟨e2, ⟨ra, r104, r6, rh, r101⟩, r8, r105⟩ => ?_)
  rw [fr 100 (by decide)] at e2 r6
  rw [fr 105 (by decide)] at r105
  have e101 : g2 101 = g 101 := r101.trans (fr 101 (by decide))
  have e4 : g2 100 4 = g 100 4 := rh.2.trans (by rw [fr 100 (by decide)])
  have hh : ∀ k i, hN g2 k i = hN g k i := fun k i => by
    rw [hN_same rh]
    unfold hN
    rw [fr 103 (by decide), fr 100 (by decide)]
  refine ⟨e2, ⟨by rw [e101]; exact i1.1, by rw [e4]; exact i1.2.1, ?_, by rw [r6]; exact i1.2.2.2⟩, by rw [e101]; exact i2, by rw [e101]; exact StAt.fr (b := 3) i3 (fun k k0 k1 => (ra k (by omega)).trans (fr k (by omega))), i4.two ((ra 2 (by omega)).trans (fr 2 (by decide))), ⟨H, by rw [e4]; exact hH.1.fr (fun k k0 k1 => by
    by_cases q : k = 89
    · omega
    · exact (ra k (by omega)).trans (fr k q)), fun k k0 k1 i i0 i1' => by rw [e4] at k1; rw [hh]; exact hH.2 k k0 k1 i i0 i1'⟩, ?_, ?_, fun q => ?_⟩
  · rw [r8]; exact ⟨by decide, by decide, fun i i0 i1' => absurd i1' (by omega)⟩
  · rw [ra 90 (by omega), ra 89 (by omega), r8, r105, fr 90 (by decide), e1, zSet_same, zUp_same]
    exact ⟨i6.1, rfl⟩
  · rw [ra 0 (by omega), fr 0 (by decide), r6]
    exact i7.1
  · rw [r6] at q
    obtain ⟨R, r1, r2, r3⟩ := i7.2 q
    exact ⟨R, r1, r2.fr (fun k k0 k1 => (ra k (by omega)).trans (fr k (by omega))), fun i i0 i1' => by rw [r104, fr 104 (by decide)]; exact r3 i i0 i1'⟩
theorem op_undo {g : ZH} (hI : Inv g) : opP 4 mX7_undo 0 mX8_undo [] g := by
  obtain ⟨H, hH⟩ := hI.2.2.2.2.1
  refine ⟨if g 100 4 = 0 then -5 else g 100 4 - 1, (c_X7_undo g hI.2.2.1 hH.1).mono (fun v g1 ⟨e, fr, h0, h1⟩ => ⟨e, ?_⟩)⟩
  have f100 := fr 100 (by omega)
  have f101 := fr 101 (by omega)
  have f103 := fr 103 (by omega)
  have f105 := fr 105 (by omega)
  have hr1 : rI g1 := by
    unfold rI
    rw [f100, f101, f105]
    exact hI.1
  refine (c_X8_undo g1 hr1).mono (fun r g2 ⟨e2, ra, r103, rz, rn⟩ => ?_)
  rw [f100] at e2 rz rn
  refine ⟨e2, ?_⟩
  by_cases q : g 100 4 = 0
  · have eg := h0 q
    subst eg
    obtain ⟨z1, z2⟩ := rz q
    exact hI.gen (ok := False) (F := g1 101) hH (cA.rf _) (fun _ => ⟨hI.2.2.1, hH.1⟩) (fun z => z.elim) (fun _ => ⟨ra, ⟨r103, z1.trans q.symm⟩, z2⟩) (fun z => z.elim) (fun z => z.elim)
  · obtain ⟨z1, z2⟩ := rn q
    obtain ⟨s1, s2⟩ := h1 q
    obtain ⟨i1, i2, i3, i4, -, i6, i7⟩ := hI
    have hn0 := i1.2.1
    have hX0 := (hH.1.2.2.2 0 (by omega) (by omega)).1
    have hag : ∀ i, 0 ≤ i → i < 289 → g2 101 i = H 0 i := fun i i0 i1' => by
      rw [z2]
      unfold zPart
      rw [if_pos ⟨i0, i1'⟩]
      have h := hH.2 0 (by omega) (by omega) i i0 i1'
      rw [← h]
      unfold hN
      rw [f103, f100]
    have hX2 := okX_cong hX0 hag
    obtain ⟨ra0, r104, r105, r6, r8⟩ := ra
    rw [f100] at r6 r8
    rw [f105] at r105
    refine ⟨⟨hX2.1, by rw [z1]; omega, by rw [r105, r8]; exact i1.2.2.1, by rw [r6]; exact i1.2.2.2⟩, hX2, ?_, i4.two ((ra0 2 (by omega)).trans (fr 2 (by omega))), ⟨fun k => H (k + 1), by rw [z1]; exact s2.fr (fun k k0 k1 => ra0 k (by omega)), fun k k0 k1 i i0 i1' => ?_⟩, ?_, ?_, fun z => ?_⟩
    · exact StF.cong (StAt.fr (b := 3) s1 (fun k k0 k1 => ra0 k (by omega))) (okX_n hX0) hag
    · rw [z1] at k1
      have h := hH.2 (k + 1) (by omega) (by omega) i i0 i1'
      show hN g2 k i = H (k + 1) i
      rw [← h]
      unfold hN
      rw [r103, f103, z1, show g 100 4 - 1 - 1 - k = g 100 4 - 1 - (k + 1) by omega]
    · rw [ra0 90 (by omega), ra0 89 (by omega), fr 90 (by omega), fr 89 (by omega), r105, r8]
      exact i6
    · rw [ra0 0 (by omega), fr 0 (by omega), r6]
      exact i7.1
    · rw [r6] at z
      obtain ⟨R, r1, r2, r3⟩ := i7.2 z
      exact ⟨R, r1, r2.fr (fun k k0 k1 => (ra0 k (by omega)).trans (fr k (by omega))), fun i i0 i1' => by rw [r104, fr 104 (by omega)]; exact r3 i i0 i1'⟩
theorem op_keep {g : ZH} (hI : Inv g) : opP 3 mX7_keep 0 mX8_keep [] g := by
  obtain ⟨i1, i2, i3, i4, ⟨H, hH⟩, i6, i7⟩ := hI
  refine ⟨g 101 191, (c_X7_keep g i2 i3).mono (fun v g1 ⟨e, fr, h27, h04⟩ => ⟨e, ?_⟩)⟩
  have f100 := fr 100 (by decide) (by omega)
  have f101 := fr 101 (by decide) (by omega)
  have f103 := fr 103 (by decide) (by omega)
  have f105 := fr 105 (by decide) (by omega)
  have hr1 : rI g1 := by
    unfold rI
    rw [f100, f101, f105]
    exact i1
  refine (c_X8_keep g1 hr1).mono (fun r g2 ⟨e2, ra, r105, r8, rh, r101, r6, r104⟩ => ?_)
  rw [f101] at e2 r101
  rw [f105] at r105
  rw [f100] at r8
  have e4 : g2 100 4 = g 100 4 := rh.2.trans (by rw [f100])
  have hh : ∀ k i, hN g2 k i = hN g k i := fun k i => by
    rw [hN_same rh]
    unfold hN
    rw [f103, f100]
  refine ⟨e2, ⟨by rw [r101]; exact i1.1, by rw [e4]; exact i1.2.1, by rw [r105, r8]; exact i1.2.2.1, Or.inr r6⟩, by rw [r101]; exact i2, by rw [r101]; exact StAt.fr (b := 3) i3 (fun k k0 k1 => (ra k (by omega)).trans (fr k (by omega) (by omega))), i4.two ((ra 2 (by omega)).trans (fr 2 (by decide) (by omega))), ⟨H, by rw [e4]; exact hH.1.fr (fun k k0 k1 => (ra k (by omega)).trans (fr k (by omega) (by omega))), fun k k0 k1 i i0 i1' => by rw [e4] at k1; rw [hh]; exact hH.2 k k0 k1 i i0 i1'⟩, ?_, ?_, fun q => ?_⟩
  · rw [ra 90 (by omega), ra 89 (by omega), fr 90 (by decide) (by omega), fr 89 (by decide) (by omega), r105, r8]
    exact i6
  · rw [ra 0 (by omega), h04, r6]
  · exact ⟨g 101, i2, h27.fr (fun k k0 k1 => ra k (by omega)), fun i i0 i1' => by rw [r104 i i0 i1', f101]⟩
theorem op_restore {g : ZH} (hI : Inv g) : opP 4 mX7_restore 1 mX8_restore [] g := by
  obtain ⟨H, hH⟩ := hI.2.2.2.2.1
  obtain ⟨s1, s2⟩ := hI.2.2.2.2.2.2
  have hfl := hI.1.2.2.2
  obtain ⟨R, hR⟩ : ∃ R : Int → Int, g 100 6 = 1 → okX R ∧ StAt g 27 R ∧ ∀ i, 0 ≤ i → i < 289 → g 104 i = R i := by
    by_cases q : g 100 6 = 1
    · obtain ⟨R, r⟩ := s2 q
      exact ⟨R, fun _ => r⟩
    · exact ⟨g 101, fun z => absurd z q⟩
  have hV : (if g 0 4 = 0 then -5 else R 191) = resV g := by
    unfold resV
    rw [s1]
    by_cases q : g 100 6 = 0
    · rw [if_pos q, if_pos q]
    · rw [if_neg q, if_neg q, (hR (by omega)).2.2 191 (by decide) (by decide)]
  have hyes : 0 ≤ resV g → g 100 6 = 1 := by
    unfold resV
    intro q
    by_cases z : g 100 6 = 0
    · rw [if_pos z] at q
      exact absurd q (by decide)
    · omega
  have hag : 0 ≤ resV g → ∀ i, 0 ≤ i → i < 289 → zPart (g 104) (g 101) 289 i = R i := fun q i i0 i1 => by
    unfold zPart
    rw [if_pos ⟨i0, i1⟩]
    exact (hR (hyes q)).2.2 i i0 i1
  refine op_act3 (V := resV g) (F := zPart (g 104) (g 101) 289) hI hH ((c_X7_restore g (R := R) hI.2.1 hI.2.2.1 hH.1 (by rw [s1]; exact hfl) (fun q => ⟨(hR (s1 ▸ q)).1, (hR (s1 ▸ q)).2.1⟩)).mono (fun v g' ⟨e, hA, hD⟩ => ?_)) (fun g1 hA hr => ?_) (fun q => okX_cong (hR (hyes q)).1 (hag q))
  · rw [hV] at e hD
    refine ⟨e, hA, hD.1, fun q => ⟨?_, (hD.2 q).2⟩⟩
    exact StF.cong (hD.2 q).1 (okX_n (hR (hyes q)).1) (hag q)
  · have h := c_X8_restore g1 hr (fun q => by
      rw [hA.1 100 (by omega)] at q
      rw [hA.1 104 (by omega), (hR q).2.2 191 (by decide) (by decide)]
      exact ((hR q).1.1.1.1.1 191 (by decide) (by decide)).1)
    have eV : resV g1 = resV g := by
      unfold resV
      rw [hA.1 100 (by omega), hA.1 104 (by omega)]
    rw [eV, hA.1 104 (by omega), hA.1 101 (by omega)] at h
    exact h
theorem op_hex {g : ZH} (hI : Inv g) {x w : Int} (hx : zR x) (hw : zR w) : opP 4 mX7_hex 4 mX8_hex [.inl x, .inl w] g :=
  op_qry hI (c_X7_hex g hI.2.1.1 hI.2.2.1 hI.2.2.2.1 hx hw) (fun g1 e _ hr => by have h := c_X8_hex g1 hr hx hw; rw [e] at h; exact h)
theorem op_beside {g : ZH} (hI : Inv g) {x d : Int} (hx : zR x) (hd : zR d) : opP 1 mX7_beside 2 mX8_beside [.inl x, .inl d] g :=
  op_qry hI (c_X7_beside g hI.2.2.2.1 hx hd) (fun g1 _ _ _ => c_X8_beside g1 hx hd)
theorem op_distance {g : ZH} (hI : Inv g) {a b : Int} (ha : zR a) (hb : zR b) : opP 2 mX7_distance 3 mX8_distance [.inl a, .inl b] g :=
  op_qry hI (c_X7_distance g ha hb) (fun g1 _ _ _ => c_X8_distance g1 ha hb)
theorem op_unit {g : ZH} (hI : Inv g) {u w : Int} (hu : zR u) (hw : zR w) : opP 4 mX7_unit 7 mX8_unit [.inl u, .inl w] g :=
  op_qry hI (c_X7_unit g hI.2.1.1 hI.2.2.1 hI.2.2.2.1 hu hw) (fun g1 e _ hr => by have h := c_X8_unit g1 hr hu hw; rw [e] at h; exact h)
theorem op_cost {g : ZH} (hI : Inv g) {u x : Int} (hu : zR u) (hx : zR x) : opP 4 mX7_cost 6 mX8_cost [.inl u, .inl x] g :=
  op_qry hI (c_X7_cost g hI.2.1.1 hI.2.2.1 hI.2.2.2.1 hu hx) (fun g1 e _ hr => by have h := c_X8_cost g1 hr hu hx; rw [e] at h; exact h)
theorem op_would {g : ZH} (hI : Inv g) {u x w : Int} (hu : zR u) (hx : zR x) (hw : zR w) : opP 5 mX7_would 8 mX8_would [.inl u, .inl x, .inl w] g :=
  op_qry hI (c_X7_would g hI.2.1.1 hI.2.2.1 hI.2.2.2.1 hu hx hw) (fun g1 e _ hr => by have h := c_X8_would g1 hr hu hx hw; rw [e] at h; exact h)
theorem op_besieged {g : ZH} (hI : Inv g) {x : Int} (hx : zR x) : opP 2 mX7_besieged 4 mX8_besieged [.inl x] g :=
  op_qry hI (c_X7_besieged g hI.2.1.1 hI.2.2.1 hI.2.2.2.1 hx) (fun g1 e _ hr => by have h := c_X8_besieged g1 hr hx; rw [e] at h; exact h)
theorem op_count {g : ZH} (hI : Inv g) {w : Int} (hw : zR w) : opP 5 mX7_count 5 mX8_count [.inl w] g := by
  obtain ⟨H, hH⟩ := hI.2.2.2.2.1
  exact op_qry hI (c_X7_count g hI.2.1.1 hI.2.2.1 hI.2.2.2.1 hH.1.2.1 hI.2.2.2.2.2.1.2 hw) (fun g1 e e2 hr => by have h := c_X8_count g1 hr hw; rw [e, e2] at h; exact h)
end OPS
