-- the reference's acts
theorem fb_xorI2 (a b : Nat) : nI a ^^^ nI b = nI (a ^^^ b) := by
  apply Int32.toBitVec_inj.1
  show BitVec.ofNat 32 a ^^^ BitVec.ofNat 32 b = BitVec.ofNat 32 (a ^^^ b)
  apply BitVec.eq_of_getLsbD_eq
  intro i hi
  simp [hi]
def xorF (v d : Int) : Int := ((v.toNat ^^^ 2 ^ d.toNat : Nat) : Int)
theorem iI_xor {v d : Int} (hv : 0 ≤ v) : iI v ^^^ iI (((2 ^ d.toNat : Nat) : Int)) = iI (xorF v d) := by
  obtain ⟨n, rfl⟩ := Int.eq_ofNat_of_zero_le hv
  unfold xorF
  rw [iI_nat, iI_nat, iI_nat]
  exact fb_xorI2 _ _
theorem iI_shl1 {d : Int} (hd : 0 ≤ d ∧ d < 6) : iI 1 <<< (iI d &&& 31) = iI (((2 ^ d.toNat : Nat) : Int)) := by
  rcases (show d = 0 ∨ d = 1 ∨ d = 2 ∨ d = 3 ∨ d = 4 ∨ d = 5 by omega) with rfl | rfl | rfl | rfl | rfl | rfl <;> rfl
theorem xorF_all : nAll 64 (fun v => nAll 6 (fun d => decide (0 ≤ xorF v d ∧ xorF v d < 64) && nAll 6 (fun e => decide (bitB (xorF v d) e = (if e = d then !(bitB v d) else bitB v e))))) = true := by decide +kernel
theorem xorF_R {v d : Int} (hv : 0 ≤ v ∧ v < 64) (hd : 0 ≤ d ∧ d < 6) : (0 ≤ xorF v d ∧ xorF v d < 64) ∧ ∀ e, 0 ≤ e → e < 6 → bitB (xorF v d) e = (if e = d then !(bitB v d) else bitB v e) := by
  have h1 := nAll_at (nAll_at xorF_all hv.1 hv.2) hd.1 hd.2
  rw [Bool.and_eq_true] at h1
  exact ⟨of_decide_eq_true h1.1, fun e e0 e1 => of_decide_eq_true (nAll_at h1.2 e0 e1)⟩
def gndV (r : Int → Int) (x k : Int) : Int := if isHexB x then (if inB k 0 2 then (if r x = k then -5 else r x) else -2) else -1
def actP (g g' : ZH) (V : Int) (F : Int → Int) (r : Int) : Prop := r = V ∧ (V < 0 → rSame g g') ∧ (0 ≤ V → rDone g g' F)
theorem actP.no {g g' : ZH} {V r : Int} {F : Int → Int} (h : r = V) (hn : V < 0) (hs : rSame g g') : actP g g' V F r := ⟨h, fun _ => hs, fun q => by omega⟩
theorem actP.yes {g g' : ZH} {V r : Int} {F : Int → Int} (h : r = V) (hn : 0 ≤ V) (hd : rDone g g' F) : actP g g' V F r := ⟨h, fun q => by omega, fun _ => hd⟩
theorem actP.neg {g g' : ZH} {V v : Int} {F : Int → Int} (hV : V = v) (hv : v < 0) (hs : rSame g g') : actP g g' V F v := ⟨hV.symm, fun _ => hs, fun q => by omega⟩
theorem rows {g : ZH} (h : rI g) : okB (g 101) ∧ okU (g 101) := ⟨h.1.1.1, h.1.1.2.1⟩
theorem c_X8_ground (g : ZH) (hI : rI g) {x k : Int} (hx : zR x) (hk : zR k) : ZC 2 mX8_ground [.inr 100, .inl x, .inl k] g (fun r g' => actP g g' (gndV (g 101) x k) (zUp (g 101) x k) r) := by
  have hB := hI.1.1.1
  refine ZC.of (by decide +kernel) (Nat.le_of_ble_eq_true rfl) ?_
  have s0 := rSame.t0 g
  refine ZW.aload_n dX8_ground_0 rfl ?_
  refine ZW.iconst dX8_ground_1 ?_
  refine ZW.puti (fz := 0) dX8_ground_2 fp_X8_44 ⟨_, rfl, rfl⟩ rfl ?_
  refine ZW.iload_n dX8_ground_5 rfl ?_
  obtain ⟨g0, hg0⟩ : ∃ z, z = zSet g 100 0 0 := ⟨_, rfl⟩
  rw [← hg0] at s0 ⊢
  have e0 : g0 101 = g 101 := s0.2.2
  refine ZW.callS (as := [_]) dX8_ground_6 cs_X8_124 rfl (by decide) (Nat.le_of_ble_eq_true rfl) rfl (c_X8_isHex _ hx) (fun r1 g1 ⟨q1, q2⟩ => ?_)
  subst q1; subst q2
  refine ZW.if_ne (tgt := 14) dX8_ground_9 (by decide) (by first | omega | exact zB_R _) (fun c9 => ?_) (fun c9 => ?_)
  · have e := zB_ne c9
    have hxr := isHexB_t e
    refine ZW.iload_n dX8_ground_14 rfl ?_
    refine ZW.iconst dX8_ground_15 ?_
    refine ZW.iconst dX8_ground_16 ?_
    refine ZW.callS (as := [_, _, _]) dX8_ground_17 cs_X8_48 rfl (by decide) (Nat.le_of_ble_eq_true rfl) rfl (c_X8_in _ hk (by decide) (by decide)) (fun r1 g2 ⟨q1, q2⟩ => ?_)
    subst q1; subst q2
    refine ZW.if_ne (tgt := 26) dX8_ground_20 (by decide) (by first | omega | exact zB_R _) (fun c20 => ?_) (fun c20 => ?_)
    · have e2 := zB_ne c20
      have hkr := of_decide_eq_true e2
      have hgx := hB.1 x (by omega) (by omega)
      refine ZW.aload_n dX8_ground_26 rfl ?_
      refine ZW.getR dX8_ground_27 fl_X8_7 ⟨_, rfl, rfl⟩ ?_
      refine ZW.iconst dX8_ground_30 ?_
      refine ZW.iload_n dX8_ground_31 rfl ?_
      refine ZW.iadd dX8_ground_32 (ZW.top (Int.zero_add x) ?_)
      refine ZW.iald dX8_ground_33 rfl (by decide) (by omega) rfl ?_
      rw [e0]
      refine ZW.istore_n dX8_ground_34 (by decide) rfl ?_
      refine ZW.iload_n dX8_ground_35 rfl ?_
      refine ZW.iload_n dX8_ground_36 rfl ?_
      refine ZW.icmp_ne (tgt := 43) dX8_ground_37 (by decide) (by first | omega | exact zB_R _) (by first | omega | exact zB_R _) (fun c37 => ?_) (fun c37 => ?_)
      · refine ZW.aload_n dX8_ground_43 rfl ?_
        refine ZW.callVv (as := []) dX8_ground_44 cv_X8_127 ⟨_, rfl⟩ rfl (by decide) (Nat.le_of_ble_eq_true rfl) rfl (fun _ _ hz _ => hz) (c_X8_records _ (by rw [s0.2.1.2]; exact hI.2.1)) (fun g3 q3 => ?_)
        have d3 := s0.done (recP.done q3)
        refine ZW.aload_n dX8_ground_47 rfl ?_
        refine ZW.getR dX8_ground_48 fl_X8_7 ⟨_, rfl, rfl⟩ ?_
        refine ZW.iconst dX8_ground_51 ?_
        refine ZW.iload_n dX8_ground_52 rfl ?_
        refine ZW.iadd dX8_ground_53 (ZW.top (Int.zero_add x) ?_)
        refine ZW.iload_n dX8_ground_54 rfl ?_
        refine ZW.iast dX8_ground_55 rfl (by decide) (by omega) ?_
        refine ZW.iload_n dX8_ground_56 rfl ?_
        refine ZW.ireti dX8_ground_57 rfl ?_
        have hV : gndV (g 101) x k = g 101 x := by unfold gndV; rw [e, e2, if_pos rfl, if_pos rfl, if_neg c37]
        refine actP.yes hV.symm (by omega) ?_
        rw [zSet_row, d3.2.2, e0]
        exact d3.row (ks := []) (zFr.rf _ _) (by decide)
      · refine ZW.bipush dX8_ground_40 rfl ?_
        refine ZW.ireti dX8_ground_42 rfl ?_
        exact actP.neg (by unfold gndV; rw [e, e2, if_pos rfl, if_pos rfl, if_pos c37]) (by decide) s0
    · have e2 := zB_eq c20
      refine ZW.bipush dX8_ground_23 rfl ?_
      refine ZW.ireti dX8_ground_25 rfl ?_
      exact actP.neg (by unfold gndV; rw [e, e2]; rfl) (by decide) s0
  · have e := zB_eq c9
    refine ZW.iconst dX8_ground_12 ?_
    refine ZW.ireti dX8_ground_13 rfl ?_
    exact actP.neg (by unfold gndV; rw [e]; rfl) (by decide) s0
def rivS (r : Int → Int) (x d : Int) : Int → Int := zUp (zUp r (63 + x) (xorF (r (63 + x)) d)) (63 + nextF x d) (xorF (r (63 + nextF x d)) ((d + 3) % 6))
def rivV (r : Int → Int) (x d b : Int) : Int := if isHexB x then (if inB d 0 5 then (if nextF x d = -5 then -4 else if zB (rivB r x d) = b then -5 else riversF (rivS r x d)) else -2) else -1
theorem nextF_ne {x d : Int} (h : nextF x d ≠ -5) : nextF x d ≠ x := by
  unfold nextF at h ⊢
  split
  · next q =>
    unfold nRow nCol at *
    (repeat' split) <;> (repeat' split at q) <;> omega
  · next q => rw [if_neg q] at h; exact absurd rfl h
theorem riversF_R (r : Int → Int) : 0 ≤ riversF r ∧ riversF r ≤ 200 := by
  have h1 := cntF_R (p := fun x => cntF (fun d => zB (rivB r x d)) 3 0) (b := 3) (by decide) (n := 63) (i := 0) (fun j _ _ => by
    have h2 := cntF_R (p := fun d => zB (rivB r j d)) (b := 1) (by decide) (n := 3) (i := 0) (fun d _ _ => by have := zB_1 (rivB r j d); omega)
    show 0 ≤ cntF _ 3 0 ∧ cntF _ 3 0 ≤ 3
    omega)
  unfold riversF
  omega
theorem okB_up {r : Int → Int} (hk : okB r) {i v : Int} (hi : i ≠ 192) (hv : 0 ≤ v ∧ v < 1000) : okB (zUp r i v) := by
  refine ⟨fun j j0 j1 => ?_, by rw [zUp_ne _ _ (fun q => hi q.symm)]; exact hk.2⟩
  by_cases q : j = i
  · rw [q, zUp_same]; exact hv
  · rw [zUp_ne _ _ q]; exact hk.1 j j0 j1
theorem okA_riv {r : Int → Int} (h : okA r) {x d : Int} (hx : 0 ≤ x ∧ x < 63) (hd : 0 ≤ d ∧ d < 6) (hn : nextF x d ≠ -5) : okA (rivS r x d) := by
  obtain ⟨⟨hB, hU, hT⟩, hN, hV, hF, hZ⟩ := h
  have hy := (nextF_R (x := x) (d := d)).resolve_left hn
  have hne := nextF_ne hn
  have hs := nextF_s hx hd hn
  have v1 := hB.1 (63 + x) (by omega) (by omega)
  have v2 := hB.1 (63 + nextF x d) (by omega) (by omega)
  have w1 := hV.1 x hx.1 hx.2
  have w2 := hV.1 _ hy.1 hy.2
  have x1 := xorF_R (v := r (63 + x)) (d := d) ⟨v1.1, w1⟩ hd
  have x2 := xorF_R (v := r (63 + nextF x d)) (d := (d + 3) % 6) ⟨v2.1, w2⟩ (by omega)
  have off : ∀ i, i ≠ 63 + x → i ≠ 63 + nextF x d → rivS r x d i = r i := fun i h1 h2 => by unfold rivS; rw [zUp_ne _ _ h2, zUp_ne _ _ h1]
  have atx : rivS r x d (63 + x) = xorF (r (63 + x)) d := by unfold rivS; rw [zUp_ne _ _ (by omega), zUp_same]
  have aty : rivS r x d (63 + nextF x d) = xorF (r (63 + nextF x d)) ((d + 3) % 6) := by unfold rivS; rw [zUp_same]
  have n192 : rivS r x d 192 = r 192 := off _ (by omega) (by omega)
  have n191 : rivS r x d 191 = r 191 := off _ (by omega) (by omega)
  have o : ∀ z w, 0 ≤ z → 0 ≤ w → ofF (rivS r x d) z w = ofF r z w := fun z w hz hw => off _ (by omega) (by omega)
  have hb : ∀ z e, 0 ≤ z → z < 63 → 0 ≤ e → e < 6 → rivB (rivS r x d) z e = (if z = x ∧ e = d then !(rivB r x d) else if z = nextF x d ∧ e = (d + 3) % 6 then !(rivB r (nextF x d) ((d + 3) % 6)) else rivB r z e) := by
    intro z e z0 z1 e0 e1
    unfold rivB
    by_cases q : z = x
    · subst q
      rw [atx, x1.2 e e0 e1]
      by_cases q2 : e = d
      · rw [if_pos q2, if_pos ⟨rfl, q2⟩]
      · rw [if_neg q2, if_neg (fun y => q2 y.2), if_neg (fun y => hne y.1.symm)]
    · by_cases q3 : z = nextF x d
      · rw [q3, aty, x2.2 e e0 e1]
        by_cases q2 : e = (d + 3) % 6
        · rw [if_pos q2, if_neg (fun y => hne y.1), if_pos ⟨rfl, q2⟩]
        · rw [if_neg q2, if_neg (fun y => hne y.1), if_neg (fun y => q2 y.2)]
      · rw [off _ (by omega) (by omega), if_neg (fun y => q y.1), if_neg (fun y => q3 y.1)]
  refine ⟨⟨⟨fun i i0 i1 => ?_, by rw [n192]; exact hB.2⟩, fun z z0 z1 => by rw [o z 0 z0 (by decide), o z 2 z0 (by decide)]; exact hU z z0 z1, fun z z0 z1 => by rw [n191, o z 5 z0 (by decide)]; exact hT.1 z z0 z1, by rw [n191]; exact hT.2⟩, fun a b a0 a1 b0 b1 ha hb' hab => ?_, ⟨fun z z0 z1 => ?_, fun z e z0 z1 e0 e1 => ?_⟩, fun z z0 z1 => by rw [off _ (by omega) (by omega)]; exact hF z z0 z1, fun z z0 z1 => ?_⟩
  · by_cases q1 : i = 63 + x
    · rw [q1, atx]; omega
    · by_cases q2 : i = 63 + nextF x d
      · rw [q2, aty]; omega
      · rw [off i q1 q2]; exact hB.1 i i0 i1
  · rw [n192] at a1 b1
    rw [o a 1 a0 (by decide)] at ha
    rw [o b 1 b0 (by decide)] at hb'
    rw [o a 2 a0 (by decide), o b 2 b0 (by decide)] at hab
    exact hN a b a0 a1 b0 b1 ha hb' hab
  · by_cases q1 : z = x
    · rw [q1, atx]; exact x1.1.2
    · by_cases q2 : z = nextF x d
      · rw [q2, aty]; exact x2.1.2
      · rw [off _ (by omega) (by omega)]; exact hV.1 z z0 z1
  · have hv := hV.2 z e z0 z1 e0 e1
    rw [hb z e z0 z1 e0 e1]
    refine ⟨fun q => ?_, fun q => ?_⟩
    · rw [if_neg (fun y => hn (by rw [← y.1, ← y.2]; exact q)), if_neg (fun y => ?_)]
      · exact hv.1 q
      · rw [y.1, y.2, hs] at q; omega
    · have hr := (nextF_R (x := z) (d := e)).resolve_left q
      have hs2 := nextF_s ⟨z0, z1⟩ ⟨e0, e1⟩ q
      rw [hb _ _ hr.1 hr.2 (by omega) (by omega)]
      have hvx := (hV.2 x d hx.1 hx.2 hd.1 hd.2).2 hn
      by_cases q1 : z = x ∧ e = d
      · obtain ⟨rfl, rfl⟩ := q1
        rw [if_pos ⟨rfl, rfl⟩, if_neg (fun y => hne y.1), if_pos ⟨rfl, rfl⟩, hvx]
      · by_cases q2 : z = nextF x d ∧ e = (d + 3) % 6
        · obtain ⟨rfl, rfl⟩ := q2
          rw [if_neg q1, if_pos ⟨rfl, rfl⟩, if_pos ⟨hs, by omega⟩, hvx]
        · have nA : ¬ (nextF z e = x ∧ (e + 3) % 6 = d) := fun y => by
            rw [y.1, y.2] at hs2
            exact q2 ⟨hs2.symm, by omega⟩
          have nB : ¬ (nextF z e = nextF x d ∧ (e + 3) % 6 = (d + 3) % 6) := fun y => by
            rw [y.1, y.2, hs] at hs2
            exact q1 ⟨hs2.symm, by omega⟩
          rw [if_neg q1, if_neg q2, hv.2 q, if_neg nA, if_neg nB]
  · rw [n192] at z0
    have h192 := hB.1 192 (by decide) (by decide)
    rw [o z 5 (by omega) (by decide)]
    exact hZ z z0 z1
