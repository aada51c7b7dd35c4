-- the reference's acts, on
theorem c_X8_river (g : ZH) (hI : rI g) {x d b : Int} (hx : zR x) (hd : zR d) (hb : b = 0 ∨ b = 1) : ZC 2 mX8_river [.inr 100, .inl x, .inl d, .inl b] g (fun r g' => actP g g' (rivV (g 101) x d b) (rivS (g 101) x d) r) := by
  have hB := hI.1.1.1
  refine ZC.of (by decide +kernel) (Nat.le_of_ble_eq_true rfl) ?_
  have s0 := rSame.t0 g
  refine ZW.aload_n dX8_river_0 rfl ?_
  refine ZW.iconst dX8_river_1 ?_
  refine ZW.puti (fz := 0) dX8_river_2 fp_X8_44 ⟨_, rfl, rfl⟩ rfl ?_
  refine ZW.iload_n dX8_river_5 rfl ?_
  obtain ⟨g0, hg0⟩ : ∃ z, z = zSet g 100 0 0 := ⟨_, rfl⟩
  rw [← hg0] at s0 ⊢
  have e0 : g0 101 = g 101 := s0.2.2
  refine ZW.callS (as := [_]) dX8_river_6 cs_X8_124 rfl (by decide) (Nat.le_of_ble_eq_true rfl) rfl (c_X8_isHex _ hx) (fun r1 g1 ⟨q1, q2⟩ => ?_)
  subst q1; subst q2
  refine ZW.if_ne (tgt := 14) dX8_river_9 (by decide) (by first | omega | exact zB_R _) (fun c9 => ?_) (fun c9 => ?_)
  · have e := zB_ne c9
    have hxr := isHexB_t e
    refine ZW.iload_n dX8_river_14 rfl ?_
    refine ZW.iconst dX8_river_15 ?_
    refine ZW.iconst dX8_river_16 ?_
    refine ZW.callS (as := [_, _, _]) dX8_river_17 cs_X8_48 rfl (by decide) (Nat.le_of_ble_eq_true rfl) rfl (c_X8_in _ hd (by decide) (by decide)) (fun r1 g2 ⟨q1, q2⟩ => ?_)
    subst q1; subst q2
    refine ZW.if_ne (tgt := 26) dX8_river_20 (by decide) (by first | omega | exact zB_R _) (fun c20 => ?_) (fun c20 => ?_)
    · have e2 := zB_ne c20
      have hdr := of_decide_eq_true e2
      have hnr := nextF_R' x d
      refine ZW.iload_n dX8_river_26 rfl ?_
      refine ZW.iload_n dX8_river_27 rfl ?_
      refine ZW.callS (as := [_, _]) dX8_river_28 cs_X8_59 rfl (by decide) (Nat.le_of_ble_eq_true rfl) rfl (c_X8_next _ hxr (by omega)) (fun r1 g3 ⟨q1, q2⟩ => ?_)
      subst q1; subst q2
      refine ZW.istore dX8_river_31 (by decide) rfl ?_
      refine ZW.iload dX8_river_33 rfl ?_
      refine ZW.bipush dX8_river_35 rfl ?_
      refine ZW.icmp_ne (tgt := 43) dX8_river_37 (by decide) (by first | omega | exact zB_R _) (by first | omega | exact zB_R _) (fun c37 => ?_) (fun c37 => ?_)
      · have hy := (nextF_R (x := x) (d := d)).resolve_left c37
        refine ZW.aload_n dX8_river_43 rfl ?_
        refine ZW.iload_n dX8_river_44 rfl ?_
        refine ZW.iload_n dX8_river_45 rfl ?_
        refine ZW.callV (as := [_, _]) dX8_river_46 cv_X8_77 ⟨_, rfl⟩ rfl (by decide) (Nat.le_of_ble_eq_true rfl) rfl (c_X8_hasRiver _ (e0 ▸ hB) hxr (by omega)) (fun r1 g4 ⟨q1, q2⟩ => ?_)
        subst q1; subst q2
        rw [e0]
        refine ZW.iload_n dX8_river_49 rfl ?_
        refine ZW.icmp_ne (tgt := 56) dX8_river_50 (by decide) (by first | omega | exact zB_R _) (by first | omega | exact zB_R _) (fun c50 => ?_) (fun c50 => ?_)
        · refine ZW.aload_n dX8_river_56 rfl ?_
          refine ZW.callVv (as := []) dX8_river_57 cv_X8_127 ⟨_, rfl⟩ rfl (by decide) (Nat.le_of_ble_eq_true rfl) rfl (fun _ _ hz _ => hz) (c_X8_records _ (by rw [s0.2.1.2]; exact hI.2.1)) (fun g3 q3 => ?_)
          have d3 := s0.done (recP.done q3)
          rw [e0] at d3
          have e3 := d3.2.2
          have hgx := hB.1 (63 + x) (by omega) (by omega)
          have hgy := hB.1 (63 + nextF x d) (by omega) (by omega)
          refine ZW.aload_n dX8_river_60 rfl ?_
          refine ZW.getR dX8_river_61 fl_X8_7 ⟨_, rfl, rfl⟩ ?_
          refine ZW.bipush dX8_river_64 rfl ?_
          refine ZW.iload_n dX8_river_66 rfl ?_
          refine ZW.iadd dX8_river_67 ?_
          refine ZW.dup2 dX8_river_68 ?_
          refine ZW.iald dX8_river_69 rfl (by decide) (by omega) rfl ?_
          refine ZW.iconst dX8_river_70 ?_
          refine ZW.iload_n dX8_river_71 rfl ?_
          rw [e3]
          refine ZW.ishl dX8_river_72 (iI_shl1 (by omega)) ?_
          refine ZW.ixor dX8_river_73 (iI_xor hgx.1) ?_
          refine ZW.iast dX8_river_74 rfl (by decide) (by omega) ?_
          refine ZW.aload_n dX8_river_75 rfl ?_
          refine ZW.getR dX8_river_76 fl_X8_7 ⟨_, rfl, rfl⟩ ?_
          refine ZW.bipush dX8_river_79 rfl ?_
          refine ZW.iload dX8_river_81 rfl ?_
          refine ZW.iadd dX8_river_83 ?_
          refine ZW.dup2 dX8_river_84 ?_
          have hfy : (zSet g3 101 (63 + x) (xorF (g 101 (63 + x)) d)) 101 (63 + nextF x d) = g 101 (63 + nextF x d) := by
            rw [zSet_same, zUp_ne _ _ (by have := nextF_ne c37; omega), e3]
          refine ZW.iald dX8_river_85 rfl (by decide) (by omega) rfl ?_
          refine ZW.iconst dX8_river_86 ?_
          refine ZW.iload_n dX8_river_87 rfl ?_
          refine ZW.iconst dX8_river_88 ?_
          refine ZW.iadd dX8_river_89 ?_
          refine ZW.bipush dX8_river_90 rfl ?_
          refine ZW.irem dX8_river_92 (by omega) ?_
          rw [hfy]
          refine ZW.ishl dX8_river_93 (iI_shl1 (by omega)) ?_
          refine ZW.ixor dX8_river_94 (iI_xor hgy.1) ?_
          refine ZW.iast dX8_river_95 rfl (by decide) (by omega) ?_
          have hrow : zSet (zSet g3 101 (63 + x) (xorF (g 101 (63 + x)) d)) 101 (63 + nextF x d) (xorF (g 101 (63 + nextF x d)) ((d + 3) % 6)) = zRow g3 101 (rivS (g 101) x d) := by
            rw [zSet_row g3, zSet_up, e3]; rfl
          rw [hrow]
          have hA := okA_riv hI.1 hxr (d := d) (by omega) c37
          refine ZW.aload_n dX8_river_96 rfl ?_
          refine ZW.callV (as := []) dX8_river_97 cv_X8_130 ⟨_, rfl⟩ rfl (by decide) (Nat.le_of_ble_eq_true rfl) rfl (c_X8_rivers _ (by rw [zRow_same]; exact hA.1.1)) (fun r1 g5 ⟨q1, q2⟩ => ?_)
          subst q1; subst q2
          rw [zRow_same]
          refine ZW.ireti dX8_river_100 rfl ?_
          have hV : rivV (g 101) x d b = riversF (rivS (g 101) x d) := by unfold rivV; rw [e, e2, if_pos rfl, if_pos rfl, if_neg c37, if_neg c50]
          have hR := riversF_R (rivS (g 101) x d)
          exact actP.yes hV.symm (by omega) (d3.row (ks := []) (zFr.rf _ _) (by decide))
        · refine ZW.bipush dX8_river_53 rfl ?_
          refine ZW.ireti dX8_river_55 rfl ?_
          exact actP.neg (by unfold rivV; rw [e, e2, if_pos rfl, if_pos rfl, if_neg c37, if_pos c50]) (by decide) s0
      · refine ZW.bipush dX8_river_40 rfl ?_
        refine ZW.ireti dX8_river_42 rfl ?_
        exact actP.neg (by unfold rivV; rw [e, e2, if_pos rfl, if_pos rfl, if_pos c37]) (by decide) s0
    · have e2 := zB_eq c20
      refine ZW.bipush dX8_river_23 rfl ?_
      refine ZW.ireti dX8_river_25 rfl ?_
      exact actP.neg (by unfold rivV; rw [e, e2]; rfl) (by decide) s0
  · have e := zB_eq c9
    refine ZW.iconst dX8_river_12 ?_
    refine ZW.ireti dX8_river_13 rfl ?_
    exact actP.neg (by unfold rivV; rw [e]; rfl) (by decide) s0
def fortN (r : Int → Int) (x s : Int) : Int := if s = 2 then 0 else if unitOnF r x = -5 then s + 1 else ofF r (unitOnF r x) 0 + 1
def fortS (r : Int → Int) (x s : Int) : Int → Int := zUp r (126 + x) (fortN r x s)
def fortV (r : Int → Int) (x s : Int) : Int := if isHexB x then (if inB s 0 2 then (if (decide (r (126 + x) = 0) == decide (s = 2)) then -5 else fortsF (fortS r x s) 0 + fortsF (fortS r x s) 1) else -2) else -1
theorem fortsF_R (r : Int → Int) (side : Int) : 0 ≤ fortsF r side ∧ fortsF r side ≤ 63 := by
  have h1 := cntF_R (p := fun x => zB (decide (r (126 + x) = side + 1))) (b := 1) (by decide) (n := 63) (i := 0) (fun j _ _ => by have := zB_1 (decide (r (126 + j) = side + 1)); show 0 ≤ zB _ ∧ zB _ ≤ 1; omega)
  unfold fortsF
  omega
theorem fortN_R {r : Int → Int} (h : okA r) {x s : Int} (hs : 0 ≤ s ∧ s ≤ 2) : 0 ≤ fortN r x s ∧ fortN r x s ≤ 2 := by
  unfold fortN
  split
  · omega
  · split
    · omega
    · next q =>
      have h1 := (unitOnF_R h.1.1 x).resolve_left q
      have h2 := h.1.2.1 _ h1.1 h1.2.2.1
      omega
theorem okA_fort {r : Int → Int} (h : okA r) {x s : Int} (hx : 0 ≤ x ∧ x < 63) (hs : 0 ≤ s ∧ s ≤ 2) : okA (fortS r x s) := by
  have h1 := fortN_R h (x := x) hs
  exact okA_lo h (by omega) (by omega) (Or.inr (by omega)) (fun _ _ => h1.2)
theorem c_X8_fort (g : ZH) (hI : rI g) {x s : Int} (hx : zR x) (hs : zR s) : ZC 2 mX8_fort [.inr 100, .inl x, .inl s] g (fun r g' => actP g g' (fortV (g 101) x s) (fortS (g 101) x s) r) := by
  have hB := hI.1.1.1
  refine ZC.of (by decide +kernel) (Nat.le_of_ble_eq_true rfl) ?_
  have s0 := rSame.t0 g
  refine ZW.aload_n dX8_fort_0 rfl ?_
  refine ZW.iconst dX8_fort_1 ?_
  refine ZW.puti (fz := 0) dX8_fort_2 fp_X8_44 ⟨_, rfl, rfl⟩ rfl ?_
  refine ZW.iload_n dX8_fort_5 rfl ?_
  obtain ⟨g0, hg0⟩ : ∃ z, z = zSet g 100 0 0 := ⟨_, rfl⟩
  rw [← hg0] at s0 ⊢
  have e0 : g0 101 = g 101 := s0.2.2
  refine ZW.callS (as := [_]) dX8_fort_6 cs_X8_124 rfl (by decide) (Nat.le_of_ble_eq_true rfl) rfl (c_X8_isHex _ hx) (fun r1 g1 ⟨q1, q2⟩ => ?_)
  subst q1; subst q2
  refine ZW.if_ne (tgt := 14) dX8_fort_9 (by decide) (by first | omega | exact zB_R _) (fun c9 => ?_) (fun c9 => ?_)
  · have e := zB_ne c9
    have hxr := isHexB_t e
    refine ZW.iload_n dX8_fort_14 rfl ?_
    refine ZW.iconst dX8_fort_15 ?_
    refine ZW.iconst dX8_fort_16 ?_
    refine ZW.callS (as := [_, _, _]) dX8_fort_17 cs_X8_48 rfl (by decide) (Nat.le_of_ble_eq_true rfl) rfl (c_X8_in _ hs (by decide) (by decide)) (fun r1 g2 ⟨q1, q2⟩ => ?_)
    subst q1; subst q2
    refine ZW.if_ne (tgt := 26) dX8_fort_20 (by decide) (by first | omega | exact zB_R _) (fun c20 => ?_) (fun c20 => ?_)
    · have e2 := zB_ne c20
      have hsr := of_decide_eq_true e2
      have hgx := hB.1 (126 + x) (by omega) (by omega)
      have part : ∀ v : Int, v = zB (decide (g 101 (126 + x) = 0)) → ZW 2 mX8_fort 43 [some (.inr 100), some (.inl x), some (.inl s), none] [.inl v] g2 (fun r g' => actP g g' (fortV (g 101) x s) (fortS (g 101) x s) r) := by
        intro v hv
        have part2 : ∀ w : Int, w = zB (decide (s = 2)) → ZW 2 mX8_fort 53 [some (.inr 100), some (.inl x), some (.inl s), none] [.inl w, .inl v] g2 (fun r g' => actP g g' (fortV (g 101) x s) (fortS (g 101) x s) r) := by
          intro w hw
          subst hv; subst hw
          have hU := unitOnF_R hB x
          refine ZW.icmp_ne (tgt := 59) dX8_fort_53 (by decide) (by first | omega | exact zB_R _) (by first | omega | exact zB_R _) (fun c53 => ?_) (fun c53 => ?_)
          · have hno : ¬ ((decide (g 101 (126 + x) = 0) == decide (s = 2)) = true) := fun q => c53 (by rw [eq_of_beq q])
            refine ZW.aload_n dX8_fort_59 rfl ?_
            refine ZW.callVv (as := []) dX8_fort_60 cv_X8_127 ⟨_, rfl⟩ rfl (by decide) (Nat.le_of_ble_eq_true rfl) rfl (fun _ _ hz _ => hz) (c_X8_records _ (by rw [s0.2.1.2]; exact hI.2.1)) (fun g3 q3 => ?_)
            have d3 := s0.done (recP.done q3)
            rw [e0] at d3
            have e3 := d3.2.2
            refine ZW.aload_n dX8_fort_63 rfl ?_
            refine ZW.iload_n dX8_fort_64 rfl ?_
            refine ZW.callV (as := [_]) dX8_fort_65 cv_X8_62 ⟨_, rfl⟩ rfl (by decide) (Nat.le_of_ble_eq_true rfl) rfl (c_X8_unitOn _ (e3 ▸ hB) (by omega)) (fun r1 g4 ⟨q1, q2⟩ => ?_)
            subst q1; subst q2
            rw [e3]
            have last : ∀ z : Int, z = fortN (g 101) x s → ZW 2 mX8_fort 106 [some (.inr 100), some (.inl x), some (.inl s), some (.inl (unitOnF (g 101) x))] [.inl z, .inl (126 + x), .inr 101] g4 (fun r g' => actP g g' (fortV (g 101) x s) (fortS (g 101) x s) r) := by
              intro z hz
              subst hz
              have hA := okA_fort hI.1 (x := x) (s := s) hxr (by omega)
              refine ZW.iast dX8_fort_106 rfl (by decide) (by omega) ?_
              refine ZW.aload_n dX8_fort_107 rfl ?_
              refine ZW.iconst dX8_fort_108 ?_
              rw [show zSet g4 101 (126 + x) (fortN (g 101) x s) = zRow g4 101 (fortS (g 101) x s) by rw [zSet_row, e3]; rfl]
              refine ZW.callV (as := [_]) dX8_fort_109 cv_X8_133 ⟨_, rfl⟩ rfl (by decide) (Nat.le_of_ble_eq_true rfl) rfl (c_X8_forts _ (by rw [zRow_same]; exact hA.1.1) (by omega)) (fun r1 g5 ⟨q1, q2⟩ => ?_)
              subst q1; subst q2
              refine ZW.aload_n dX8_fort_112 rfl ?_
              refine ZW.iconst dX8_fort_113 ?_
              refine ZW.callV (as := [_]) dX8_fort_114 cv_X8_133 ⟨_, rfl⟩ rfl (by decide) (Nat.le_of_ble_eq_true rfl) rfl (c_X8_forts _ (by rw [zRow_same]; exact hA.1.1) (by omega)) (fun r1 g6 ⟨q1, q2⟩ => ?_)
              subst q1; subst q2
              rw [zRow_same]
              refine ZW.iadd dX8_fort_117 ?_
              refine ZW.ireti dX8_fort_118 rfl ?_
              have hV : fortV (g 101) x s = fortsF (fortS (g 101) x s) 0 + fortsF (fortS (g 101) x s) 1 := by unfold fortV; rw [e, e2, if_pos rfl, if_pos rfl, if_neg hno]
              have r0 := fortsF_R (fortS (g 101) x s) 0
              have r1 := fortsF_R (fortS (g 101) x s) 1
              exact actP.yes hV.symm (by omega) (d3.row (ks := []) (zFr.rf _ _) (by decide))
            refine ZW.istore_n dX8_fort_68 (by decide) rfl ?_
            refine ZW.aload_n dX8_fort_69 rfl ?_
            refine ZW.getR dX8_fort_70 fl_X8_7 ⟨_, rfl, rfl⟩ ?_
            refine ZW.bipush dX8_fort_73 rfl ?_
            refine ZW.iload_n dX8_fort_75 rfl ?_
            refine ZW.iadd dX8_fort_76 ?_
            refine ZW.iload_n dX8_fort_77 rfl ?_
            refine ZW.iconst dX8_fort_78 ?_
            refine ZW.icmp_ne (tgt := 86) dX8_fort_79 (by decide) (by first | omega | exact zB_R _) (by first | omega | exact zB_R _) (fun c79 => ?_) (fun c79 => ?_)
            · refine ZW.iload_n dX8_fort_86 rfl ?_
              refine ZW.bipush dX8_fort_87 rfl ?_
              refine ZW.icmp_ne (tgt := 98) dX8_fort_89 (by decide) (by first | omega | exact zB_R _) (by first | omega | exact zB_R _) (fun c89 => ?_) (fun c89 => ?_)
              · refine ZW.aload_n dX8_fort_98 rfl ?_
                refine ZW.iload_n dX8_fort_99 rfl ?_
                refine ZW.iconst dX8_fort_100 ?_
                refine ZW.callV (as := [_, _]) dX8_fort_101 cv_X8_52 ⟨_, rfl⟩ rfl (by decide) (Nat.le_of_ble_eq_true rfl) rfl (c_X8_of _ (by omega) (by omega)) (fun r1 g5 ⟨q1, q2⟩ => ?_)
                subst q1; subst q2
                rw [e3]
                refine ZW.iconst dX8_fort_104 ?_
                refine ZW.iadd dX8_fort_105 ?_
                exact last _ (by unfold fortN; rw [if_neg c79, if_neg c89])
              · refine ZW.iload_n dX8_fort_92 rfl ?_
                refine ZW.iconst dX8_fort_93 ?_
                refine ZW.iadd dX8_fort_94 ?_
                refine ZW.goto (tgt := 106) dX8_fort_95 (by decide) ?_
                exact last _ (by unfold fortN; rw [if_neg c79, if_pos c89])
            · refine ZW.iconst dX8_fort_82 ?_
              refine ZW.goto (tgt := 106) dX8_fort_83 (by decide) ?_
              exact last _ (by unfold fortN; rw [if_pos c79])
          · have hyes : (decide (g 101 (126 + x) = 0) == decide (s = 2)) = true := by
              rcases hA : decide (g 101 (126 + x) = 0) <;> rcases hC : decide (s = 2) <;> rw [hA, hC] at c53 <;> first | rfl | exact absurd c53 (by decide)
            refine ZW.bipush dX8_fort_56 rfl ?_
            refine ZW.ireti dX8_fort_58 rfl ?_
            exact actP.neg (by unfold fortV; rw [e, e2, if_pos rfl, if_pos rfl, if_pos hyes]) (by decide) s0
        refine ZW.iload_n dX8_fort_43 rfl ?_
        refine ZW.iconst dX8_fort_44 ?_
        refine ZW.icmp_ne (tgt := 52) dX8_fort_45 (by decide) (by first | omega | exact zB_R _) (by first | omega | exact zB_R _) (fun c45 => ?_) (fun c45 => ?_)
        · refine ZW.iconst dX8_fort_52 ?_
          exact part2 0 (by rw [decide_eq_false c45]; rfl)
        · refine ZW.iconst dX8_fort_48 ?_
          refine ZW.goto (tgt := 53) dX8_fort_49 (by decide) ?_
          exact part2 1 (by rw [decide_eq_true c45]; rfl)
      refine ZW.aload_n dX8_fort_26 rfl ?_
      refine ZW.getR dX8_fort_27 fl_X8_7 ⟨_, rfl, rfl⟩ ?_
      refine ZW.bipush dX8_fort_30 rfl ?_
      refine ZW.iload_n dX8_fort_32 rfl ?_
      refine ZW.iadd dX8_fort_33 ?_
      refine ZW.iald dX8_fort_34 rfl (by decide) (by omega) rfl ?_
      rw [e0]
      refine ZW.if_ne (tgt := 42) dX8_fort_35 (by decide) (by first | omega | exact zB_R _) (fun c35 => ?_) (fun c35 => ?_)
      · refine ZW.iconst dX8_fort_42 ?_
        exact part 0 (by rw [decide_eq_false c35]; rfl)
      · refine ZW.iconst dX8_fort_38 ?_
        refine ZW.goto (tgt := 43) dX8_fort_39 (by decide) ?_
        exact part 1 (by rw [decide_eq_true c35]; rfl)
    · have e2 := zB_eq c20
      refine ZW.bipush dX8_fort_23 rfl ?_
      refine ZW.ireti dX8_fort_25 rfl ?_
      exact actP.neg (by unfold fortV; rw [e, e2]; rfl) (by decide) s0
  · have e := zB_eq c9
    refine ZW.iconst dX8_fort_12 ?_
    refine ZW.ireti dX8_fort_13 rfl ?_
    exact actP.neg (by unfold fortV; rw [e]; rfl) (by decide) s0
def baseV (r : Int → Int) (s x : Int) : Int := if inB s 0 1 && isHexB x then (if r (189 + s) = x then -5 else r (189 + s)) else -1
theorem c_X8_base (g : ZH) (hI : rI g) {s x : Int} (hs : zR s) (hx : zR x) : ZC 2 mX8_base [.inr 100, .inl s, .inl x] g (fun r g' => actP g g' (baseV (g 101) s x) (zUp (g 101) (189 + s) x) r) := by
  have hB := hI.1.1.1
  refine ZC.of (by decide +kernel) (Nat.le_of_ble_eq_true rfl) ?_
  have s0 := rSame.t0 g
  refine ZW.aload_n dX8_base_0 rfl ?_
  refine ZW.iconst dX8_base_1 ?_
  refine ZW.puti (fz := 0) dX8_base_2 fp_X8_44 ⟨_, rfl, rfl⟩ rfl ?_
  refine ZW.iload_n dX8_base_5 rfl ?_
  refine ZW.iconst dX8_base_6 ?_
  refine ZW.iconst dX8_base_7 ?_
  obtain ⟨g0, hg0⟩ : ∃ z, z = zSet g 100 0 0 := ⟨_, rfl⟩
  rw [← hg0] at s0 ⊢
  have e0 : g0 101 = g 101 := s0.2.2
  refine ZW.callS (as := [_, _, _]) dX8_base_8 cs_X8_48 rfl (by decide) (Nat.le_of_ble_eq_true rfl) rfl (c_X8_in _ hs (by decide) (by decide)) (fun r1 g1 ⟨q1, q2⟩ => ?_)
  subst q1; subst q2
  refine ZW.if_eq (tgt := 21) dX8_base_11 (by decide) (by first | omega | exact zB_R _) (fun c11 => ?_) (fun c11 => ?_)
  · have e := zB_eq c11
    refine ZW.iconst dX8_base_21 ?_
    refine ZW.ireti dX8_base_22 rfl ?_
    exact actP.neg (by unfold baseV; rw [e]; rfl) (by decide) s0
  · have e := zB_ne c11
    have hsr := of_decide_eq_true e
    refine ZW.iload_n dX8_base_14 rfl ?_
    refine ZW.callS (as := [_]) dX8_base_15 cs_X8_124 rfl (by decide) (Nat.le_of_ble_eq_true rfl) rfl (c_X8_isHex _ hx) (fun r1 g2 ⟨q1, q2⟩ => ?_)
    subst q1; subst q2
    refine ZW.if_ne (tgt := 23) dX8_base_18 (by decide) (by first | omega | exact zB_R _) (fun c18 => ?_) (fun c18 => ?_)
    · have e2 := zB_ne c18
      have hxr := isHexB_t e2
      have hgx := hB.1 (189 + s) (by omega) (by omega)
      refine ZW.aload_n dX8_base_23 rfl ?_
      refine ZW.getR dX8_base_24 fl_X8_7 ⟨_, rfl, rfl⟩ ?_
      refine ZW.sipush dX8_base_27 rfl ?_
      refine ZW.iload_n dX8_base_30 rfl ?_
      refine ZW.iadd dX8_base_31 ?_
      refine ZW.iald dX8_base_32 rfl (by decide) (by omega) rfl ?_
      rw [e0]
      refine ZW.istore_n dX8_base_33 (by decide) rfl ?_
      refine ZW.iload_n dX8_base_34 rfl ?_
      refine ZW.iload_n dX8_base_35 rfl ?_
      refine ZW.icmp_ne (tgt := 42) dX8_base_36 (by decide) (by first | omega | exact zB_R _) (by first | omega | exact zB_R _) (fun c36 => ?_) (fun c36 => ?_)
      · refine ZW.aload_n dX8_base_42 rfl ?_
        refine ZW.callVv (as := []) dX8_base_43 cv_X8_127 ⟨_, rfl⟩ rfl (by decide) (Nat.le_of_ble_eq_true rfl) rfl (fun _ _ hz _ => hz) (c_X8_records _ (by rw [s0.2.1.2]; exact hI.2.1)) (fun g3 q3 => ?_)
        have d3 := s0.done (recP.done q3)
        rw [e0] at d3
        have e3 := d3.2.2
        refine ZW.aload_n dX8_base_46 rfl ?_
        refine ZW.getR dX8_base_47 fl_X8_7 ⟨_, rfl, rfl⟩ ?_
        refine ZW.sipush dX8_base_50 rfl ?_
        refine ZW.iload_n dX8_base_53 rfl ?_
        refine ZW.iadd dX8_base_54 ?_
        refine ZW.iload_n dX8_base_55 rfl ?_
        refine ZW.iast dX8_base_56 rfl (by decide) (by omega) ?_
        refine ZW.iload_n dX8_base_57 rfl ?_
        refine ZW.ireti dX8_base_58 rfl ?_
        have hV : baseV (g 101) s x = g 101 (189 + s) := by unfold baseV; rw [e, e2, Bool.and_self, if_pos rfl, if_neg c36]
        refine actP.yes hV.symm (by omega) ?_
        rw [zSet_row, e3]
        exact d3.row (ks := []) (zFr.rf _ _) (by decide)
      · refine ZW.bipush dX8_base_39 rfl ?_
        refine ZW.ireti dX8_base_41 rfl ?_
        exact actP.neg (by unfold baseV; rw [e, e2, Bool.and_self, if_pos rfl, if_pos c36]) (by decide) s0
    · have e2 := zB_eq c18
      refine ZW.iconst dX8_base_21 ?_
      refine ZW.ireti dX8_base_22 rfl ?_
      exact actP.neg (by unfold baseV; rw [e, e2]; rfl) (by decide) s0
def plcS (r : Int → Int) (s st x : Int) : Int → Int := standsF (layF (layF (layF (layF (zUp r 192 (r 192 + 1)) (r 192) 0 s) (r 192) 1 st) (r 192) 3 4) (r 192) 4 1) (r 192) x
def plcV (r : Int → Int) (s st x : Int) : Int := if inB s 0 1 && isHexB x then (if inB st 1 9 then (if r 192 = 16 then -3 else (if unitOnF r x = -5 then r 192 else -4)) else -2) else -1
theorem okB_192 {r : Int → Int} (hk : okB r) (h : r 192 ≠ 16) : okB (zUp r 192 (r 192 + 1)) := by
  have h1 := hk.1 192 (by decide) (by decide)
  have h2 := hk.2
  refine ⟨fun j j0 j1 => ?_, by rw [zUp_same]; omega⟩
  by_cases q : j = 192
  · rw [q, zUp_same]; omega
  · rw [zUp_ne _ _ q]; exact hk.1 j j0 j1
theorem c_X8_place (g : ZH) (hI : rI g) {s st x : Int} (hs : zR s) (hst : zR st) (hx : zR x) : ZC 2 mX8_place [.inr 100, .inl s, .inl st, .inl x] g (fun r g' => actP g g' (plcV (g 101) s st x) (plcS (g 101) s st x) r) := by
  have hB := hI.1.1.1
  have h192 := hB.1 192 (by decide) (by decide)
  have h16 := hB.2
  refine ZC.of (by decide +kernel) (Nat.le_of_ble_eq_true rfl) ?_
  have s0 := rSame.t0 g
  refine ZW.aload_n dX8_place_0 rfl ?_
  refine ZW.iconst dX8_place_1 ?_
  refine ZW.puti (fz := 0) dX8_place_2 fp_X8_44 ⟨_, rfl, rfl⟩ rfl ?_
  refine ZW.iload_n dX8_place_5 rfl ?_
  refine ZW.iconst dX8_place_6 ?_
  refine ZW.iconst dX8_place_7 ?_
  obtain ⟨g0, hg0⟩ : ∃ z, z = zSet g 100 0 0 := ⟨_, rfl⟩
  rw [← hg0] at s0 ⊢
  have e0 : g0 101 = g 101 := s0.2.2
  refine ZW.callS (as := [_, _, _]) dX8_place_8 cs_X8_48 rfl (by decide) (Nat.le_of_ble_eq_true rfl) rfl (c_X8_in _ hs (by decide) (by decide)) (fun r1 g1 ⟨q1, q2⟩ => ?_)
  subst q1; subst q2
  refine ZW.if_eq (tgt := 21) dX8_place_11 (by decide) (by first | omega | exact zB_R _) (fun c11 => ?_) (fun c11 => ?_)
  · have e := zB_eq c11
    refine ZW.iconst dX8_place_21 ?_
    refine ZW.ireti dX8_place_22 rfl ?_
    exact actP.neg (by unfold plcV; rw [e]; rfl) (by decide) s0
  · have e := zB_ne c11
    have hsr := of_decide_eq_true e
    refine ZW.iload_n dX8_place_14 rfl ?_
    refine ZW.callS (as := [_]) dX8_place_15 cs_X8_124 rfl (by decide) (Nat.le_of_ble_eq_true rfl) rfl (c_X8_isHex _ hx) (fun r1 g2 ⟨q1, q2⟩ => ?_)
    subst q1; subst q2
    refine ZW.if_ne (tgt := 23) dX8_place_18 (by decide) (by first | omega | exact zB_R _) (fun c18 => ?_) (fun c18 => ?_)
    · have e2 := zB_ne c18
      have hxr := isHexB_t e2
      refine ZW.iload_n dX8_place_23 rfl ?_
      refine ZW.iconst dX8_place_24 ?_
      refine ZW.bipush dX8_place_25 rfl ?_
      refine ZW.callS (as := [_, _, _]) dX8_place_27 cs_X8_48 rfl (by decide) (Nat.le_of_ble_eq_true rfl) rfl (c_X8_in _ hst (by decide) (by decide)) (fun r1 g3 ⟨q1, q2⟩ => ?_)
      subst q1; subst q2
      refine ZW.if_ne (tgt := 36) dX8_place_30 (by decide) (by first | omega | exact zB_R _) (fun c30 => ?_) (fun c30 => ?_)
      · have e4 := zB_ne c30
        have hstr := of_decide_eq_true e4
        refine ZW.aload_n dX8_place_36 rfl ?_
        refine ZW.getR dX8_place_37 fl_X8_7 ⟨_, rfl, rfl⟩ ?_
        refine ZW.sipush dX8_place_40 rfl ?_
        refine ZW.iald dX8_place_43 rfl (by decide) (by omega) rfl ?_
        rw [e0]
        refine ZW.bipush dX8_place_44 rfl ?_
        refine ZW.icmp_ne (tgt := 52) dX8_place_46 (by decide) (by first | omega | exact zB_R _) (by first | omega | exact zB_R _) (fun c46 => ?_) (fun c46 => ?_)
        · refine ZW.aload_n dX8_place_52 rfl ?_
          refine ZW.iload_n dX8_place_53 rfl ?_
          refine ZW.callV (as := [_]) dX8_place_54 cv_X8_62 ⟨_, rfl⟩ rfl (by decide) (Nat.le_of_ble_eq_true rfl) rfl (c_X8_unitOn _ (e0 ▸ hB) (by omega)) (fun r1 g4 ⟨q1, q2⟩ => ?_)
          subst q1; subst q2
          rw [e0]
          have hU := unitOnF_R hB x
          refine ZW.bipush dX8_place_57 rfl ?_
          refine ZW.icmp_eq (tgt := 65) dX8_place_59 (by decide) (by first | omega | exact zB_R _) (by first | omega | exact zB_R _) (fun c59 => ?_) (fun c59 => ?_)
          · refine ZW.aload_n dX8_place_65 rfl ?_
            refine ZW.callVv (as := []) dX8_place_66 cv_X8_127 ⟨_, rfl⟩ rfl (by decide) (Nat.le_of_ble_eq_true rfl) rfl (fun _ _ hz _ => hz) (c_X8_records _ (by rw [s0.2.1.2]; exact hI.2.1)) (fun g3 q3 => ?_)
            have d3 := s0.done (recP.done q3)
            rw [e0] at d3
            have e3 := d3.2.2
            have hu : 0 ≤ g 101 192 ∧ g 101 192 < 16 := by omega
            have k0 := okB_192 hB c46
            refine ZW.aload_n dX8_place_69 rfl ?_
            refine ZW.getR dX8_place_70 fl_X8_7 ⟨_, rfl, rfl⟩ ?_
            refine ZW.sipush dX8_place_73 rfl ?_
            refine ZW.iald dX8_place_76 rfl (by decide) (by omega) rfl ?_
            rw [e3]
            refine ZW.istore dX8_place_77 (by decide) rfl ?_
            refine ZW.aload_n dX8_place_79 rfl ?_
            refine ZW.getR dX8_place_80 fl_X8_7 ⟨_, rfl, rfl⟩ ?_
            refine ZW.sipush dX8_place_83 rfl ?_
            refine ZW.dup2 dX8_place_86 ?_
            refine ZW.iald dX8_place_87 rfl (by decide) (by omega) rfl ?_
            rw [e3]
            refine ZW.iconst dX8_place_88 ?_
            refine ZW.iadd dX8_place_89 ?_
            refine ZW.iast dX8_place_90 rfl (by decide) (by omega) ?_
            rw [show zSet g3 101 192 (g 101 192 + 1) = zRow g3 101 (zUp (g 101) 192 (g 101 192 + 1)) by rw [zSet_row, e3]]
            refine ZW.aload_n dX8_place_91 rfl ?_
            refine ZW.iload dX8_place_92 rfl ?_
            refine ZW.iconst dX8_place_94 ?_
            refine ZW.iload_n dX8_place_95 rfl ?_
            refine ZW.callVv (as := [_, _, _]) dX8_place_96 cv_X8_73 ⟨_, rfl⟩ rfl (by decide) (Nat.le_of_ble_eq_true rfl) rfl (fun _ _ hz _ => hz) (c_X8_layR _ hu (by omega)) (fun g5 q1 => ?_)
            subst q1
            rw [zRow_same, zRow_row]
            refine ZW.aload_n dX8_place_99 rfl ?_
            refine ZW.iload dX8_place_100 rfl ?_
            refine ZW.iconst dX8_place_102 ?_
            refine ZW.iload_n dX8_place_103 rfl ?_
            refine ZW.callVv (as := [_, _, _]) dX8_place_104 cv_X8_73 ⟨_, rfl⟩ rfl (by decide) (Nat.le_of_ble_eq_true rfl) rfl (fun _ _ hz _ => hz) (c_X8_layR _ hu (by omega)) (fun g5 q1 => ?_)
            subst q1
            rw [zRow_same, zRow_row]
            refine ZW.aload_n dX8_place_107 rfl ?_
            refine ZW.iload dX8_place_108 rfl ?_
            refine ZW.iconst dX8_place_110 ?_
            refine ZW.iconst dX8_place_111 ?_
            refine ZW.callVv (as := [_, _, _]) dX8_place_112 cv_X8_73 ⟨_, rfl⟩ rfl (by decide) (Nat.le_of_ble_eq_true rfl) rfl (fun _ _ hz _ => hz) (c_X8_layR _ hu (by omega)) (fun g5 q1 => ?_)
            subst q1
            rw [zRow_same, zRow_row]
            refine ZW.aload_n dX8_place_115 rfl ?_
            refine ZW.iload dX8_place_116 rfl ?_
            refine ZW.iconst dX8_place_118 ?_
            refine ZW.iconst dX8_place_119 ?_
            refine ZW.callVv (as := [_, _, _]) dX8_place_120 cv_X8_73 ⟨_, rfl⟩ rfl (by decide) (Nat.le_of_ble_eq_true rfl) rfl (fun _ _ hz _ => hz) (c_X8_layR _ hu (by omega)) (fun g5 q1 => ?_)
            subst q1
            rw [zRow_same, zRow_row]
            have k4 := okB_lay (okB_lay (okB_lay (okB_lay k0 (u := g 101 192) (w := 0) (v := s) hu.1 (by decide) (by omega)) (u := g 101 192) (w := 1) (v := st) hu.1 (by decide) (by omega)) (u := g 101 192) (w := 3) (v := 4) hu.1 (by decide) (by decide)) (u := g 101 192) (w := 4) (v := 1) hu.1 (by decide) (by decide)
            refine ZW.aload_n dX8_place_123 rfl ?_
            refine ZW.iload dX8_place_124 rfl ?_
            refine ZW.iload_n dX8_place_126 rfl ?_
            refine ZW.callVv (as := [_, _]) dX8_place_127 cv_X8_120 ⟨_, rfl⟩ rfl (by decide) (Nat.le_of_ble_eq_true rfl) rfl (fun _ _ hz _ => hz) (c_X8_stands _ (by rw [zRow_same]; exact k4) hu hxr) (fun g5 q1 => ?_)
            subst q1
            rw [zRow_same, zRow_row]
            refine ZW.iload dX8_place_130 rfl ?_
            refine ZW.ireti dX8_place_132 rfl ?_
            have hV : plcV (g 101) s st x = g 101 192 := by unfold plcV; rw [e, e2, e4, Bool.and_self, if_pos rfl, if_pos rfl, if_neg c46, if_pos c59]
            exact actP.yes hV.symm (by omega) (d3.row (ks := []) (zFr.rf _ _) (by decide))
          · refine ZW.bipush dX8_place_62 rfl ?_
            refine ZW.ireti dX8_place_64 rfl ?_
            exact actP.neg (by unfold plcV; rw [e, e2, e4, Bool.and_self, if_pos rfl, if_pos rfl, if_neg c46, if_neg c59]) (by decide) s0
        · refine ZW.bipush dX8_place_49 rfl ?_
          refine ZW.ireti dX8_place_51 rfl ?_
          exact actP.neg (by unfold plcV; rw [e, e2, e4, Bool.and_self, if_pos rfl, if_pos rfl, if_pos c46]) (by decide) s0
      · have e4 := zB_eq c30
        refine ZW.bipush dX8_place_33 rfl ?_
        refine ZW.ireti dX8_place_35 rfl ?_
        exact actP.neg (by unfold plcV; rw [e, e2, e4]; rfl) (by decide) s0
    · have e2 := zB_eq c18
      refine ZW.iconst dX8_place_21 ?_
      refine ZW.ireti dX8_place_22 rfl ?_
      exact actP.neg (by unfold plcV; rw [e, e2]; rfl) (by decide) s0
noncomputable def movV (r : Int → Int) (u x : Int) : Int := if refMF r u x = 0 then movesR r u x else refMF r u x
theorem c_X8_move (g : ZH) (hI : rI g) {u x : Int} (hu : zR u) (hx : zR x) : ZC 7 mX8_move [.inr 100, .inl u, .inl x] g (fun r g' => actP g g' (movV (g 101) u x) (movesF (g 101) u x) r) := by
  obtain ⟨hB, hU⟩ := rows hI
  have hrm := refMF_R (g 101) u x
  refine ZC.of (by decide +kernel) (Nat.le_of_ble_eq_true rfl) ?_
  have s0 := rSame.t0 g
  refine ZW.aload_n dX8_move_0 rfl ?_
  refine ZW.iconst dX8_move_1 ?_
  refine ZW.puti (fz := 0) dX8_move_2 fp_X8_44 ⟨_, rfl, rfl⟩ rfl ?_
  refine ZW.aload_n dX8_move_5 rfl ?_
  refine ZW.iload_n dX8_move_6 rfl ?_
  refine ZW.iload_n dX8_move_7 rfl ?_
  obtain ⟨g0, hg0⟩ : ∃ z, z = zSet g 100 0 0 := ⟨_, rfl⟩
  rw [← hg0] at s0 ⊢
  have e0 : g0 101 = g 101 := s0.2.2
  refine ZW.callV (as := [_, _]) dX8_move_8 cv_X8_148 ⟨_, rfl⟩ rfl (by decide) (Nat.le_of_ble_eq_true rfl) rfl (c_X8_refusesMove _ (e0 ▸ hB) (e0 ▸ hU) hu hx) (fun r1 g1 ⟨q1, f1, w1⟩ => ?_)
  rw [e0] at q1 w1
  subst q1
  have s1 := s0.tr (rSame.fr f1 (by decide))
  have e1 : g1 101 = g 101 := s1.2.2
  refine ZW.istore_n dX8_move_11 (by decide) rfl ?_
  refine ZW.iload_n dX8_move_12 rfl ?_
  refine ZW.if_eq (tgt := 18) dX8_move_13 (by decide) (by first | omega | exact zB_R _) (fun c13 => ?_) (fun c13 => ?_)
  · have h3 := refMF_0 c13
    have hu2 := isUnitB_t hB h3.1
    have hx2 := isHexB_t h3.2.1
    refine ZW.aload_n dX8_move_18 rfl ?_
    refine ZW.callVv (as := []) dX8_move_19 cv_X8_127 ⟨_, rfl⟩ rfl (by decide) (Nat.le_of_ble_eq_true rfl) rfl (fun _ _ hz _ => hz) (c_X8_records _ (by rw [s1.2.1.2]; exact hI.2.1)) (fun g3 q3 => ?_)
    have d3 := s1.done (recP.done q3)
    rw [e1] at d3
    have e3 := d3.2.2
    have e106 : g3 106 x = wayF (g 101) u x := by rw [q3.1 106 (by decide)]; exact w1 c13 x hx2.1 hx2.2
    refine ZW.aload_n dX8_move_22 rfl ?_
    refine ZW.iload_n dX8_move_23 rfl ?_
    refine ZW.iload_n dX8_move_24 rfl ?_
    refine ZW.callV (as := [_, _]) dX8_move_25 cv_X8_151 ⟨_, rfl⟩ rfl (by decide) (Nat.le_of_ble_eq_true rfl) rfl (c_X8_moves _ (e3 ▸ hB) ⟨hu2.1, hu2.2.2.1⟩ hx2 (by rw [e3]; exact e106) (by rw [e3]; exact h3.2.2.2.2.1)) (fun r1 g5 ⟨q1, q2⟩ => ?_)
    subst q1; subst q2
    rw [e3]
    refine ZW.ireti dX8_move_28 rfl ?_
    have hV : movV (g 101) u x = movesR (g 101) u x := by unfold movV; rw [if_pos c13]
    have hle := h3.2.2.2.2.1
    exact actP.yes hV.symm (by rw [hV]; unfold movesR; omega) (d3.row (ks := []) (zFr.rf _ _) (by decide))
  · refine ZW.iload_n dX8_move_16 rfl ?_
    refine ZW.ireti dX8_move_17 rfl ?_
    exact actP.neg (by unfold movV; rw [if_neg c13]) (by omega) s1
noncomputable def attV (r : Int → Int) (u x : Int) : Int := if refAF r u x = 0 then fightsR r u x else refAF r u x
theorem c_X8_attack (g : ZH) (hI : rI g) {u x : Int} (hu : zR u) (hx : zR x) : ZC 9 mX8_attack [.inr 100, .inl u, .inl x] g (fun r g' => actP g g' (attV (g 101) u x) (fightsF (g 101) u x) r) := by
  obtain ⟨hB, hU⟩ := rows hI
  have hrm := refAF_R (g 101) u x
  refine ZC.of (by decide +kernel) (Nat.le_of_ble_eq_true rfl) ?_
  have s0 := rSame.t0 g
  refine ZW.aload_n dX8_attack_0 rfl ?_
  refine ZW.iconst dX8_attack_1 ?_
  refine ZW.puti (fz := 0) dX8_attack_2 fp_X8_44 ⟨_, rfl, rfl⟩ rfl ?_
  refine ZW.aload_n dX8_attack_5 rfl ?_
  refine ZW.iload_n dX8_attack_6 rfl ?_
  refine ZW.iload_n dX8_attack_7 rfl ?_
  obtain ⟨g0, hg0⟩ : ∃ z, z = zSet g 100 0 0 := ⟨_, rfl⟩
  rw [← hg0] at s0 ⊢
  have e0 : g0 101 = g 101 := s0.2.2
  refine ZW.callV (as := [_, _]) dX8_attack_8 cv_X8_157 ⟨_, rfl⟩ rfl (by decide) (Nat.le_of_ble_eq_true rfl) rfl (c_X8_refusesAttack _ (e0 ▸ hB) (e0 ▸ hU) hu hx) (fun r1 g1 ⟨q1, q2⟩ => ?_)
  subst q1; subst q2
  rw [e0]
  refine ZW.istore_n dX8_attack_11 (by decide) rfl ?_
  refine ZW.iload_n dX8_attack_12 rfl ?_
  refine ZW.if_eq (tgt := 18) dX8_attack_13 (by decide) (by first | omega | exact zB_R _) (fun c13 => ?_) (fun c13 => ?_)
  · have h3 := refAF_0 c13
    have hu2 := isUnitB_t hB h3.1
    have hx2 := isHexB_t h3.2.1
    refine ZW.aload_n dX8_attack_18 rfl ?_
    refine ZW.callVv (as := []) dX8_attack_19 cv_X8_127 ⟨_, rfl⟩ rfl (by decide) (Nat.le_of_ble_eq_true rfl) rfl (fun _ _ hz _ => hz) (c_X8_records _ (by rw [s0.2.1.2]; exact hI.2.1)) (fun g3 q3 => ?_)
    have d3 := s0.done (recP.done q3)
    rw [e0] at d3
    have e3 := d3.2.2
    refine ZW.aload_n dX8_attack_22 rfl ?_
    refine ZW.iload_n dX8_attack_23 rfl ?_
    refine ZW.iload_n dX8_attack_24 rfl ?_
    refine ZW.callV (as := [_, _]) dX8_attack_25 cv_X8_160 ⟨_, rfl⟩ rfl (by decide) (Nat.le_of_ble_eq_true rfl) rfl (c_X8_fights _ (e3 ▸ hB) (e3 ▸ hU) ⟨hu2.1, hu2.2.2.1⟩ hx2 (by rw [e3]; exact h3.2.2.2.2)) (fun r1 g5 ⟨q1, f5⟩ => ?_)
    subst q1
    rw [e3] at f5 ⊢
    refine ZW.ireti dX8_attack_28 rfl ?_
    have hV : attV (g 101) u x = fightsR (g 101) u x := by unfold attV; rw [if_pos c13]
    have hpos : 0 ≤ fightsR (g 101) u x := by
      obtain ⟨t1, t2, t3, t4, _, _, _, t8, _⟩ := canF_t hB h3.2.2.2.2
      unfold fightsR
      split
      · next hlt => exact (weakF_R hB ⟨t2, t4⟩ (by omega)).1
      · omega
    exact actP.yes hV.symm (by omega) (d3.row f5 (by decide))
  · refine ZW.iload_n dX8_attack_16 rfl ?_
    refine ZW.ireti dX8_attack_17 rfl ?_
    exact actP.neg (by unfold attV; rw [if_neg c13]) (by omega) s0
noncomputable def endV (r : Int → Int) : Int := if r 191 = 999 then -3 else endsR r
theorem goneF_R (r : Int → Int) (n : Nat) (i : Int) : 0 ≤ goneF r n i ∧ goneF r n i ≤ n := by
  have h1 := cntF_R (p := fun u => zB (ownB r u && decide (e1F r u = 0))) (b := 1) (by decide) (n := n) (i := i) (fun j _ _ => by have := zB_1 (ownB r j && decide (e1F r j = 0)); show 0 ≤ zB _ ∧ zB _ ≤ 1; omega)
  unfold goneF
  omega
theorem c_X8_endTurn (g : ZH) (hI : rI g) : ZC 8 mX8_endTurn [.inr 100] g (fun r g' => actP g g' (endV (g 101)) (endsF (g 101)) r) := by
  obtain ⟨hB, hU⟩ := rows hI
  have h191 := hB.1 191 (by decide) (by decide)
  refine ZC.of (by decide +kernel) (Nat.le_of_ble_eq_true rfl) ?_
  have s0 := rSame.t0 g
  refine ZW.aload_n dX8_endTurn_0 rfl ?_
  refine ZW.iconst dX8_endTurn_1 ?_
  refine ZW.puti (fz := 0) dX8_endTurn_2 fp_X8_44 ⟨_, rfl, rfl⟩ rfl ?_
  obtain ⟨g0, hg0⟩ : ∃ z, z = zSet g 100 0 0 := ⟨_, rfl⟩
  rw [← hg0] at s0 ⊢
  have e0 : g0 101 = g 101 := s0.2.2
  refine ZW.aload_n dX8_endTurn_5 rfl ?_
  refine ZW.getR dX8_endTurn_6 fl_X8_7 ⟨_, rfl, rfl⟩ ?_
  refine ZW.sipush dX8_endTurn_9 rfl ?_
  refine ZW.iald dX8_endTurn_12 rfl (by decide) (by omega) rfl ?_
  rw [e0]
  refine ZW.sipush dX8_endTurn_13 rfl ?_
  refine ZW.icmp_ne (tgt := 22) dX8_endTurn_16 (by decide) (by first | omega | exact zB_R _) (by first | omega | exact zB_R _) (fun c16 => ?_) (fun c16 => ?_)
  · refine ZW.aload_n dX8_endTurn_22 rfl ?_
    refine ZW.callVv (as := []) dX8_endTurn_23 cv_X8_127 ⟨_, rfl⟩ rfl (by decide) (Nat.le_of_ble_eq_true rfl) rfl (fun _ _ hz _ => hz) (c_X8_records _ (by rw [s0.2.1.2]; exact hI.2.1)) (fun g3 q3 => ?_)
    have d3 := s0.done (recP.done q3)
    rw [e0] at d3
    have e3 := d3.2.2
    refine ZW.aload_n dX8_endTurn_26 rfl ?_
    refine ZW.callV (as := []) dX8_endTurn_27 cv_X8_163 ⟨_, rfl⟩ rfl (by decide) (Nat.le_of_ble_eq_true rfl) rfl (c_X8_ends _ (e3 ▸ hB) (e3 ▸ hU)) (fun r1 g5 ⟨q1, f5⟩ => ?_)
    subst q1
    rw [e3] at f5 ⊢
    refine ZW.ireti dX8_endTurn_30 rfl ?_
    have hV : endV (g 101) = endsR (g 101) := by unfold endV; rw [if_neg c16]
    have hR := goneF_R (g 101) (g 101 192).toNat 0
    exact actP.yes hV.symm (by rw [hV]; exact hR.1) (d3.row f5 (by decide))
  · refine ZW.bipush dX8_endTurn_19 rfl ?_
    refine ZW.ireti dX8_endTurn_21 rfl ?_
    exact actP.neg (by unfold endV; rw [if_pos c16]) (by decide) s0
