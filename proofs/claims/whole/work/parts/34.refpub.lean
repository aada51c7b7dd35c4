-- the reference's public calls
def rA (g g' : ZH) : Prop := (∀ k, k < 100 → g' k = g k) ∧ g' 104 = g 104 ∧ g' 105 = g 105 ∧ g' 100 6 = g 100 6 ∧ g' 100 8 = g 100 8
def rH (g g' : ZH) : Prop := g' 103 = g 103 ∧ g' 100 4 = g 100 4
def rR (g g' : ZH) : Prop := g' 100 4 = (if g 100 4 = 4 then 4 else g 100 4 + 1) ∧ (∀ i, 0 ≤ i → i < 289 → hN g' 0 i = g 101 i) ∧ ∀ k, 0 ≤ k → k + 1 < g' 100 4 → ∀ i, 0 ≤ i → i < 289 → hN g' (k + 1) i = hN g k i
/-- nothing that a later call shows has changed -/
def rSame (g g' : ZH) : Prop := rA g g' ∧ rH g g' ∧ g' 101 = g 101
/-- the state was recorded, and is F now -/
def rDone (g g' : ZH) (F : Int → Int) : Prop := rA g g' ∧ rR g g' ∧ g' 101 = F
theorem rA.rf (g : ZH) : rA g g := ⟨fun _ _ => rfl, rfl, rfl, rfl, rfl⟩
theorem rA.tr {g g1 g2 : ZH} (h : rA g g1) (h2 : rA g1 g2) : rA g g2 := ⟨fun k hk => (h2.1 k hk).trans (h.1 k hk), h2.2.1.trans h.2.1, h2.2.2.1.trans h.2.2.1, h2.2.2.2.1.trans h.2.2.2.1, h2.2.2.2.2.trans h.2.2.2.2⟩
theorem rSame.rf (g : ZH) : rSame g g := ⟨rA.rf g, ⟨rfl, rfl⟩, rfl⟩
theorem rSame.tr {g g1 g2 : ZH} (h : rSame g g1) (h2 : rSame g1 g2) : rSame g g2 := ⟨h.1.tr h2.1, ⟨h2.2.1.1.trans h.2.1.1, h2.2.1.2.trans h.2.1.2⟩, h2.2.2.trans h.2.2⟩
theorem hN_same {g g1 : ZH} (h : rH g g1) (k i : Int) : hN g1 k i = hN g k i := by unfold hN; rw [h.1, h.2]
theorem rSame.done {g g1 g2 : ZH} {F : Int → Int} (h : rSame g g1) (h2 : rDone g1 g2 F) : rDone g g2 F := by
  refine ⟨h.1.tr h2.1, ⟨by rw [← h.2.1.2]; exact h2.2.1.1, fun i i0 i1 => by rw [← h.2.2]; exact h2.2.1.2.1 i i0 i1, fun k k0 k1 i i0 i1 => ?_⟩, h2.2.2⟩
  rw [← hN_same h.2.1]
  exact h2.2.1.2.2 k k0 k1 i i0 i1
theorem rDone.then {g g1 g2 : ZH} {F F2 : Int → Int} (h : rDone g g1 F) (hA : rA g1 g2) (hH : rH g1 g2) (h2 : g2 101 = F2) : rDone g g2 F2 := by
  refine ⟨h.1.tr hA, ⟨by rw [hH.2]; exact h.2.1.1, fun i i0 i1 => by rw [hN_same hH]; exact h.2.1.2.1 i i0 i1, fun k k0 k1 i i0 i1 => ?_⟩, h2⟩
  rw [hH.2] at k1
  rw [hN_same hH]
  exact h.2.1.2.2 k k0 k1 i i0 i1
theorem rSame.fr {ks : List Nat} {g g1 : ZH} (h : zFr ks g g1) (hks : ∀ k ∈ ks, k = 102 ∨ 106 ≤ k) : rSame g g1 := by
  have n : ∀ k, ¬ (k = 102 ∨ 106 ≤ k) → g1 k = g k := fun k hk => h k (fun q => hk (hks k q))
  exact ⟨⟨fun k hk => n k (by omega), n 104 (by decide), n 105 (by decide), by rw [n 100 (by decide)], by rw [n 100 (by decide)]⟩, ⟨n 103 (by decide), by rw [n 100 (by decide)]⟩, n 101 (by decide)⟩
theorem rSame.f0 (g : ZH) {i : Int} (v : Int) (h4 : (4 : Int) ≠ i) (h6 : (6 : Int) ≠ i) (h8 : (8 : Int) ≠ i) : rSame g (zSet g 100 i v) :=
  ⟨⟨fun k hk => zSet_ne _ _ _ (by omega), zSet_ne _ _ _ (by decide), zSet_ne _ _ _ (by decide), by rw [zSet_same, zUp_ne _ _ h6], by rw [zSet_same, zUp_ne _ _ h8]⟩, ⟨zSet_ne _ _ _ (by decide), by rw [zSet_same, zUp_ne _ _ h4]⟩, zSet_ne _ _ _ (by decide)⟩
theorem rSame.t0 (g : ZH) : rSame g (zSet g 100 0 0) := rSame.f0 g 0 (by decide) (by decide) (by decide)
theorem recP.done {g g1 : ZH} (h : recP g g1) : rDone g g1 (g 101) := by
  obtain ⟨h1, h2, h3, h4, h5⟩ := h
  exact ⟨⟨fun k hk => h1 k (by simp; omega), h1 104 (by decide), h1 105 (by decide), h2 6 (by decide), h2 8 (by decide)⟩, ⟨h3, h4, h5⟩, h1 101 (by decide)⟩
/-- behind a row that is laid, and what is scratch -/
theorem rDone.row {ks : List Nat} {g g1 g2 : ZH} {F F2 : Int → Int} (h : rDone g g1 F) (hf : zFr ks (zRow g1 101 F2) g2) (hks : ∀ k ∈ ks, k = 102 ∨ 106 ≤ k) : rDone g g2 F2 := by
  have h1 := rSame.fr hf hks
  refine h.then ?_ ?_ (by rw [h1.2.2, zRow_same])
  · refine rA.tr ⟨fun k hk => zRow_ne _ _ (by omega), zRow_ne _ _ (by decide), zRow_ne _ _ (by decide), by rw [zRow_ne _ _ (by decide)], by rw [zRow_ne _ _ (by decide)]⟩ h1.1
  · exact ⟨h1.2.1.1.trans (zRow_ne _ _ (by decide)), h1.2.1.2.trans (by rw [zRow_ne _ _ (by decide)])⟩
theorem PS.same (g : ZH) (k : Int) (a : Int → Int) (p : Int) (w : Bool) : rSame g (PS g k a p w) := by
  refine ⟨⟨fun j hj => PS_ne _ _ _ _ _ (by omega) (by omega), PS_ne _ _ _ _ _ (by decide) (by decide), PS_ne _ _ _ _ _ (by decide) (by decide), by simp [PS], by simp [PS]⟩, ⟨PS_ne _ _ _ _ _ (by decide) (by decide), by simp [PS]⟩, PS_ne _ _ _ _ _ (by decide) (by decide)⟩
/-- what the reference has of itself between two calls -/
def rI (g : ZH) : Prop := okA (g 101) ∧ (0 ≤ g 100 4 ∧ g 100 4 ≤ 4) ∧ txP (g 105) (g 100 8) ∧ (g 100 6 = 0 ∨ g 100 6 = 1)
theorem rI.t0 {g : ZH} (h : rI g) : rI (zSet g 100 0 0) := by
  have h1 := rSame.t0 g
  unfold rI
  rw [h1.2.2, h1.2.1.2, h1.1.2.2.1, h1.1.2.2.2.2, h1.1.2.2.2.1]
  exact h
theorem dnL {g g1 : ZH} {F : Int → Int} {w : Int → Int} {k : Nat} (hf : g1 = zRow g k w) : zFr [] (zRow g k w) g1 := by rw [hf]; exact zFr.rf _ _
noncomputable def perfF (g : ZH) : Int := if resF (g 105) (g 100 8) 61 0 = -5 then (if runC (g 101) (ordL (g 105) (g 100 8) 61 0) = 0 then ((ordL (g 105) (g 100 8) 61 0).length : Int) else runC (g 101) (ordL (g 105) (g 100 8) 61 0)) else -100 - resF (g 105) (g 100 8) 61 0
def perfOk (g : ZH) : Prop := resF (g 105) (g 100 8) 61 0 = -5 ∧ runC (g 101) (ordL (g 105) (g 100 8) 61 0) = 0
theorem runC_c (r : Int → Int) (o : ZO) (l : List ZO) : runC r (o :: l) = if doR r o = 0 then runC (doS r o) l else doR r o := rfl
set_option maxHeartbeats 1000000 in
theorem c_X8_perform (g : ZH) (hI : rI g) : ZC 10 mX8_perform [.inr 100] g (fun r g' => r = perfF g ∧ (¬ perfOk g → rSame g g') ∧ (perfOk g → rDone g g' (runS (g 101) (ordL (g 105) (g 100 8) 61 0)))) := by
  refine ZC.of (by decide +kernel) (Nat.le_of_ble_eq_true rfl) ?_
  have s0 := rSame.t0 g
  have hI0 := hI.t0
  refine ZW.aload_n dX8_perform_0 rfl ?_
  refine ZW.iconst dX8_perform_1 ?_
  refine ZW.puti (fz := 0) dX8_perform_2 fp_X8_44 ⟨_, rfl, rfl⟩ rfl ?_
  refine ZW.aload_n dX8_perform_5 rfl ?_
  obtain ⟨g0, hg0⟩ : ∃ z, z = zSet g 100 0 0 := ⟨_, rfl⟩
  rw [← hg0] at s0 hI0 ⊢
  refine ZW.callV (as := []) dX8_perform_6 cv_X8_188 ⟨_, rfl⟩ rfl (by decide) (Nat.le_of_ble_eq_true rfl) rfl (c_X8_reads g0 hI0.2.2.1) (fun r1 g1 ⟨q1, q2, q3, k, a, p, w, q4, q5⟩ => ?_)
  have s1 := s0.tr (PS.same g0 k a p w)
  rw [← q4] at s1
  rw [s0.1.2.2.1, s0.1.2.2.2.2] at q1 q5
  refine ZW.istore_n dX8_perform_9 (by decide) rfl ?_
  refine ZW.iload_n dX8_perform_10 rfl ?_
  refine ZW.bipush dX8_perform_11 rfl ?_
  refine ZW.icmp_eq (tgt := 21) dX8_perform_13 (by decide) (by first | omega | exact zB_R _) (by first | omega | exact zB_R _) (fun c13 => ?_) (fun c13 => ?_)
  · refine ZW.aload_n dX8_perform_21 rfl ?_
    obtain ⟨l, hl, hlen, hk31, hrow⟩ := q5 c13
    have hlz : ∀ o ∈ l, zoP o := by rw [hl]; exact ordL_R
    have e1 : g1 101 = g 101 := s1.2.2
    refine ZW.callVv (as := []) dX8_perform_22 cv_X8_191 ⟨_, rfl⟩ rfl (by decide) (Nat.le_of_ble_eq_true rfl) rfl (fun _ _ hz _ => hz) (c_X8_putAside g1) (fun g2 ⟨f2, a2⟩ => ?_)
    have s2 := s1.tr (rSame.fr f2 (by decide))
    have e2 : g2 101 = g 101 := s2.2.2
    have b2 : g2 111 = a := by rw [f2 111 (by decide), q4, PS_111]
    have k2 : g2 100 17 = k := by rw [f2 100 (by decide), q4, PS_17]
    have h102 : ∀ i, 0 ≤ i → i < 289 → g2 102 i = g 101 i := fun i i0 i1 => by rw [a2 i i0 i1, e1]
    -- the second time: all is done
    have second : ∀ (n : Nat) (j : Nat) (r : Int → Int) (g3 : ZH), j + n = l.length → okA r → rDone g g3 r → g3 111 = a → g3 100 17 = k → runS r (l.drop j) = runS (g 101) l → ∀ (o1 o2 : Option ZV), ZW 10 mX8_perform 69 [some (.inr 100), o1, o2, some (.inl (j : Int))] [] g3 (fun r g' => r = (l.length : Int) ∧ rDone g g' (runS (g 101) l)) := by
      intro n
      induction n with
      | zero =>
        intro j r g3 hj hr hd h111 h17 hrun o1 o2
        have e3 : g3 101 = r := hd.2.2
        refine ZW.iload_n dX8_perform_69 rfl ?_
        refine ZW.aload_n dX8_perform_70 rfl ?_
        refine ZW.getI (fz := 17) dX8_perform_71 fl_X8_182 ⟨_, rfl, rfl⟩ rfl rfl ?_
        rw [h17]
        refine ZW.icmp_ge (tgt := 89) dX8_perform_74 (by decide) (by first | omega | exact zB_R _) (by first | omega | exact zB_R _) (fun c74 => ?_) (fun c74 => ?_)
        · refine ZW.aload_n dX8_perform_89 rfl ?_
          refine ZW.getI (fz := 17) dX8_perform_90 fl_X8_182 ⟨_, rfl, rfl⟩ rfl rfl ?_
          refine ZW.ireti dX8_perform_93 rfl ?_
          refine ⟨by rw [h17]; omega, ?_⟩
          have hjl : l.drop j = [] := List.drop_eq_nil_of_le (by omega)
          rw [hjl] at hrun
          rw [← hrun]
          exact hd
        · exact absurd c74 (by omega)
      | succ n ih =>
        intro j r g3 hj hr hd h111 h17 hrun o1 o2
        have e3 : g3 101 = r := hd.2.2
        obtain ⟨o, ho⟩ : ∃ o, l[j]? = some o := ⟨l[j]'(by omega), List.getElem?_eq_getElem (by omega)⟩
        have hoz := hlz o (List.mem_of_getElem? ho)
        have hro := hrow j o ho
        have hdr : l.drop j = o :: l.drop (j + 1) := by
          rw [List.drop_eq_getElem_cons (by omega)]
          congr 1
          rw [List.getElem?_eq_getElem (by omega)] at ho
          exact Option.some.inj ho
        rw [hdr] at hrun
        refine ZW.iload_n dX8_perform_69 rfl ?_
        refine ZW.aload_n dX8_perform_70 rfl ?_
        refine ZW.getI (fz := 17) dX8_perform_71 fl_X8_182 ⟨_, rfl, rfl⟩ rfl rfl ?_
        rw [h17]
        refine ZW.icmp_ge (tgt := 89) dX8_perform_74 (by decide) (by first | omega | exact zB_R _) (by first | omega | exact zB_R _) (fun c74 => ?_) (fun c74 => ?_)
        · exact absurd c74 (by omega)
        · refine ZW.aload_n dX8_perform_77 rfl ?_
          refine ZW.iload_n dX8_perform_78 rfl ?_
          refine ZW.callV (as := [_]) dX8_perform_79 cv_X8_194 ⟨_, rfl⟩ rfl (by decide) (Nat.le_of_ble_eq_true rfl) rfl (c_X8_does g3 (by rw [e3]; exact hr.1) ⟨by omega, by omega⟩ hoz (by rw [h111]; exact hro.1) (by rw [h111]; exact hro.2.1) (by rw [h111]; exact hro.2.2)) (fun r4 g4 ⟨q6, f4⟩ => ?_)
          rw [e3] at f4
          refine ZW.pop dX8_perform_82 ?_
          refine ZW.iinc dX8_perform_83 rfl (by decide) rfl ?_
          refine ZW.goto (tgt := 69) dX8_perform_86 (by decide) ?_
          have h1 := ih (j + 1) (doS r o) g4 (by omega) (okA_do hr hoz) (hd.row f4 (by decide)) (by rw [f4 111 (by decide), zRow_ne _ _ (by decide)]; exact h111) (by rw [f4 100 (by decide), zRow_ne _ _ (by decide)]; exact h17) hrun o1 o2
          rw [show ((j + 1 : Nat) : Int) = (j : Int) + 1 by omega] at h1
          exact h1
    -- behind the first time
    have back : ∀ (c : Int) (r : Int → Int) (g3 : ZH) (o3 : Option ZV), zR c → rSame g (zRow g3 101 (g 101)) → g3 101 = r → outF (g 101) r → g3 102 = g2 102 → g3 111 = a → g3 100 17 = k → c = runC (g 101) l → ZW 10 mX8_perform 53 [some (.inr 100), some (.inl r1), some (.inl c), o3] [] g3 (fun r g' => r = perfF g ∧ (¬ perfOk g → rSame g g') ∧ (perfOk g → rDone g g' (runS (g 101) (ordL (g 105) (g 100 8) 61 0)))) := by
      intro c r g3 o3 hcR hs hr hout h102' h111 h17 hc
      refine ZW.aload_n dX8_perform_53 rfl ?_
      refine ZW.callVv (as := []) dX8_perform_54 cv_X8_197 ⟨_, rfl⟩ rfl (by decide) (Nat.le_of_ble_eq_true rfl) rfl (fun _ _ hz _ => hz) (c_X8_takeBack g3) (fun g4 q6 => ?_)
      have hback : zPart (g3 102) (g3 101) 289 = g 101 := by
        funext i
        unfold zPart
        by_cases q : 0 ≤ i ∧ i < 289
        · rw [if_pos q, h102']; exact h102 i q.1 q.2
        · rw [if_neg q, hr]; exact hout i (by omega)
      rw [hback] at q6
      rw [← q6] at hs
      refine ZW.iload_n dX8_perform_57 rfl ?_
      refine ZW.if_eq (tgt := 63) dX8_perform_58 (by decide) (by first | omega | exact zB_R _) (fun c58 => ?_) (fun c58 => ?_)
      · refine ZW.aload_n dX8_perform_63 rfl ?_
        have hok : perfOk g := ⟨by rw [← q1]; exact c13, by rw [← hl, ← hc]; exact c58⟩
        refine ZW.callVv (as := []) dX8_perform_64 cv_X8_127 ⟨_, rfl⟩ rfl (by decide) (Nat.le_of_ble_eq_true rfl) rfl (fun _ _ hz _ => hz) (c_X8_records g4 (by rw [hs.2.1.2]; exact hI.2.1)) (fun g5 q7 => ?_)
        have hd5 := hs.done (recP.done q7)
        rw [hs.2.2] at hd5
        refine ZW.iconst dX8_perform_67 ?_
        refine ZW.istore_n dX8_perform_68 (by decide) rfl ?_
        refine ZW.mono (second l.length 0 (g 101) g5 (by omega) hI.1 hd5 (by rw [q7.1 111 (by decide), q6, zRow_ne _ _ (by decide)]; exact h111) (by rw [q7.2.1 17 (by decide), q6, zRow_ne _ _ (by decide)]; exact h17) rfl _ _) (fun r g' hh => ⟨?_, fun q => absurd hok q, fun _ => ?_⟩)
        · rw [hh.1]
          unfold perfF
          rw [if_pos hok.1, if_pos hok.2, ← hl]
        · rw [← hl]; exact hh.2
      · refine ZW.iload_n dX8_perform_61 rfl ?_
        refine ZW.ireti dX8_perform_62 rfl ?_
        have hno : ¬ perfOk g := fun q => c58 (by rw [hc, hl]; exact q.2)
        refine ⟨?_, fun _ => hs, fun q => absurd q hno⟩
        unfold perfF
        rw [if_pos (by rw [← q1]; exact c13), if_neg (by rw [← hl, ← hc]; exact c58), ← hl, ← hc]
    -- the first time
    have first : ∀ (n : Nat) (j : Nat) (r : Int → Int) (g3 : ZH), j + n = l.length → okA r → outF (g 101) r → rSame g (zRow g3 101 (g 101)) → g3 101 = r → g3 102 = g2 102 → g3 111 = a → g3 100 17 = k → runC r (l.drop j) = runC (g 101) l → ZW 10 mX8_perform 29 [some (.inr 100), some (.inl r1), some (.inl 0), some (.inl (j : Int))] [] g3 (fun r g' => r = perfF g ∧ (¬ perfOk g → rSame g g') ∧ (perfOk g → rDone g g' (runS (g 101) (ordL (g 105) (g 100 8) 61 0)))) := by
      intro n
      induction n with
      | zero =>
        intro j r g3 hj hr hout hs he h102' h111 h17 hrun
        refine ZW.iload_n dX8_perform_29 rfl ?_
        refine ZW.aload_n dX8_perform_30 rfl ?_
        refine ZW.getI (fz := 17) dX8_perform_31 fl_X8_182 ⟨_, rfl, rfl⟩ rfl rfl ?_
        rw [h17]
        refine ZW.icmp_ge (tgt := 53) dX8_perform_34 (by decide) (by first | omega | exact zB_R _) (by first | omega | exact zB_R _) (fun c34 => ?_) (fun c34 => ?_)
        · have hjl : l.drop j = [] := List.drop_eq_nil_of_le (by omega)
          rw [hjl] at hrun
          exact back 0 r g3 _ (by decide) hs he hout h102' h111 h17 hrun
        · exact absurd c34 (by omega)
      | succ n ih =>
        intro j r g3 hj hr hout hs he h102' h111 h17 hrun
        obtain ⟨o, ho⟩ : ∃ o, l[j]? = some o := ⟨l[j]'(by omega), List.getElem?_eq_getElem (by omega)⟩
        have hoz := hlz o (List.mem_of_getElem? ho)
        have hro := hrow j o ho
        have hdr : l.drop j = o :: l.drop (j + 1) := by
          rw [List.drop_eq_getElem_cons (by omega)]
          congr 1
          rw [List.getElem?_eq_getElem (by omega)] at ho
          exact Option.some.inj ho
        rw [hdr] at hrun
        have hrawR := rawF_R r o
        refine ZW.iload_n dX8_perform_29 rfl ?_
        refine ZW.aload_n dX8_perform_30 rfl ?_
        refine ZW.getI (fz := 17) dX8_perform_31 fl_X8_182 ⟨_, rfl, rfl⟩ rfl rfl ?_
        rw [h17]
        refine ZW.icmp_ge (tgt := 53) dX8_perform_34 (by decide) (by first | omega | exact zB_R _) (by first | omega | exact zB_R _) (fun c34 => ?_) (fun c34 => ?_)
        · exact absurd c34 (by omega)
        · refine ZW.iload_n dX8_perform_37 rfl ?_
          refine ZW.if_ne (tgt := 53) dX8_perform_38 (by decide) (by first | omega | exact zB_R _) (fun c38 => ?_) (fun c38 => ?_)
          · exact absurd rfl c38
          · refine ZW.aload_n dX8_perform_41 rfl ?_
            refine ZW.iload_n dX8_perform_42 rfl ?_
            refine ZW.callV (as := [_]) dX8_perform_43 cv_X8_194 ⟨_, rfl⟩ rfl (by decide) (Nat.le_of_ble_eq_true rfl) rfl (c_X8_does g3 (by rw [he]; exact hr.1) ⟨by omega, by omega⟩ hoz (by rw [h111]; exact hro.1) (by rw [h111]; exact hro.2.1) (by rw [h111]; exact hro.2.2)) (fun r4 g4 ⟨q6, f4⟩ => ?_)
            rw [he] at f4 q6
            subst q6
            have hs4 : rSame g (zRow g4 101 (g 101)) := by
              have h1 := rSame.fr (f4.lay (g 101)) (by decide)
              exact hs.tr h1
            have h102'' : g4 102 = g2 102 := by rw [f4 102 (by decide), zRow_ne _ _ (by decide)]; exact h102'
            have h111'' : g4 111 = a := by rw [f4 111 (by decide), zRow_ne _ _ (by decide)]; exact h111
            have h17'' : g4 100 17 = k := by rw [f4 100 (by decide), zRow_ne _ _ (by decide)]; exact h17
            have he4 : g4 101 = doS r o := by rw [f4 101 (by decide), zRow_same]
            have hdR : zR (doR r o) := by unfold doR; split <;> exact ⟨by omega, by omega⟩
            by_cases hz : doR r o = 0
            · rw [runC_c, if_pos hz] at hrun
              rw [hz]
              refine ZW.istore_n dX8_perform_46 (by decide) rfl ?_
              refine ZW.iinc dX8_perform_47 rfl (by decide) rfl ?_
              refine ZW.goto (tgt := 29) dX8_perform_50 (by decide) ?_
              have h1 := ih (j + 1) (doS r o) g4 (by omega) (okA_do hr hoz) (outF_do hout hr hoz) hs4 he4 h102'' h111'' h17'' hrun
              rw [show ((j + 1 : Nat) : Int) = (j : Int) + 1 by omega] at h1
              exact h1
            · rw [runC_c, if_neg hz] at hrun
              refine ZW.istore_n dX8_perform_46 (by decide) rfl ?_
              refine ZW.iinc dX8_perform_47 rfl (by decide) rfl ?_
              refine ZW.goto (tgt := 29) dX8_perform_50 (by decide) ?_
              refine ZW.iload_n dX8_perform_29 rfl ?_
              refine ZW.aload_n dX8_perform_30 rfl ?_
              refine ZW.getI (fz := 17) dX8_perform_31 fl_X8_182 ⟨_, rfl, rfl⟩ rfl rfl ?_
              rw [h17'']
              refine ZW.icmp_ge (tgt := 53) dX8_perform_34 (by decide) (by first | omega | exact zB_R _) (by first | omega | exact zB_R _) (fun c34 => ?_) (fun c34 => ?_)
              · exact back (doR r o) (doS r o) g4 _ hdR hs4 he4 (outF_do hout hr hoz) h102'' h111'' h17'' hrun
              · refine ZW.iload_n dX8_perform_37 rfl ?_
                refine ZW.if_ne (tgt := 53) dX8_perform_38 (by decide) (by first | omega | exact zB_R _) (fun c38 => ?_) (fun c38 => ?_)
                · exact back (doR r o) (doS r o) g4 _ hdR hs4 he4 (outF_do hout hr hoz) h102'' h111'' h17'' hrun
                · exact absurd c38 hz
    refine ZW.iconst dX8_perform_25 ?_
    refine ZW.istore_n dX8_perform_26 (by decide) rfl ?_
    refine ZW.iconst dX8_perform_27 ?_
    refine ZW.istore_n dX8_perform_28 (by decide) rfl ?_
    have hs2 : rSame g (zRow g2 101 (g 101)) := by
      rw [← e2, zRow_self]; exact s2
    exact first l.length 0 (g 101) g2 (by omega) hI.1 (outF_rf _) hs2 e2 rfl b2 k2 rfl
  · refine ZW.bipush dX8_perform_16 rfl ?_
    refine ZW.iload_n dX8_perform_18 rfl ?_
    refine ZW.isub dX8_perform_19 ?_
    refine ZW.ireti dX8_perform_20 rfl ?_
    have hno : ¬ perfOk g := fun q => c13 (by rw [q1]; exact q.1)
    refine ⟨?_, fun _ => s1, fun q => absurd q hno⟩
    unfold perfF
    rw [if_neg (by rw [← q1]; exact c13), ← q1]
