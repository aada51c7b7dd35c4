-- the reference's costs are those of wayF
theorem cntF_up {e : Int → Int} {x : Int} (he : e x = 0) : ∀ {n : Nat} {i : Int}, i ≤ x → x < i + n → cntF (zUp e x 1) n i = cntF e n i + 1
  | 0, _, _, _ => by omega
  | n + 1, i, h0, h1 => by
    unfold cntF
    by_cases hi : i = x
    · subst hi
      rw [zUp_same, he, cntF_cong (p := zUp e i 1) (q := e) (fun j h2 h3 => zUp_ne _ _ (by omega))]
      omega
    · rw [zUp_ne _ _ hi, cntF_up he (by omega) (by omega)]
      omega
theorem zUp_id {f : Int → Int} {i v : Int} (h : f i = v) : zUp f i v = f := by
  funext x
  unfold zUp
  split
  · next hx => rw [hx, h]
  · rfl
def djA (r : Int → Int) (u : Int) (f e : Int → Int) (k : Int) : Prop :=
  (∀ x, 0 ≤ x → x < 63 → e x = 0 ∨ e x = 1) ∧ cntF e 63 0 = k ∧ f (ofF r u 2) = 0 ∧ (∀ x, 0 ≤ x → x < 63 → f x = 1000 ∨ (0 ≤ f x ∧ f x ≤ 3 * k)) ∧ (∀ y, 0 ≤ y → y < 63 → y ≠ ofF r u 2 → f y ≠ 1000 → ∃ x d, edgeP r u x d y ∧ e x = 1 ∧ f y = f x + stepC r x d y)
/-- ahead of a choice -/
def djI (r : Int → Int) (u : Int) (f e : Int → Int) (k : Int) : Prop :=
  djA r u f e k ∧ (∀ x d y, edgeP r u x d y → e x = 1 → f y ≤ f x + stepC r x d y) ∧ (∀ x y, 0 ≤ x → x < 63 → 0 ≤ y → y < 63 → e x = 1 → e y = 0 → f x ≤ f y) ∧ (∀ x, 0 ≤ x → x < 63 → e x = 1 → f x < 1000)
/-- while the steps from h on are laid, those below d are -/
def djJ (r : Int → Int) (u : Int) (f e : Int → Int) (k h d : Int) : Prop :=
  djA r u f e k ∧ k ≤ 63 ∧ e h = 1 ∧ 0 ≤ f h ∧ f h ≤ 3 * (k - 1) ∧ (∀ x, 0 ≤ x → x < 63 → e x = 1 → f x ≤ f h) ∧ (∀ y, 0 ≤ y → y < 63 → e y = 0 → f h ≤ f y) ∧ (∀ x d' y, edgeP r u x d' y → e x = 1 → (x ≠ h ∨ d' < d) → f y ≤ f x + stepC r x d' y)
theorem djJ_end {r : Int → Int} {u : Int} {f e : Int → Int} {k h d : Int} (hj : djJ r u f e k h d) (hd : ∀ d' y, edgeP r u h d' y → d' < d) : djI r u f e k := by
  obtain ⟨hA, hk, h1, h2, h3, h4, h5, h6⟩ := hj
  refine ⟨hA, fun x d' y he hx => h6 x d' y he hx ?_, fun x y x0 x1 y0 y1 hx hy => Int.le_trans (h4 x x0 x1 hx) (h5 y y0 y1 hy), fun x x0 x1 hx => ?_⟩
  · by_cases q : x = h
    · subst q; exact Or.inr (hd d' y he)
    · exact Or.inl q
  · have := h4 x x0 x1 hx
    omega
theorem djI_pick {r : Int → Int} {u : Int} {f e : Int → Int} {k h : Int} (hi : djI r u f e k) (h0 : 0 ≤ h) (h1 : h < 63) (he : e h = 0) (hf : f h < 1000) (hm : ∀ y, 0 ≤ y → y < 63 → e y = 0 → f h ≤ f y) : djJ r u f (zUp e h 1) (k + 1) h 0 := by
  obtain ⟨⟨a1, a2, a3, a4, a5⟩, b1, b2, b3⟩ := hi
  have e1 : ∀ x, zUp e h 1 x = 1 → x = h ∨ e x = 1 := fun x q => by
    by_cases hx : x = h
    · exact Or.inl hx
    · rw [zUp_ne _ _ hx] at q; exact Or.inr q
  have e2 : ∀ x, e x = 1 → zUp e h 1 x = 1 := fun x q => by
    by_cases hx : x = h
    · rw [hx, zUp_same]
    · rw [zUp_ne _ _ hx]; exact q
  have hc := cntF_up he (n := 63) (i := 0) (by omega) (by omega)
  have a1' : ∀ x, 0 ≤ x → x < 63 → zUp e h 1 x = 0 ∨ zUp e h 1 x = 1 := fun x x0 x1 => by
    by_cases hx : x = h
    · rw [hx, zUp_same]; exact Or.inr rfl
    · rw [zUp_ne _ _ hx]; exact a1 x x0 x1
  have hb := cntF_R (p := zUp e h 1) (b := 1) (by decide) (n := 63) (i := 0) (fun j j0 j1 => by have := a1' j j0 (by omega); omega)
  have fh := (a4 h h0 h1).resolve_left (by omega)
  refine ⟨⟨a1', by omega, a3, fun x x0 x1 => ?_, fun y y0 y1 yn yf => ?_⟩, by omega, zUp_same _ _ _, fh.1, by omega, fun x x0 x1 hx => ?_, fun y y0 y1 hy => ?_, fun x d' y hed hx hor => ?_⟩
  · rcases a4 x x0 x1 with q | q
    · exact Or.inl q
    · exact Or.inr ⟨q.1, by omega⟩
  · obtain ⟨x, d, q1, q2, q3⟩ := a5 y y0 y1 yn yf
    exact ⟨x, d, q1, e2 x q2, q3⟩
  · rcases e1 x hx with q | q
    · rw [q]; exact Int.le_refl _
    · exact b2 x h x0 x1 h0 h1 q he
  · by_cases q : y = h
    · rw [q]; exact Int.le_refl _
    · rw [zUp_ne _ _ q] at hy; exact hm y y0 y1 hy
  · rcases e1 x hx with q | q
    · subst q
      have := hed.2.2.1
      omega
    · exact b1 x d' y hed q
theorem djJ_step {r : Int → Int} {u : Int} {f e : Int → Int} {k h d y : Int} (hj : djJ r u f e k h d) (he : edgeP r u h d y) (hd : f h + stepC r h d y < f y) : djJ r u (zUp f y (f h + stepC r h d y)) e k h (d + 1) := by
  obtain ⟨⟨a1, a2, a3, a4, a5⟩, hk, h1, h2, h3, h4, h5, h6⟩ := hj
  have hc := stepC_R r h d y
  have hy := edgeP_y he
  have hh : 0 ≤ h ∧ h < 63 := ⟨he.1, he.2.1⟩
  have hyn : e y = 0 := (a1 y hy.1 hy.2).resolve_right (fun q => by have := h4 y hy.1 hy.2 q; omega)
  have hdone : ∀ x, e x = 1 → x ≠ y := fun x q z => by rw [z, hyn] at q; omega
  have hfr : y ≠ ofF r u 2 := fun q => by
    rw [← q] at a3
    omega
  have hhy : h ≠ y := hdone h h1
  refine ⟨⟨a1, a2, by rw [zUp_ne _ _ (fun q => hfr q.symm)]; exact a3, fun x x0 x1 => ?_, fun z z0 z1 zn zf => ?_⟩, hk, h1, by rw [zUp_ne _ _ hhy]; exact h2, by rw [zUp_ne _ _ hhy]; exact h3, fun x x0 x1 hx => ?_, fun z z0 z1 hz => ?_, fun x d' z hed hx hor => ?_⟩
  · by_cases q : x = y
    · rw [q, zUp_same]; exact Or.inr ⟨by omega, by omega⟩
    · rw [zUp_ne _ _ q]; exact a4 x x0 x1
  · by_cases q : z = y
    · subst q
      exact ⟨h, d, he, h1, by rw [zUp_same, zUp_ne _ _ hhy]⟩
    · rw [zUp_ne _ _ q] at zf ⊢
      obtain ⟨x, d', q1, q2, q3⟩ := a5 z z0 z1 zn zf
      exact ⟨x, d', q1, q2, by rw [zUp_ne _ _ (hdone x q2)]; exact q3⟩
  · rw [zUp_ne _ _ (hdone x hx), zUp_ne _ _ hhy]
    exact h4 x x0 x1 hx
  · rw [zUp_ne _ _ hhy]
    by_cases q : z = y
    · rw [q, zUp_same]; omega
    · rw [zUp_ne _ _ q]; exact h5 z z0 z1 hz
  · rw [zUp_ne _ _ (hdone x hx)]
    by_cases q : z = y
    · rw [q, zUp_same]
      by_cases q2 : x = h ∧ d' = d
      · rw [q2.1, q2.2]; exact Int.le_refl _
      · have := h6 x d' y (q ▸ hed) hx (by omega)
        omega
    · rw [zUp_ne _ _ q]
      refine h6 x d' z hed hx ?_
      by_cases q2 : x = h
      · subst q2
        by_cases q3 : d' = d
        · subst q3
          exact absurd (hed.2.2.2.2.1.symm.trans he.2.2.2.2.1) q
        · omega
      · exact Or.inl q2
theorem djJ_skip {r : Int → Int} {u : Int} {f e : Int → Int} {k h d : Int} (hj : djJ r u f e k h d) (hd : ∀ y, edgeP r u h d y → f y ≤ f h + stepC r h d y) : djJ r u f e k h (d + 1) := by
  obtain ⟨hA, hk, h1, h2, h3, h4, h5, h6⟩ := hj
  refine ⟨hA, hk, h1, h2, h3, h4, h5, fun x d' y hed hx hor => ?_⟩
  by_cases q : x = h ∧ d' = d
  · rw [q.1, q.2]
    exact hd y (by rw [← q.1, ← q.2]; exact hed)
  · exact h6 x d' y hed hx (by omega)
theorem djI_way {r : Int → Int} {u : Int} {f e : Int → Int} {k : Int} (hi : djI r u f e k) (hn : ∀ x, 0 ≤ x → x < 63 → e x = 0 → ¬ f x < 1000) : wayP r u 999 f := by
  obtain ⟨⟨a1, a2, a3, a4, a5⟩, b1, b2, b3⟩ := hi
  have hb := cntF_R (p := e) (b := 1) (by decide) (n := 63) (i := 0) (fun j j0 j1 => by have := a1 j j0 (by omega); omega)
  have fin : ∀ x, 0 ≤ x → x < 63 → f x ≠ 1000 → e x = 1 := fun x x0 x1 hx => (a1 x x0 x1).resolve_left (fun q => by
    have := hn x x0 x1 q
    have := (a4 x x0 x1).resolve_left hx
    omega)
  refine ⟨a3, fun x x0 x1 => ?_, fun x d y he hx hb => b1 x d y he (fin x he.1 he.2.1 hx), fun y y0 y1 yn yf => ?_⟩
  · rcases a4 x x0 x1 with q | q
    · exact Or.inl q
    · exact Or.inr ⟨q.1, by omega⟩
  · obtain ⟨x, d, q1, q2, q3⟩ := a5 y y0 y1 yn yf
    have := b3 x q1.1 q1.2.1 q2
    exact ⟨x, d, q1, by omega, q3⟩
def zWays (g g' : ZH) (r : Int → Int) (u : Int) : Prop := zFr [106, 107, 109] g g' ∧ ∀ x, 0 ≤ x → x < 63 → g' 106 x = wayF r u x
set_option maxHeartbeats 1000000 in
theorem c_X8_laysWays (g : ZH) (hk : okB (g 101)) (hu : okU (g 101)) {u : Int} (hu0 : 0 ≤ u ∧ u < 16) : ZC 5 mX8_laysWays [.inr 100, .inl u] g (fun _ g' => zWays g g' (g 101) u) := by
  have hU := hu u hu0.1 hu0.2
  have hb0 := ofU_R hk hu0 (w := 0) (by omega)
  have hb2 := ofU_R hk hu0 (w := 2) (by omega)
  refine ZC.of (by decide +kernel) (Nat.le_of_ble_eq_true rfl) ?_
  have loopD : ∀ (n : Nat) (d x k : Int) (g1 : ZH) (o6 o7 : Option ZV), 0 ≤ d → d + n = 6 → 0 ≤ x → x < 63 → zFr [106, 107, 109] g g1 → (∀ x, 0 ≤ x → x < 63 → g1 109 x = zB (zoneB (g 101) x (1 - ofF (g 101) u 0))) → djJ (g 101) u (g1 106) (g1 107) k x d → (∀ (g2 : ZH) (o5 o6 o7 : Option ZV), zFr [106, 107, 109] g g2 → (∀ x, 0 ≤ x → x < 63 → g2 109 x = zB (zoneB (g 101) x (1 - ofF (g 101) u 0))) → djI (g 101) u (g2 106) (g2 107) k → ZW 5 mX8_laysWays 192 [some (.inr 100), some (.inl u), some (.inl (1 - ofF (g 101) u 0)), some (.inl (ofF (g 101) u 2)), some (.inl x), o5, o6, o7] [] g2 (fun _ g' => zWays g g' (g 101) u)) → ZW 5 mX8_laysWays 86 [some (.inr 100), some (.inl u), some (.inl (1 - ofF (g 101) u 0)), some (.inl (ofF (g 101) u 2)), some (.inl x), some (.inl d), o6, o7] [] g1 (fun _ g' => zWays g g' (g 101) u) := by
    intro n
    induction n with
    | zero =>
      intro d x k g1 o6 o7 h0 hn hx hx2 hf hz hj kk
      refine ZW.iload dX8_laysWays_86 rfl ?_
      refine ZW.bipush dX8_laysWays_88 rfl ?_
      refine ZW.icmp_ge (tgt := 192) dX8_laysWays_90 (by decide) (by omega) (by omega) (fun c90 => ?_) (fun c90 => ?_)
      · exact kk g1 _ _ _ hf hz (djJ_end hj (fun d' y he => by have := he.2.2.2.1; omega))
      · exact absurd c90 (by omega)
    | succ n ih =>
      intro d x k g1 o6 o7 h0 hn hx hx2 hf hz hj kk
      have e1 : g1 101 = g 101 := hf 101 (by decide)
      refine ZW.iload dX8_laysWays_86 rfl ?_
      refine ZW.bipush dX8_laysWays_88 rfl ?_
      refine ZW.icmp_ge (tgt := 192) dX8_laysWays_90 (by decide) (by omega) (by omega) (fun c90 => ?_) (fun c90 => ?_)
      · exact absurd c90 (by omega)
      · have go : goB (g 101) u x = true → ZW 5 mX8_laysWays 109 [some (.inr 100), some (.inl u), some (.inl (1 - ofF (g 101) u 0)), some (.inl (ofF (g 101) u 2)), some (.inl x), some (.inl d), o6, o7] [] g1 (fun _ g' => zWays g g' (g 101) u) := by
          intro hgo
          refine ZW.iload dX8_laysWays_109 rfl ?_
          refine ZW.iload dX8_laysWays_111 rfl ?_
          refine ZW.callS (as := [_, _]) dX8_laysWays_113 cs_X8_59 rfl (by decide) (Nat.le_of_ble_eq_true rfl) rfl (c_X8_next _ ⟨hx, hx2⟩ (by omega)) (fun r1 g2 ⟨q1, q2⟩ => ?_)
          subst q1; subst q2
          have hnr := nextF_R' x d
          refine ZW.istore dX8_laysWays_116 (by decide) rfl ?_
          refine ZW.iload dX8_laysWays_118 rfl ?_
          refine ZW.bipush dX8_laysWays_120 rfl ?_
          refine ZW.icmp_eq (tgt := 186) dX8_laysWays_122 (by decide) (by omega) (by omega) (fun c122 => ?_) (fun c122 => ?_)
          · refine ZW.iinc dX8_laysWays_186 rfl (by decide) rfl ?_
            refine ZW.goto (tgt := 86) dX8_laysWays_189 (by decide) ?_
            exact ih (d + 1) x k _ _ _ (by omega) (by omega) hx hx2 hf hz (djJ_skip hj (fun y he => absurd (he.2.2.2.2.1.symm.trans c122) (fun q => he.2.2.2.2.2.1 q))) kk
          · have hr := (nextF_R (x := x) (d := d)).resolve_left c122
            refine ZW.aload_n dX8_laysWays_125 rfl ?_
            refine ZW.iload dX8_laysWays_126 rfl ?_
            refine ZW.iload_n dX8_laysWays_128 rfl ?_
            refine ZW.callV (as := [_, _]) dX8_laysWays_129 cv_X8_66 ⟨_, rfl⟩ rfl (by decide) (Nat.le_of_ble_eq_true rfl) rfl (c_X8_isOn _ (e1 ▸ hk) (by omega) (by omega)) (fun r1 g3 ⟨q1, q2⟩ => ?_)
            subst q1; subst q2
            rw [e1]
            refine ZW.if_ne (tgt := 186) dX8_laysWays_132 (by decide) (by exact zB_R _) (fun c132 => ?_) (fun c132 => ?_)
            · have e := zB_ne c132
              refine ZW.iinc dX8_laysWays_186 rfl (by decide) rfl ?_
              refine ZW.goto (tgt := 86) dX8_laysWays_189 (by decide) ?_
              refine ih (d + 1) x k _ _ _ (by omega) (by omega) hx hx2 hf hz (djJ_skip hj (fun y he => ?_)) kk
              have h8 := he.2.2.2.2.2.2.2
              unfold entB at h8
              rw [← he.2.2.2.2.1, e] at h8
              cases h8
            · have e := zB_eq c132
              have hed : edgeP (g 101) u x d (nextF x d) := ⟨hx, hx2, h0, by omega, rfl, c122, hgo, by unfold entB; rw [e]; rfl⟩
              have hfx := hj.1.2.2.2.1 x hx hx2
              have hfo := hj.1.2.2.2.1 (nextF x d) hr.1 hr.2
              have hkk := hj.2.1
              have hc := stepC_R (g 101) x d (nextF x d)
              refine ZW.aload_n dX8_laysWays_135 rfl ?_
              refine ZW.getR dX8_laysWays_136 fl_X8_25 ⟨_, rfl, rfl⟩ ?_
              refine ZW.iload dX8_laysWays_139 rfl ?_
              refine ZW.iald dX8_laysWays_141 rfl (by decide) (by omega) rfl ?_
              refine ZW.aload_n dX8_laysWays_142 rfl ?_
              refine ZW.iload dX8_laysWays_143 rfl ?_
              refine ZW.iload dX8_laysWays_145 rfl ?_
              refine ZW.iload dX8_laysWays_147 rfl ?_
              refine ZW.callV (as := [_, _, _]) dX8_laysWays_149 cv_X8_84 ⟨_, rfl⟩ rfl (by decide) (Nat.le_of_ble_eq_true rfl) rfl (c_X8_entering _ (e1 ▸ hk) ⟨hx, hx2⟩ (by omega) hr) (fun r1 g4 ⟨q1, q2⟩ => ?_)
              subst q1; subst q2
              rw [e1]
              refine ZW.iadd dX8_laysWays_152 ?_
              refine ZW.istore dX8_laysWays_153 (by decide) rfl ?_
              refine ZW.aload_n dX8_laysWays_155 rfl ?_
              refine ZW.getR dX8_laysWays_156 fl_X8_25 ⟨_, rfl, rfl⟩ ?_
              refine ZW.iload dX8_laysWays_159 rfl ?_
              refine ZW.iload dX8_laysWays_161 rfl ?_
              refine ZW.aload_n dX8_laysWays_163 rfl ?_
              refine ZW.getR dX8_laysWays_164 fl_X8_25 ⟨_, rfl, rfl⟩ ?_
              refine ZW.iload dX8_laysWays_167 rfl ?_
              refine ZW.iald dX8_laysWays_169 rfl (by decide) (by omega) rfl ?_
              refine ZW.icmp_ge (tgt := 178) dX8_laysWays_170 (by decide) (by omega) (by omega) (fun c170 => ?_) (fun c170 => ?_)
              · refine ZW.aload_n dX8_laysWays_178 rfl ?_
                refine ZW.getR dX8_laysWays_179 fl_X8_25 ⟨_, rfl, rfl⟩ ?_
                refine ZW.iload dX8_laysWays_182 rfl ?_
                refine ZW.iald dX8_laysWays_184 rfl (by decide) (by omega) rfl ?_
                refine ZW.iast dX8_laysWays_185 rfl (by decide) (by omega) ?_
                refine ZW.iinc dX8_laysWays_186 rfl (by decide) rfl ?_
                refine ZW.goto (tgt := 86) dX8_laysWays_189 (by decide) ?_
                rw [zSet_row, zUp_id rfl, zRow_self]
                refine ih (d + 1) x k _ _ _ (by omega) (by omega) hx hx2 hf hz (djJ_skip hj (fun y he => ?_)) kk
                rw [← he.2.2.2.2.1]
                exact c170
              · refine ZW.iload dX8_laysWays_173 rfl ?_
                refine ZW.goto (tgt := 185) dX8_laysWays_175 (by decide) ?_
                refine ZW.iast dX8_laysWays_185 rfl (by decide) (by omega) ?_
                refine ZW.iinc dX8_laysWays_186 rfl (by decide) rfl ?_
                refine ZW.goto (tgt := 86) dX8_laysWays_189 (by decide) ?_
                refine ih (d + 1) x k _ _ _ (by omega) (by omega) hx hx2 (hf.set (by decide) _ _) (fun z z0 z1 => ?_) ?_ kk
                · rw [zSet_ne _ _ _ (by decide)]
                  exact hz z z0 z1
                · rw [zSet_same, zSet_ne _ _ _ (by decide)]
                  exact djJ_step hj hed c170
        refine ZW.iload dX8_laysWays_93 rfl ?_
        refine ZW.iload_n dX8_laysWays_95 rfl ?_
        refine ZW.icmp_eq (tgt := 109) dX8_laysWays_96 (by decide) (by omega) (by omega) (fun c96 => ?_) (fun c96 => ?_)
        · exact go (by unfold goB; simp [c96])
        · have hzx := hz x hx hx2
          have hzr := zB_R (zoneB (g 101) x (1 - ofF (g 101) u 0))
          refine ZW.aload_n dX8_laysWays_99 rfl ?_
          refine ZW.getR dX8_laysWays_100 fl_X8_35 ⟨_, rfl, rfl⟩ ?_
          refine ZW.iload dX8_laysWays_103 rfl ?_
          refine ZW.zald dX8_laysWays_105 rfl (by decide) (by omega) rfl ?_
          refine ZW.if_ne (tgt := 192) dX8_laysWays_106 (by decide) (by rw [hzx]; exact zB_R _) (fun c106 => ?_) (fun c106 => ?_)
          · rw [hzx] at c106
            have e := zB_ne c106
            refine kk g1 _ _ _ hf hz (djJ_end hj (fun d' y he => ?_))
            have h7 := he.2.2.2.2.2.2.1
            unfold goB at h7
            rw [e] at h7
            simp at h7
            exact absurd h7 c96
          · rw [hzx] at c106
            have e := zB_eq c106
            exact go (by unfold goB; rw [e]; simp)
  have main : ∀ (n : Nat) (x k : Int) (g1 : ZH) (o5 o6 o7 : Option ZV), k + n = 63 → zFr [106, 107, 109] g g1 → (∀ x, 0 ≤ x → x < 63 → g1 109 x = zB (zoneB (g 101) x (1 - ofF (g 101) u 0))) → djI (g 101) u (g1 106) (g1 107) k → chP (g1 106) (g1 107) x 63 → ZW 5 mX8_laysWays 68 [some (.inr 100), some (.inl u), some (.inl (1 - ofF (g 101) u 0)), some (.inl (ofF (g 101) u 2)), some (.inl x), o5, o6, o7] [] g1 (fun _ g' => zWays g g' (g 101) u) := by
    intro n
    induction n with
    | zero =>
      intro x k g1 o5 o6 o7 hn hf hz hi hc
      rcases hc with ⟨rfl, hc⟩ | ⟨q1, q2, q3, q4, q5⟩
      · refine ZW.iload dX8_laysWays_68 rfl ?_
        refine ZW.bipush dX8_laysWays_70 rfl ?_
        refine ZW.icmp_eq (tgt := 201) dX8_laysWays_72 (by decide) (by omega) (by omega) (fun c72 => ?_) (fun c72 => ?_)
        · refine ZW.vret dX8_laysWays_201 rfl ?_
          exact ⟨hf, fun y y0 y1 => wayP_F hU.2 (djI_way hi hc) y0 y1⟩
        · exact absurd rfl c72
      · have := (djI_pick hi q1 q2 q3 q4 q5).2.1
        omega
    | succ n ih =>
      intro x k g1 o5 o6 o7 hn hf hz hi hc
      rcases hc with ⟨rfl, hc⟩ | ⟨q1, q2, q3, q4, q5⟩
      · refine ZW.iload dX8_laysWays_68 rfl ?_
        refine ZW.bipush dX8_laysWays_70 rfl ?_
        refine ZW.icmp_eq (tgt := 201) dX8_laysWays_72 (by decide) (by omega) (by omega) (fun c72 => ?_) (fun c72 => ?_)
        · refine ZW.vret dX8_laysWays_201 rfl ?_
          exact ⟨hf, fun y y0 y1 => wayP_F hU.2 (djI_way hi hc) y0 y1⟩
        · exact absurd rfl c72
      · have hj := djI_pick hi q1 q2 q3 q4 q5
        refine ZW.iload dX8_laysWays_68 rfl ?_
        refine ZW.bipush dX8_laysWays_70 rfl ?_
        refine ZW.icmp_eq (tgt := 201) dX8_laysWays_72 (by decide) (by omega) (by omega) (fun c72 => ?_) (fun c72 => ?_)
        · exact absurd c72 (by omega)
        · refine ZW.aload_n dX8_laysWays_75 rfl ?_
          refine ZW.getR dX8_laysWays_76 fl_X8_28 ⟨_, rfl, rfl⟩ ?_
          refine ZW.iload dX8_laysWays_79 rfl ?_
          refine ZW.iconst dX8_laysWays_81 ?_
          refine ZW.zast dX8_laysWays_82 rfl (by decide) (by omega) (by first | exact Or.inl rfl | exact Or.inr rfl | assumption | omega) ?_
          refine ZW.iconst dX8_laysWays_83 ?_
          refine ZW.istore dX8_laysWays_84 (by decide) rfl ?_
          refine loopD 6 0 x (k + 1) _ _ _ (by omega) (by omega) q1 q2 (hf.set (by decide) _ _) (fun z z0 z1 => ?_) ?_ (fun g2 p5 p6 p7 hf2 hz2 hi2 => ?_)
          · rw [zSet_ne _ _ _ (by decide)]
            exact hz z z0 z1
          · rw [zSet_same, zSet_ne _ _ _ (by decide)]
            exact hj
          · refine ZW.aload_n dX8_laysWays_192 rfl ?_
            have hk63 := hj.2.1
            refine ZW.callV (as := []) dX8_laysWays_193 cv_X8_88 ⟨_, rfl⟩ rfl (by decide) (Nat.le_of_ble_eq_true rfl) rfl (c_X8_cheapest _ (fun z z0 z1 => by rcases hi2.1.2.2.2.1 z z0 z1 with q | q <;> omega) hi2.1.1) (fun r1 g3 ⟨w1, w2⟩ => ?_)
            subst w2
            refine ZW.istore dX8_laysWays_196 (by decide) rfl ?_
            refine ZW.goto (tgt := 68) dX8_laysWays_198 (by decide) ?_
            exact ih r1 (k + 1) _ _ _ _ (by omega) hf2 hz2 hi2 w1
  have fill : ∀ (n : Nat) (x : Int) (g1 : ZH) (o5 o6 o7 : Option ZV), 0 ≤ x → x + n = 63 → zFr [106, 107, 109] g g1 → (∀ x, 0 ≤ x → x < 63 → g1 109 x = zB (zoneB (g 101) x (1 - ofF (g 101) u 0))) → (∀ y, 0 ≤ y → y < x → g1 106 y = (if y = ofF (g 101) u 2 then 0 else 1000) ∧ g1 107 y = 0) → ZW 5 mX8_laysWays 24 [some (.inr 100), some (.inl u), some (.inl (1 - ofF (g 101) u 0)), some (.inl (ofF (g 101) u 2)), some (.inl x), o5, o6, o7] [] g1 (fun _ g' => zWays g g' (g 101) u) := by
    intro n
    induction n with
    | zero =>
      intro x g1 o5 o6 o7 hx hn hf hz hy
      have hx63 : x = 63 := by omega
      subst hx63
      refine ZW.iload dX8_laysWays_24 rfl ?_
      refine ZW.bipush dX8_laysWays_26 rfl ?_
      refine ZW.icmp_ge (tgt := 65) dX8_laysWays_28 (by decide) (by omega) (by omega) (fun c28 => ?_) (fun c28 => ?_)
      · refine ZW.iload_n dX8_laysWays_65 rfl ?_
        refine ZW.istore dX8_laysWays_66 (by decide) rfl ?_
        have hc0 : cntF (g1 107) 63 0 = 0 := by
          rw [cntF_cong (q := fun _ => 0) (fun j j0 j1 => (hy j j0 (by omega)).2)]
          decide
        refine main 63 _ 0 g1 _ _ _ (by omega) hf hz ⟨⟨fun z z0 z1 => Or.inl (hy z z0 z1).2, hc0, ?_, fun z z0 z1 => ?_, fun z z0 z1 zn zf => ?_⟩, fun z d' y he hz1 => ?_, fun z y z0 z1 y0 y1 hz1 => ?_, fun z z0 z1 hz1 => ?_⟩ (Or.inr ⟨hU.2.1, hU.2.2, (hy _ hU.2.1 hU.2.2).2, ?_, fun z z0 z1 _ => ?_⟩)
        · rw [(hy _ hU.2.1 hU.2.2).1, if_pos rfl]
        · rw [(hy z z0 z1).1]
          by_cases q : z = ofF (g 101) u 2
          · rw [if_pos q]; exact Or.inr ⟨by decide, by decide⟩
          · rw [if_neg q]; exact Or.inl rfl
        · rw [(hy z z0 z1).1, if_neg zn] at zf
          exact absurd rfl zf
        · rw [(hy z he.1 he.2.1).2] at hz1
          omega
        · rw [(hy z z0 z1).2] at hz1
          omega
        · rw [(hy z z0 z1).2] at hz1
          omega
        · rw [(hy _ hU.2.1 hU.2.2).1, if_pos rfl]
          decide
        · rw [(hy _ hU.2.1 hU.2.2).1, if_pos rfl, (hy z z0 z1).1]
          split <;> decide
      · exact absurd c28 (by omega)
    | succ n ih =>
      intro x g1 o5 o6 o7 hx hn hf hz hy
      refine ZW.iload dX8_laysWays_24 rfl ?_
      refine ZW.bipush dX8_laysWays_26 rfl ?_
      refine ZW.icmp_ge (tgt := 65) dX8_laysWays_28 (by decide) (by omega) (by omega) (fun c28 => ?_) (fun c28 => ?_)
      · exact absurd c28 (by omega)
      · refine ZW.aload_n dX8_laysWays_31 rfl ?_
        refine ZW.getR dX8_laysWays_32 fl_X8_25 ⟨_, rfl, rfl⟩ ?_
        refine ZW.iload dX8_laysWays_35 rfl ?_
        refine ZW.iload dX8_laysWays_37 rfl ?_
        refine ZW.iload_n dX8_laysWays_39 rfl ?_
        refine ZW.icmp_ne (tgt := 47) dX8_laysWays_40 (by decide) (by omega) (by omega) (fun c40 => ?_) (fun c40 => ?_)
        · refine ZW.sipush dX8_laysWays_47 rfl ?_
          refine ZW.iast dX8_laysWays_50 rfl (by decide) (by omega) ?_
          refine ZW.aload_n dX8_laysWays_51 rfl ?_
          refine ZW.getR dX8_laysWays_52 fl_X8_28 ⟨_, rfl, rfl⟩ ?_
          refine ZW.iload dX8_laysWays_55 rfl ?_
          refine ZW.iconst dX8_laysWays_57 ?_
          refine ZW.zast dX8_laysWays_58 rfl (by decide) (by omega) (by first | exact Or.inl rfl | exact Or.inr rfl | assumption | omega) ?_
          refine ZW.iinc dX8_laysWays_59 rfl (by decide) rfl ?_
          refine ZW.goto (tgt := 24) dX8_laysWays_62 (by decide) ?_
          refine ih (x + 1) _ _ _ _ (by omega) (by omega) ((hf.set (by decide) _ _).set (by decide) _ _) (fun z z0 z1 => ?_) (fun z z0 z1 => ?_)
          · rw [zSet_ne _ _ _ (by decide), zSet_ne _ _ _ (by decide)]
            exact hz z z0 z1
          · simp only [zSet_same, zSet_ne _ _ _ (show (106 : Nat) ≠ 107 by decide), zSet_ne _ _ _ (show (107 : Nat) ≠ 106 by decide)]
            by_cases q : z = x
            · rw [q, zUp_same, zUp_same, if_neg c40]
              exact ⟨rfl, rfl⟩
            · rw [zUp_ne _ _ q, zUp_ne _ _ q]
              exact hy z z0 (by omega)
        · refine ZW.iconst dX8_laysWays_43 ?_
          refine ZW.goto (tgt := 50) dX8_laysWays_44 (by decide) ?_
          refine ZW.iast dX8_laysWays_50 rfl (by decide) (by omega) ?_
          refine ZW.aload_n dX8_laysWays_51 rfl ?_
          refine ZW.getR dX8_laysWays_52 fl_X8_28 ⟨_, rfl, rfl⟩ ?_
          refine ZW.iload dX8_laysWays_55 rfl ?_
          refine ZW.iconst dX8_laysWays_57 ?_
          refine ZW.zast dX8_laysWays_58 rfl (by decide) (by omega) (by first | exact Or.inl rfl | exact Or.inr rfl | assumption | omega) ?_
          refine ZW.iinc dX8_laysWays_59 rfl (by decide) rfl ?_
          refine ZW.goto (tgt := 24) dX8_laysWays_62 (by decide) ?_
          refine ih (x + 1) _ _ _ _ (by omega) (by omega) ((hf.set (by decide) _ _).set (by decide) _ _) (fun z z0 z1 => ?_) (fun z z0 z1 => ?_)
          · rw [zSet_ne _ _ _ (by decide), zSet_ne _ _ _ (by decide)]
            exact hz z z0 z1
          · simp only [zSet_same, zSet_ne _ _ _ (show (106 : Nat) ≠ 107 by decide), zSet_ne _ _ _ (show (107 : Nat) ≠ 106 by decide)]
            by_cases q : z = x
            · rw [q, zUp_same, zUp_same, if_pos c40]
              exact ⟨rfl, rfl⟩
            · rw [zUp_ne _ _ q, zUp_ne _ _ q]
              exact hy z z0 (by omega)
  refine ZW.iconst dX8_laysWays_0 ?_
  refine ZW.aload_n dX8_laysWays_1 rfl ?_
  refine ZW.iload_n dX8_laysWays_2 rfl ?_
  refine ZW.iconst dX8_laysWays_3 ?_
  refine ZW.callV (as := [_, _]) dX8_laysWays_4 cv_X8_52 ⟨_, rfl⟩ rfl (by decide) (Nat.le_of_ble_eq_true rfl) rfl (c_X8_of _ hu0 (by omega)) (fun r1 g1 ⟨q1, q2⟩ => ?_)
  subst q1; subst q2
  refine ZW.isub dX8_laysWays_7 ?_
  refine ZW.istore_n dX8_laysWays_8 (by decide) rfl ?_
  refine ZW.aload_n dX8_laysWays_9 rfl ?_
  refine ZW.iload_n dX8_laysWays_10 rfl ?_
  refine ZW.iconst dX8_laysWays_11 ?_
  refine ZW.callV (as := [_, _]) dX8_laysWays_12 cv_X8_52 ⟨_, rfl⟩ rfl (by decide) (Nat.le_of_ble_eq_true rfl) rfl (c_X8_of _ hu0 (by omega)) (fun r1 g1 ⟨q1, q2⟩ => ?_)
  subst q1; subst q2
  refine ZW.istore_n dX8_laysWays_15 (by decide) rfl ?_
  refine ZW.aload_n dX8_laysWays_16 rfl ?_
  refine ZW.iload_n dX8_laysWays_17 rfl ?_
  refine ZW.callVv (as := [_]) dX8_laysWays_18 cv_X8_80 ⟨_, rfl⟩ rfl (by decide) (Nat.le_of_ble_eq_true rfl) rfl (fun _ _ hz _ => hz) (c_X8_laysZone _ hk (by omega)) (fun g1 ⟨q1, q2⟩ => ?_)
  refine ZW.iconst dX8_laysWays_21 ?_
  refine ZW.istore dX8_laysWays_22 (by decide) rfl ?_
  exact fill 63 0 g1 _ _ _ (by omega) (by omega) (q1.up (by decide)) q2 (fun y y0 y1 => by omega)
