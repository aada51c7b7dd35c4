-- the reference: texts
def sgn (t : Int → Int) (L p : Int) : Int := if p < L then t p else 0
def d2B (t : Int → Int) (L p : Int) : Bool := decide (sgn t L p - 48 = 1 ∧ 48 ≤ sgn t L (p + 1) ∧ sgn t L (p + 1) ≤ 53)
def p2F (t : Int → Int) (L p : Int) : Int := if d2B t L p then p + 2 else p + 1
def okO (t : Int → Int) (L p : Int) : Bool := decide (sgn t L p = 46 ∨ ((48 ≤ sgn t L p ∧ sgn t L p ≤ 57) ∧ (sgn t L (p2F t L p) = 62 ∨ sgn t L (p2F t L p) = 33) ∧ (97 ≤ sgn t L (p2F t L p + 1) ∧ sgn t L (p2F t L p + 1) ≤ 105) ∧ 49 ≤ sgn t L (p2F t L p + 2) ∧ sgn t L (p2F t L p + 2) ≤ 55))
def atO (t : Int → Int) (L p : Int) : Int :=
  if sgn t L p = 46 then p + 1 else if ¬ (48 ≤ sgn t L p ∧ sgn t L p ≤ 57) then p else if ¬ (sgn t L (p2F t L p) = 62 ∨ sgn t L (p2F t L p) = 33) then p2F t L p else if ¬ (97 ≤ sgn t L (p2F t L p + 1) ∧ sgn t L (p2F t L p + 1) ≤ 105) then p2F t L p + 1 else if ¬ (49 ≤ sgn t L (p2F t L p + 2) ∧ sgn t L (p2F t L p + 2) ≤ 55) then p2F t L p + 2 else p2F t L p + 3
def whO (t : Int → Int) (L p : Int) : Int := if sgn t L p = 46 then 2 else if sgn t L (p2F t L p) = 33 then 1 else 0
def unO (t : Int → Int) (L p : Int) : Int := if sgn t L p = 46 then 0 else if d2B t L p then 10 + (sgn t L (p + 1) - 48) else sgn t L p - 48
def hxO (t : Int → Int) (L p : Int) : Int := if sgn t L p = 46 then 0 else 9 * (sgn t L (p2F t L p + 2) - 49) + (sgn t L (p2F t L p + 1) - 97)
/-- a text of L characters -/
def txP (t : Int → Int) (L : Int) : Prop := 0 ≤ L ∧ L ≤ 60 ∧ ∀ i, 0 ≤ i → i < L → 0 ≤ t i ∧ t i < 65536
theorem sgn_R {t : Int → Int} {L p : Int} (ht : txP t L) (hp : 0 ≤ p) : 0 ≤ sgn t L p ∧ sgn t L p < 65536 := by
  unfold sgn
  split
  · next h => exact ht.2.2 p hp h
  · omega
theorem sgn_lt {t : Int → Int} {L p : Int} (h : sgn t L p ≠ 0) : p < L := by
  unfold sgn at h
  split at h
  · assumption
  · exact absurd rfl h
/-- while a text is read: k orders in the row a, the next character at p, well so far or not -/
def PS (g : ZH) (k : Int) (a : Int → Int) (p : Int) (w : Bool) : ZH := fun j => if j = 100 then (fun i => if i = 14 then p else if i = 15 then zB w else if i = 17 then k else g 100 i) else if j = 111 then a else g j
theorem PS_14 (g : ZH) (k : Int) (a : Int → Int) (p : Int) (w : Bool) : PS g k a p w 100 14 = p := by simp [PS]
theorem PS_15 (g : ZH) (k : Int) (a : Int → Int) (p : Int) (w : Bool) : PS g k a p w 100 15 = zB w := by simp [PS]
theorem PS_17 (g : ZH) (k : Int) (a : Int → Int) (p : Int) (w : Bool) : PS g k a p w 100 17 = k := by simp [PS]
theorem PS_8 (g : ZH) (k : Int) (a : Int → Int) (p : Int) (w : Bool) : PS g k a p w 100 8 = g 100 8 := by simp [PS]
theorem PS_111 (g : ZH) (k : Int) (a : Int → Int) (p : Int) (w : Bool) : PS g k a p w 111 = a := by simp [PS]
theorem PS_ne (g : ZH) (k : Int) (a : Int → Int) (p : Int) (w : Bool) {j : Nat} (h1 : j ≠ 100) (h2 : j ≠ 111) : PS g k a p w j = g j := by simp [PS, h1, h2]
theorem PS_s14 (g : ZH) (k : Int) (a : Int → Int) (p : Int) (w : Bool) (v : Int) : zSet (PS g k a p w) 100 14 v = PS g k a v w := by
  funext j i
  unfold zSet zUp PS
  by_cases hj : j = 100
  · subst hj
    by_cases hi : i = 14 <;> simp [hi]
  · simp [hj]
theorem PS_s15 (g : ZH) (k : Int) (a : Int → Int) (p : Int) (w w2 : Bool) : zSet (PS g k a p w) 100 15 (zB w2) = PS g k a p w2 := by
  funext j i
  unfold zSet zUp PS
  by_cases hj : j = 100
  · subst hj
    by_cases hi : i = 15
    · subst hi; simp
    · simp [hi]
  · simp [hj]
theorem PS_s17 (g : ZH) (k : Int) (a : Int → Int) (p : Int) (w : Bool) (v : Int) : zSet (PS g k a p w) 100 17 v = PS g v a p w := by
  funext j i
  unfold zSet zUp PS
  by_cases hj : j = 100
  · subst hj
    by_cases hi : i = 17
    · subst hi; simp
    · simp [hi]
  · simp [hj]
theorem PS_s111 (g : ZH) (k : Int) (a : Int → Int) (p : Int) (w : Bool) (i v : Int) : zSet (PS g k a p w) 111 i v = PS g k (zUp a i v) p w := by
  funext j i
  unfold zSet PS
  by_cases hj : j = 111
  · subst hj; simp
  · simp [hj]
theorem c_X8_sign (g : ZH) (ht : txP (g 105) (g 100 8)) {k p : Int} {a : Int → Int} {w : Bool} (hp : 0 ≤ p ∧ p ≤ 100) : ZC 0 mX8_sign [.inr 100] (PS g k a p w) (fun r g' => r = sgn (g 105) (g 100 8) p ∧ g' = PS g k a p w) := by
  have hL := ht.1
  have hL2 := ht.2.1
  refine ZC.of (by decide +kernel) (Nat.le_of_ble_eq_true rfl) ?_
  refine ZW.aload_n dX8_sign_0 rfl ?_
  refine ZW.getI (fz := 14) dX8_sign_1 fl_X8_169 ⟨_, rfl, rfl⟩ rfl rfl ?_
  refine ZW.aload_n dX8_sign_4 rfl ?_
  refine ZW.getI (fz := 8) dX8_sign_5 fl_X8_166 ⟨_, rfl, rfl⟩ rfl rfl ?_
  rw [PS_14, PS_8]
  refine ZW.icmp_ge (tgt := 23) dX8_sign_8 (by decide) (by first | omega | exact zB_R _) (by first | omega | exact zB_R _) (fun c8 => ?_) (fun c8 => ?_)
  · refine ZW.iconst dX8_sign_23 ?_
    refine ZW.ireti dX8_sign_24 rfl ?_
    exact ⟨by unfold sgn; rw [if_neg (by omega)], rfl⟩
  · refine ZW.aload_n dX8_sign_11 rfl ?_
    refine ZW.getR dX8_sign_12 fl_X8_22 ⟨_, rfl, rfl⟩ ?_
    refine ZW.aload_n dX8_sign_15 rfl ?_
    refine ZW.getI (fz := 14) dX8_sign_16 fl_X8_169 ⟨_, rfl, rfl⟩ rfl rfl ?_
    rw [PS_14]
    refine ZW.iald dX8_sign_19 rfl (by decide) (by omega) rfl ?_
    refine ZW.goto (tgt := 24) dX8_sign_20 (by decide) ?_
    refine ZW.ireti dX8_sign_24 rfl ?_
    exact ⟨by rw [PS_ne _ _ _ _ _ (by decide) (by decide)]; unfold sgn; rw [if_pos (by omega)], rfl⟩
theorem c_X8_takes (g : ZH) (ht : txP (g 105) (g 100 8)) {k p lo hi : Int} {a : Int → Int} {w : Bool} (hp : 0 ≤ p ∧ p ≤ 90) (hl : zR lo) (hh : zR hi) : ZC 1 mX8_takes [.inr 100, .inl lo, .inl hi] (PS g k a p w) (fun r g' => r = sgn (g 105) (g 100 8) p - lo ∧ g' = PS g k a (p + zB (w && inB (sgn (g 105) (g 100 8) p) lo hi)) (w && inB (sgn (g 105) (g 100 8) p) lo hi)) := by
  have hs := sgn_R ht hp.1
  refine ZC.of (by decide +kernel) (Nat.le_of_ble_eq_true rfl) ?_
  have tail : ∀ b : Bool, ZW 1 mX8_takes 28 [some (.inr 100), some (.inl lo), some (.inl hi), none] [] (PS g k a p b) (fun r g' => r = sgn (g 105) (g 100 8) p - lo ∧ g' = PS g k a (p + zB b) b) := by
    intro b
    refine ZW.aload_n dX8_takes_28 rfl ?_
    refine ZW.callV (as := []) dX8_takes_29 cv_X8_176 ⟨_, rfl⟩ rfl (by decide) (Nat.le_of_ble_eq_true rfl) rfl (c_X8_sign g ht (by omega)) (fun r1 g1 ⟨q1, q2⟩ => ?_)
    subst q1; subst q2
    refine ZW.iload_n dX8_takes_32 rfl ?_
    refine ZW.isub dX8_takes_33 ?_
    refine ZW.istore_n dX8_takes_34 (by decide) rfl ?_
    refine ZW.aload_n dX8_takes_35 rfl ?_
    refine ZW.dup dX8_takes_36 ?_
    refine ZW.getI (fz := 14) dX8_takes_37 fl_X8_169 ⟨_, rfl, rfl⟩ rfl rfl ?_
    rw [PS_14]
    refine ZW.aload_n dX8_takes_40 rfl ?_
    refine ZW.getI (fz := 15) dX8_takes_41 fl_X8_172 ⟨_, rfl, rfl⟩ rfl rfl ?_
    rw [PS_15]
    cases b
    · refine ZW.if_eq (tgt := 51) dX8_takes_44 (by decide) (by first | omega | exact zB_R _) (fun c44 => ?_) (fun c44 => ?_)
      · refine ZW.iconst dX8_takes_51 ?_
        refine ZW.iadd dX8_takes_52 ?_
        refine ZW.puti (fz := 14) dX8_takes_53 fp_X8_169 ⟨_, rfl, rfl⟩ rfl ?_
        rw [PS_s14]
        refine ZW.iload_n dX8_takes_56 rfl ?_
        refine ZW.ireti dX8_takes_57 rfl ?_
        exact ⟨rfl, rfl⟩
      · exact absurd rfl c44
    · refine ZW.if_eq (tgt := 51) dX8_takes_44 (by decide) (by first | omega | exact zB_R _) (fun c44 => ?_) (fun c44 => ?_)
      · exact absurd c44 (by decide)
      · refine ZW.iconst dX8_takes_47 ?_
        refine ZW.goto (tgt := 52) dX8_takes_48 (by decide) ?_
        refine ZW.iadd dX8_takes_52 ?_
        refine ZW.puti (fz := 14) dX8_takes_53 fp_X8_169 ⟨_, rfl, rfl⟩ rfl ?_
        rw [PS_s14]
        refine ZW.iload_n dX8_takes_56 rfl ?_
        refine ZW.ireti dX8_takes_57 rfl ?_
        exact ⟨rfl, rfl⟩
  refine ZW.aload_n dX8_takes_0 rfl ?_
  refine ZW.aload_n dX8_takes_1 rfl ?_
  refine ZW.getI (fz := 15) dX8_takes_2 fl_X8_172 ⟨_, rfl, rfl⟩ rfl rfl ?_
  rw [PS_15]
  cases w
  · refine ZW.if_eq (tgt := 24) dX8_takes_5 (by decide) (by first | omega | exact zB_R _) (fun c5 => ?_) (fun c5 => ?_)
    · refine ZW.iconst dX8_takes_24 ?_
      refine ZW.putz (fz := 15) dX8_takes_25 fp_X8_172 ⟨_, rfl, rfl⟩ rfl (by first | exact Or.inl rfl | exact Or.inr rfl | assumption | omega) ?_
      rw [show (0 : Int) = zB false from rfl, PS_s15]
      exact tail false
    · exact absurd rfl c5
  · refine ZW.if_eq (tgt := 24) dX8_takes_5 (by decide) (by first | omega | exact zB_R _) (fun c5 => ?_) (fun c5 => ?_)
    · exact absurd c5 (by decide)
    · refine ZW.aload_n dX8_takes_8 rfl ?_
      refine ZW.callV (as := []) dX8_takes_9 cv_X8_176 ⟨_, rfl⟩ rfl (by decide) (Nat.le_of_ble_eq_true rfl) rfl (c_X8_sign g ht (by omega)) (fun r1 g1 ⟨q1, q2⟩ => ?_)
      subst q1; subst q2
      refine ZW.iload_n dX8_takes_12 rfl ?_
      refine ZW.iload_n dX8_takes_13 rfl ?_
      refine ZW.callS (as := [_, _, _]) dX8_takes_14 cs_X8_48 rfl (by decide) (Nat.le_of_ble_eq_true rfl) rfl (c_X8_in _ (by omega) hl hh) (fun r1 g1 ⟨q1, q2⟩ => ?_)
      subst q1; subst q2
      refine ZW.if_eq (tgt := 24) dX8_takes_17 (by decide) (by exact zB_R _) (fun c17 => ?_) (fun c17 => ?_)
      · have e := zB_eq c17
        refine ZW.iconst dX8_takes_24 ?_
        refine ZW.putz (fz := 15) dX8_takes_25 fp_X8_172 ⟨_, rfl, rfl⟩ rfl (by first | exact Or.inl rfl | exact Or.inr rfl | assumption | omega) ?_
        rw [show (0 : Int) = zB false from rfl, PS_s15, e]
        exact tail false
      · have e := zB_ne c17
        refine ZW.iconst dX8_takes_20 ?_
        refine ZW.goto (tgt := 25) dX8_takes_21 (by decide) ?_
        refine ZW.putz (fz := 15) dX8_takes_25 fp_X8_172 ⟨_, rfl, rfl⟩ rfl (by first | exact Or.inl rfl | exact Or.inr rfl | assumption | omega) ?_
        rw [show (1 : Int) = zB true from rfl, PS_s15, e]
        exact tail true
def addO (a : Int → Int) (k w u x : Int) : Int → Int := zUp (zUp (zUp a (3 * k) w) (3 * k + 1) u) (3 * k + 2) x
def ordP (g : ZH) (k : Int) (a : Int → Int) (p : Int) (g' : ZH) : Prop :=
  if okO (g 105) (g 100 8) p then g' = PS g (k + 1) (addO a k (whO (g 105) (g 100 8) p) (unO (g 105) (g 100 8) p) (hxO (g 105) (g 100 8) p)) (atO (g 105) (g 100 8) p) true else g' = PS g k a (atO (g 105) (g 100 8) p) false
set_option maxHeartbeats 1000000 in
theorem c_X8_readsOrder (g : ZH) (ht : txP (g 105) (g 100 8)) {k p : Int} {a : Int → Int} (hp : 0 ≤ p ∧ p ≤ 60) (hk : 0 ≤ k ∧ k < 32) : ZC 2 mX8_readsOrder [.inr 100] (PS g k a p true) (fun _ g' => ordP g k a p g') := by
  obtain ⟨t, htE⟩ : ∃ z, z = g 105 := ⟨_, rfl⟩
  obtain ⟨L, hLE⟩ : ∃ z, z = g 100 8 := ⟨_, rfl⟩
  have hs := fun q (hq : 0 ≤ q) => sgn_R (p := q) ht hq
  refine ZC.of (by decide +kernel) (Nat.le_of_ble_eq_true rfl) ?_
  -- the end: the order is laid if all is well
  have endT : ∀ (w u x q : Int) (o4 : Option ZV), ordP g k a p (PS g (k + 1) (addO a k w u x) q true) → ZW 2 mX8_readsOrder 174 [some (.inr 100), some (.inl w), some (.inl u), some (.inl x), o4] [] (PS g k a q true) (fun _ g' => ordP g k a p g') := by
    intro w u x q o4 hq
    refine ZW.aload_n dX8_readsOrder_174 rfl ?_
    refine ZW.getI (fz := 15) dX8_readsOrder_175 fl_X8_172 ⟨_, rfl, rfl⟩ rfl rfl ?_
    rw [PS_15]
    refine ZW.if_eq (tgt := 231) dX8_readsOrder_178 (by decide) (by first | omega | exact zB_R _) (fun c178 => ?_) (fun c178 => ?_)
    · exact absurd c178 (by decide)
    · refine ZW.aload_n dX8_readsOrder_181 rfl ?_
      refine ZW.getR dX8_readsOrder_182 fl_X8_41 ⟨_, rfl, rfl⟩ ?_
      refine ZW.iconst dX8_readsOrder_185 ?_
      refine ZW.aload_n dX8_readsOrder_186 rfl ?_
      refine ZW.getI (fz := 17) dX8_readsOrder_187 fl_X8_182 ⟨_, rfl, rfl⟩ rfl rfl ?_
      rw [PS_17]
      refine ZW.imul dX8_readsOrder_190 ?_
      refine ZW.iload_n dX8_readsOrder_191 rfl ?_
      refine ZW.iast dX8_readsOrder_192 rfl (by decide) (by omega) ?_
      rw [PS_s111]
      refine ZW.aload_n dX8_readsOrder_193 rfl ?_
      refine ZW.getR dX8_readsOrder_194 fl_X8_41 ⟨_, rfl, rfl⟩ ?_
      refine ZW.iconst dX8_readsOrder_197 ?_
      refine ZW.aload_n dX8_readsOrder_198 rfl ?_
      refine ZW.getI (fz := 17) dX8_readsOrder_199 fl_X8_182 ⟨_, rfl, rfl⟩ rfl rfl ?_
      rw [PS_17]
      refine ZW.imul dX8_readsOrder_202 ?_
      refine ZW.iconst dX8_readsOrder_203 ?_
      refine ZW.iadd dX8_readsOrder_204 ?_
      refine ZW.iload_n dX8_readsOrder_205 rfl ?_
      refine ZW.iast dX8_readsOrder_206 rfl (by decide) (by omega) ?_
      rw [PS_s111]
      refine ZW.aload_n dX8_readsOrder_207 rfl ?_
      refine ZW.getR dX8_readsOrder_208 fl_X8_41 ⟨_, rfl, rfl⟩ ?_
      refine ZW.iconst dX8_readsOrder_211 ?_
      refine ZW.aload_n dX8_readsOrder_212 rfl ?_
      refine ZW.getI (fz := 17) dX8_readsOrder_213 fl_X8_182 ⟨_, rfl, rfl⟩ rfl rfl ?_
      rw [PS_17]
      refine ZW.imul dX8_readsOrder_216 ?_
      refine ZW.iconst dX8_readsOrder_217 ?_
      refine ZW.iadd dX8_readsOrder_218 ?_
      refine ZW.iload_n dX8_readsOrder_219 rfl ?_
      refine ZW.iast dX8_readsOrder_220 rfl (by decide) (by omega) ?_
      rw [PS_s111]
      refine ZW.aload_n dX8_readsOrder_221 rfl ?_
      refine ZW.dup dX8_readsOrder_222 ?_
      refine ZW.getI (fz := 17) dX8_readsOrder_223 fl_X8_182 ⟨_, rfl, rfl⟩ rfl rfl ?_
      rw [PS_17]
      refine ZW.iconst dX8_readsOrder_226 ?_
      refine ZW.iadd dX8_readsOrder_227 ?_
      refine ZW.puti (fz := 17) dX8_readsOrder_228 fp_X8_182 ⟨_, rfl, rfl⟩ rfl ?_
      rw [PS_s17]
      refine ZW.vret dX8_readsOrder_231 rfl ?_
      exact hq
  have endF : ∀ (q : Int) (o1 o2 o3 o4 : Option ZV), ordP g k a p (PS g k a q false) → ZW 2 mX8_readsOrder 174 [some (.inr 100), o1, o2, o3, o4] [] (PS g k a q false) (fun _ g' => ordP g k a p g') := by
    intro q o1 o2 o3 o4 hq
    refine ZW.aload_n dX8_readsOrder_174 rfl ?_
    refine ZW.getI (fz := 15) dX8_readsOrder_175 fl_X8_172 ⟨_, rfl, rfl⟩ rfl rfl ?_
    rw [PS_15]
    refine ZW.if_eq (tgt := 231) dX8_readsOrder_178 (by decide) (by first | omega | exact zB_R _) (fun c178 => ?_) (fun c178 => ?_)
    · refine ZW.vret dX8_readsOrder_231 rfl ?_
      exact hq
    · exact absurd rfl c178
  -- from the column on
  have col : ∀ (w u q : Int) (b : Bool) (o3 : Option ZV), 0 ≤ q → q ≤ 70 → (b = false → ordP g k a p (PS g k a q false)) → (b = true → (¬ (97 ≤ sgn (g 105) (g 100 8) q ∧ sgn (g 105) (g 100 8) q ≤ 105) → ordP g k a p (PS g k a q false)) ∧ (97 ≤ sgn (g 105) (g 100 8) q ∧ sgn (g 105) (g 100 8) q ≤ 105 → (¬ (49 ≤ sgn (g 105) (g 100 8) (q + 1) ∧ sgn (g 105) (g 100 8) (q + 1) ≤ 55) → ordP g k a p (PS g k a (q + 1) false)) ∧ (49 ≤ sgn (g 105) (g 100 8) (q + 1) ∧ sgn (g 105) (g 100 8) (q + 1) ≤ 55 → ordP g k a p (PS g (k + 1) (addO a k w u (9 * (sgn (g 105) (g 100 8) (q + 1) - 49) + (sgn (g 105) (g 100 8) q - 97))) (q + 2) true)))) → ZW 2 mX8_readsOrder 149 [some (.inr 100), some (.inl w), some (.inl u), o3, none] [] (PS g k a q b) (fun _ g' => ordP g k a p g') := by
    intro w u q b o3 q0 q1 hb0 hb1
    refine ZW.aload_n dX8_readsOrder_149 rfl ?_
    refine ZW.bipush dX8_readsOrder_150 rfl ?_
    refine ZW.bipush dX8_readsOrder_152 rfl ?_
    refine ZW.callV (as := [_, _]) dX8_readsOrder_154 cv_X8_179 ⟨_, rfl⟩ rfl (by decide) (Nat.le_of_ble_eq_true rfl) rfl (c_X8_takes g ht (by omega) (by decide) (by decide)) (fun r1 g1 ⟨e1, e2⟩ => ?_)
    subst e1; subst e2
    refine ZW.istore dX8_readsOrder_157 (by decide) rfl ?_
    refine ZW.bipush dX8_readsOrder_159 rfl ?_
    refine ZW.aload_n dX8_readsOrder_161 rfl ?_
    refine ZW.bipush dX8_readsOrder_162 rfl ?_
    refine ZW.bipush dX8_readsOrder_164 rfl ?_
    cases b
    · rw [Bool.false_and, zB_f, Int.add_zero]
      refine ZW.callV (as := [_, _]) dX8_readsOrder_166 cv_X8_179 ⟨_, rfl⟩ rfl (by decide) (Nat.le_of_ble_eq_true rfl) rfl (c_X8_takes g ht (by omega) (by decide) (by decide)) (fun r1 g1 ⟨e1, e2⟩ => ?_)
      subst e1; subst e2
      rw [Bool.false_and, zB_f, Int.add_zero]
      refine ZW.imul dX8_readsOrder_169 ?_
      refine ZW.iload dX8_readsOrder_170 rfl ?_
      refine ZW.iadd dX8_readsOrder_172 ?_
      refine ZW.istore_n dX8_readsOrder_173 (by decide) rfl ?_
      exact endF q _ _ _ _ (hb0 rfl)
    · rw [Bool.true_and]
      obtain ⟨h1, h2⟩ := hb1 rfl
      by_cases hc : 97 ≤ sgn (g 105) (g 100 8) q ∧ sgn (g 105) (g 100 8) q ≤ 105
      · rw [show inB (sgn (g 105) (g 100 8) q) 97 105 = true from decide_eq_true hc, zB_t]
        obtain ⟨h3, h4⟩ := h2 hc
        refine ZW.callV (as := [_, _]) dX8_readsOrder_166 cv_X8_179 ⟨_, rfl⟩ rfl (by decide) (Nat.le_of_ble_eq_true rfl) rfl (c_X8_takes g ht (by omega) (by decide) (by decide)) (fun r1 g1 ⟨e1, e2⟩ => ?_)
        subst e1; subst e2
        rw [Bool.true_and]
        by_cases hr : 49 ≤ sgn (g 105) (g 100 8) (q + 1) ∧ sgn (g 105) (g 100 8) (q + 1) ≤ 55
        · rw [show inB (sgn (g 105) (g 100 8) (q + 1)) 49 55 = true from decide_eq_true hr, zB_t]
          refine ZW.imul dX8_readsOrder_169 ?_
          refine ZW.iload dX8_readsOrder_170 rfl ?_
          refine ZW.iadd dX8_readsOrder_172 ?_
          refine ZW.istore_n dX8_readsOrder_173 (by decide) rfl ?_
          have h5 := h4 hr
          rw [show q + 2 = q + 1 + 1 by omega] at h5
          exact endT _ _ _ _ _ h5
        · rw [show inB (sgn (g 105) (g 100 8) (q + 1)) 49 55 = false from decide_eq_false hr, zB_f, Int.add_zero]
          refine ZW.imul dX8_readsOrder_169 ?_
          refine ZW.iload dX8_readsOrder_170 rfl ?_
          refine ZW.iadd dX8_readsOrder_172 ?_
          refine ZW.istore_n dX8_readsOrder_173 (by decide) rfl ?_
          exact endF _ _ _ _ _ (h3 hr)
      · rw [show inB (sgn (g 105) (g 100 8) q) 97 105 = false from decide_eq_false hc, zB_f, Int.add_zero]
        refine ZW.callV (as := [_, _]) dX8_readsOrder_166 cv_X8_179 ⟨_, rfl⟩ rfl (by decide) (Nat.le_of_ble_eq_true rfl) rfl (c_X8_takes g ht (by omega) (by decide) (by decide)) (fun r1 g1 ⟨e1, e2⟩ => ?_)
        subst e1; subst e2
        rw [Bool.false_and, zB_f, Int.add_zero]
        refine ZW.imul dX8_readsOrder_169 ?_
        refine ZW.iload dX8_readsOrder_170 rfl ?_
        refine ZW.iadd dX8_readsOrder_172 ?_
        refine ZW.istore_n dX8_readsOrder_173 (by decide) rfl ?_
        exact endF q _ _ _ _ (h1 hc)
  -- from the sign on
  have sg : ∀ (u q : Int) (b : Bool) (o1 o3 : Option ZV), 0 ≤ q → q ≤ 65 → (b = false → ordP g k a p (PS g k a q false)) → (b = true → (¬ (sgn (g 105) (g 100 8) q = 62 ∨ sgn (g 105) (g 100 8) q = 33) → ordP g k a p (PS g k a q false)) ∧ ((sgn (g 105) (g 100 8) q = 62 ∨ sgn (g 105) (g 100 8) q = 33) → (¬ (97 ≤ sgn (g 105) (g 100 8) (q + 1) ∧ sgn (g 105) (g 100 8) (q + 1) ≤ 105) → ordP g k a p (PS g k a (q + 1) false)) ∧ (97 ≤ sgn (g 105) (g 100 8) (q + 1) ∧ sgn (g 105) (g 100 8) (q + 1) ≤ 105 → (¬ (49 ≤ sgn (g 105) (g 100 8) (q + 1 + 1) ∧ sgn (g 105) (g 100 8) (q + 1 + 1) ≤ 55) → ordP g k a p (PS g k a (q + 1 + 1) false)) ∧ (49 ≤ sgn (g 105) (g 100 8) (q + 1 + 1) ∧ sgn (g 105) (g 100 8) (q + 1 + 1) ≤ 55 → ordP g k a p (PS g (k + 1) (addO a k (if sgn (g 105) (g 100 8) q = 33 then 1 else 0) u (9 * (sgn (g 105) (g 100 8) (q + 1 + 1) - 49) + (sgn (g 105) (g 100 8) (q + 1) - 97))) (q + 1 + 2) true))))) → ZW 2 mX8_readsOrder 79 [some (.inr 100), o1, some (.inl u), o3, none] [] (PS g k a q b) (fun _ g' => ordP g k a p g') := by
    intro u q b o1 o3 q0 q1 hb0 hb1
    have hsq := hs q q0
    have part2 : ∀ w : Int, w = (if sgn (g 105) (g 100 8) q = 33 then 1 else 0) → ZW 2 mX8_readsOrder 94 [some (.inr 100), some (.inl w), some (.inl u), o3, none] [] (PS g k a q b) (fun _ g' => ordP g k a p g') := by
      intro w hw
      have part3 : ∀ c : Bool, (c = false → ordP g k a p (PS g k a q false)) → (c = true → b = true ∧ (sgn (g 105) (g 100 8) q = 62 ∨ sgn (g 105) (g 100 8) q = 33)) → ZW 2 mX8_readsOrder 128 [some (.inr 100), some (.inl w), some (.inl u), o3, none] [] (PS g k a q c) (fun _ g' => ordP g k a p g') := by
        intro c hc0 hc1
        refine ZW.aload_n dX8_readsOrder_128 rfl ?_
        refine ZW.dup dX8_readsOrder_129 ?_
        refine ZW.getI (fz := 14) dX8_readsOrder_130 fl_X8_169 ⟨_, rfl, rfl⟩ rfl rfl ?_
        rw [PS_14]
        refine ZW.aload_n dX8_readsOrder_133 rfl ?_
        refine ZW.getI (fz := 15) dX8_readsOrder_134 fl_X8_172 ⟨_, rfl, rfl⟩ rfl rfl ?_
        rw [PS_15]
        cases c
        · refine ZW.if_eq (tgt := 144) dX8_readsOrder_137 (by decide) (by first | omega | exact zB_R _) (fun c137 => ?_) (fun c137 => ?_)
          · refine ZW.iconst dX8_readsOrder_144 ?_
            refine ZW.iadd dX8_readsOrder_145 ?_
            refine ZW.puti (fz := 14) dX8_readsOrder_146 fp_X8_169 ⟨_, rfl, rfl⟩ rfl ?_
            rw [PS_s14, Int.add_zero]
            exact col w u q false _ q0 (by omega) hc0 (fun z => Bool.noConfusion z)
          · exact absurd rfl c137
        · obtain ⟨z1, z2⟩ := hc1 rfl
          refine ZW.if_eq (tgt := 144) dX8_readsOrder_137 (by decide) (by first | omega | exact zB_R _) (fun c137 => ?_) (fun c137 => ?_)
          · exact absurd c137 (by decide)
          · refine ZW.iconst dX8_readsOrder_140 ?_
            refine ZW.goto (tgt := 145) dX8_readsOrder_141 (by decide) ?_
            refine ZW.iadd dX8_readsOrder_145 ?_
            refine ZW.puti (fz := 14) dX8_readsOrder_146 fp_X8_169 ⟨_, rfl, rfl⟩ rfl ?_
            rw [PS_s14]
            refine col w u (q + 1) true _ (by omega) (by omega) (fun z => Bool.noConfusion z) (fun _ => ?_)
            rw [hw]
            exact (hb1 z1).2 z2
      refine ZW.aload_n dX8_readsOrder_94 rfl ?_
      refine ZW.aload_n dX8_readsOrder_95 rfl ?_
      refine ZW.getI (fz := 15) dX8_readsOrder_96 fl_X8_172 ⟨_, rfl, rfl⟩ rfl rfl ?_
      rw [PS_15]
      have toF : (b = true → ¬ (sgn (g 105) (g 100 8) q = 62 ∨ sgn (g 105) (g 100 8) q = 33)) → ZW 2 mX8_readsOrder 124 [some (.inr 100), some (.inl w), some (.inl u), o3, none] [.inr 100] (PS g k a q b) (fun _ g' => ordP g k a p g') := by
        intro hno
        refine ZW.iconst dX8_readsOrder_124 ?_
        refine ZW.putz (fz := 15) dX8_readsOrder_125 fp_X8_172 ⟨_, rfl, rfl⟩ rfl (by first | exact Or.inl rfl | exact Or.inr rfl | assumption | omega) ?_
        rw [show (0 : Int) = zB false from rfl, PS_s15]
        refine part3 false (fun _ => ?_) (fun z => Bool.noConfusion z)
        cases b
        · exact hb0 rfl
        · exact (hb1 rfl).1 (hno rfl)
      cases b
      · refine ZW.if_eq (tgt := 124) dX8_readsOrder_99 (by decide) (by first | omega | exact zB_R _) (fun c99 => ?_) (fun c99 => ?_)
        · exact toF (fun z => Bool.noConfusion z)
        · exact absurd rfl c99
      · refine ZW.if_eq (tgt := 124) dX8_readsOrder_99 (by decide) (by first | omega | exact zB_R _) (fun c99 => ?_) (fun c99 => ?_)
        · exact absurd c99 (by decide)
        · refine ZW.aload_n dX8_readsOrder_102 rfl ?_
          refine ZW.callV (as := []) dX8_readsOrder_103 cv_X8_176 ⟨_, rfl⟩ rfl (by decide) (Nat.le_of_ble_eq_true rfl) rfl (c_X8_sign g ht (by omega)) (fun r1 g1 ⟨e1, e2⟩ => ?_)
          subst e1; subst e2
          have toT : (sgn (g 105) (g 100 8) q = 62 ∨ sgn (g 105) (g 100 8) q = 33) → ZW 2 mX8_readsOrder 120 [some (.inr 100), some (.inl w), some (.inl u), o3, none] [.inr 100] (PS g k a q true) (fun _ g' => ordP g k a p g') := by
            intro hyes
            refine ZW.iconst dX8_readsOrder_120 ?_
            refine ZW.goto (tgt := 125) dX8_readsOrder_121 (by decide) ?_
            refine ZW.putz (fz := 15) dX8_readsOrder_125 fp_X8_172 ⟨_, rfl, rfl⟩ rfl (by first | exact Or.inl rfl | exact Or.inr rfl | assumption | omega) ?_
            rw [show (1 : Int) = zB true from rfl, PS_s15]
            exact part3 true (fun z => Bool.noConfusion z) (fun _ => ⟨rfl, hyes⟩)
          refine ZW.bipush dX8_readsOrder_106 rfl ?_
          refine ZW.icmp_eq (tgt := 120) dX8_readsOrder_108 (by decide) (by first | omega | exact zB_R _) (by first | omega | exact zB_R _) (fun c108 => ?_) (fun c108 => ?_)
          · exact toT (Or.inl c108)
          · refine ZW.aload_n dX8_readsOrder_111 rfl ?_
            refine ZW.callV (as := []) dX8_readsOrder_112 cv_X8_176 ⟨_, rfl⟩ rfl (by decide) (Nat.le_of_ble_eq_true rfl) rfl (c_X8_sign g ht (by omega)) (fun r1 g1 ⟨e1, e2⟩ => ?_)
            subst e1; subst e2
            refine ZW.bipush dX8_readsOrder_115 rfl ?_
            refine ZW.icmp_ne (tgt := 124) dX8_readsOrder_117 (by decide) (by first | omega | exact zB_R _) (by first | omega | exact zB_R _) (fun c117 => ?_) (fun c117 => ?_)
            · exact toF (fun _ z => by omega)
            · exact toT (Or.inr c117)
    refine ZW.aload_n dX8_readsOrder_79 rfl ?_
    refine ZW.callV (as := []) dX8_readsOrder_80 cv_X8_176 ⟨_, rfl⟩ rfl (by decide) (Nat.le_of_ble_eq_true rfl) rfl (c_X8_sign g ht (by omega)) (fun r1 g1 ⟨e1, e2⟩ => ?_)
    subst e1; subst e2
    refine ZW.bipush dX8_readsOrder_83 rfl ?_
    refine ZW.icmp_ne (tgt := 92) dX8_readsOrder_85 (by decide) (by first | omega | exact zB_R _) (by first | omega | exact zB_R _) (fun c85 => ?_) (fun c85 => ?_)
    · refine ZW.iconst dX8_readsOrder_92 ?_
      refine ZW.istore_n dX8_readsOrder_93 (by decide) rfl ?_
      exact part2 0 (by rw [if_neg c85])
    · refine ZW.iconst dX8_readsOrder_88 ?_
      refine ZW.goto (tgt := 93) dX8_readsOrder_89 (by decide) ?_
      refine ZW.istore_n dX8_readsOrder_93 (by decide) rfl ?_
      exact part2 1 (by rw [if_pos c85])
  have hs0 := hs p hp.1
  have hs1 := hs (p + 1) (by omega)
  refine ZW.iconst dX8_readsOrder_0 ?_
  refine ZW.istore_n dX8_readsOrder_1 (by decide) rfl ?_
  refine ZW.iconst dX8_readsOrder_2 ?_
  refine ZW.istore_n dX8_readsOrder_3 (by decide) rfl ?_
  refine ZW.iconst dX8_readsOrder_4 ?_
  refine ZW.istore_n dX8_readsOrder_5 (by decide) rfl ?_
  refine ZW.aload_n dX8_readsOrder_6 rfl ?_
  refine ZW.callV (as := []) dX8_readsOrder_7 cv_X8_176 ⟨_, rfl⟩ rfl (by decide) (Nat.le_of_ble_eq_true rfl) rfl (c_X8_sign g ht (by omega)) (fun r1 g1 ⟨e1, e2⟩ => ?_)
  subst e1; subst e2
  refine ZW.bipush dX8_readsOrder_10 rfl ?_
  refine ZW.icmp_ne (tgt := 28) dX8_readsOrder_12 (by decide) (by first | omega | exact zB_R _) (by first | omega | exact zB_R _) (fun c12 => ?_) (fun c12 => ?_)
  · refine ZW.aload_n dX8_readsOrder_28 rfl ?_
    refine ZW.bipush dX8_readsOrder_29 rfl ?_
    refine ZW.bipush dX8_readsOrder_31 rfl ?_
    refine ZW.callV (as := [_, _]) dX8_readsOrder_33 cv_X8_179 ⟨_, rfl⟩ rfl (by decide) (Nat.le_of_ble_eq_true rfl) rfl (c_X8_takes g ht (by omega) (by decide) (by decide)) (fun r1 g1 ⟨e1, e2⟩ => ?_)
    subst e1; subst e2
    rw [Bool.true_and]
    refine ZW.istore_n dX8_readsOrder_36 (by decide) rfl ?_
    refine ZW.aload_n dX8_readsOrder_37 rfl ?_
    refine ZW.getI (fz := 15) dX8_readsOrder_38 fl_X8_172 ⟨_, rfl, rfl⟩ rfl rfl ?_
    rw [PS_15]
    by_cases h1 : 48 ≤ sgn (g 105) (g 100 8) p ∧ sgn (g 105) (g 100 8) p ≤ 57
    · rw [show inB (sgn (g 105) (g 100 8) p) 48 57 = true from decide_eq_true h1, zB_t]
      have fin : ∀ (q : Int), q = p2F (g 105) (g 100 8) p → ∀ (o1 o3 : Option ZV), ZW 2 mX8_readsOrder 79 [some (.inr 100), o1, some (.inl (unO (g 105) (g 100 8) p)), o3, none] [] (PS g k a q true) (fun _ g' => ordP g k a p g') := by
        intro q hq o1 o3
        have hq2 : q = p + 1 ∨ q = p + 2 := by rw [hq]; unfold p2F; split <;> omega
        have hbad : ∀ q2 : Int, okO (g 105) (g 100 8) p = false → atO (g 105) (g 100 8) p = q2 → ordP g k a p (PS g k a q2 false) := by
          intro q2 z1 z2
          unfold ordP
          rw [z1, z2]
          rfl
        refine sg _ q true _ _ (by omega) (by omega) (fun z => Bool.noConfusion z) (fun _ => ⟨fun z => ?_, fun z => ⟨fun z2 => ?_, fun z2 => ⟨fun z3 => ?_, fun z3 => ?_⟩⟩⟩)
        · rw [hq] at z ⊢
          exact hbad _ (decide_eq_false (fun y => by omega)) (by unfold atO; rw [if_neg c12, if_neg (fun y => y h1), if_pos z])
        · rw [hq] at z z2 ⊢
          exact hbad _ (decide_eq_false (fun y => by omega)) (by unfold atO; rw [if_neg c12, if_neg (fun y => y h1), if_neg (fun y => y z), if_pos z2])
        · rw [hq] at z z2 z3 ⊢
          rw [show p2F (g 105) (g 100 8) p + 1 + 1 = p2F (g 105) (g 100 8) p + 2 by omega] at z3 ⊢
          exact hbad _ (decide_eq_false (fun y => by omega)) (by unfold atO; rw [if_neg c12, if_neg (fun y => y h1), if_neg (fun y => y z), if_neg (fun y => y z2), if_pos z3])
        · rw [hq] at z z2 z3 ⊢
          rw [show p2F (g 105) (g 100 8) p + 1 + 1 = p2F (g 105) (g 100 8) p + 2 by omega] at z3 ⊢
          unfold ordP
          rw [show okO (g 105) (g 100 8) p = true from decide_eq_true (Or.inr ⟨h1, z, z2, z3⟩), if_pos rfl]
          have a1 : atO (g 105) (g 100 8) p = p2F (g 105) (g 100 8) p + 3 := by unfold atO; rw [if_neg c12, if_neg (fun y => y h1), if_neg (fun y => y z), if_neg (fun y => y z2), if_neg (fun y => y z3)]
          have a2 : hxO (g 105) (g 100 8) p = 9 * (sgn (g 105) (g 100 8) (p2F (g 105) (g 100 8) p + 2) - 49) + (sgn (g 105) (g 100 8) (p2F (g 105) (g 100 8) p + 1) - 97) := by unfold hxO; rw [if_neg c12]
          have a3 : whO (g 105) (g 100 8) p = if sgn (g 105) (g 100 8) (p2F (g 105) (g 100 8) p) = 33 then 1 else 0 := by unfold whO; rw [if_neg c12]
          rw [a1, a2, a3, show p2F (g 105) (g 100 8) p + 1 + 2 = p2F (g 105) (g 100 8) p + 3 by omega]
      have one : d2B (g 105) (g 100 8) p = false → ∀ (o1 o3 : Option ZV), ZW 2 mX8_readsOrder 77 [some (.inr 100), o1, some (.inl (sgn (g 105) (g 100 8) p - 48)), o3, none] [] (PS g k a (p + 1) true) (fun _ g' => ordP g k a p g') := by
        intro hd o1 o3
        refine ZW.iload_n dX8_readsOrder_77 rfl ?_
        refine ZW.istore_n dX8_readsOrder_78 (by decide) rfl ?_
        have h2 := fin (p + 1) (by unfold p2F; rw [hd]; rfl) o1 o3
        rw [show unO (g 105) (g 100 8) p = sgn (g 105) (g 100 8) p - 48 by unfold unO; rw [if_neg c12, hd]; rfl] at h2
        exact h2
      refine ZW.if_eq (tgt := 77) dX8_readsOrder_41 (by decide) (by first | omega | exact zB_R _) (fun c41 => ?_) (fun c41 => ?_)
      · exact absurd c41 (by decide)
      · refine ZW.iload_n dX8_readsOrder_44 rfl ?_
        refine ZW.iconst dX8_readsOrder_45 ?_
        refine ZW.icmp_ne (tgt := 77) dX8_readsOrder_46 (by decide) (by first | omega | exact zB_R _) (by first | omega | exact zB_R _) (fun c46 => ?_) (fun c46 => ?_)
        · exact one (decide_eq_false (fun y => c46 y.1)) _ _
        · refine ZW.aload_n dX8_readsOrder_49 rfl ?_
          refine ZW.callV (as := []) dX8_readsOrder_50 cv_X8_176 ⟨_, rfl⟩ rfl (by decide) (Nat.le_of_ble_eq_true rfl) rfl (c_X8_sign g ht (by omega)) (fun r1 g1 ⟨e1, e2⟩ => ?_)
          subst e1; subst e2
          refine ZW.bipush dX8_readsOrder_53 rfl ?_
          refine ZW.bipush dX8_readsOrder_55 rfl ?_
          refine ZW.callS (as := [_, _, _]) dX8_readsOrder_57 cs_X8_48 rfl (by decide) (Nat.le_of_ble_eq_true rfl) rfl (c_X8_in _ (by omega) (by decide) (by decide)) (fun r1 g1 ⟨e1, e2⟩ => ?_)
          subst e1; subst e2
          refine ZW.if_eq (tgt := 77) dX8_readsOrder_60 (by decide) (by exact zB_R _) (fun c60 => ?_) (fun c60 => ?_)
          · have e := of_decide_eq_false (zB_eq c60)
            exact one (decide_eq_false (fun y => e y.2)) _ _
          · have e := of_decide_eq_true (zB_ne c60)
            have hd : d2B (g 105) (g 100 8) p = true := decide_eq_true ⟨c46, e⟩
            refine ZW.bipush dX8_readsOrder_63 rfl ?_
            refine ZW.aload_n dX8_readsOrder_65 rfl ?_
            refine ZW.bipush dX8_readsOrder_66 rfl ?_
            refine ZW.bipush dX8_readsOrder_68 rfl ?_
            refine ZW.callV (as := [_, _]) dX8_readsOrder_70 cv_X8_179 ⟨_, rfl⟩ rfl (by decide) (Nat.le_of_ble_eq_true rfl) rfl (c_X8_takes g ht (by omega) (by decide) (by decide)) (fun r1 g1 ⟨e1, e2⟩ => ?_)
            subst e1; subst e2
            rw [show inB (sgn (g 105) (g 100 8) (p + 1)) 48 53 = true from decide_eq_true e, Bool.true_and, zB_t]
            refine ZW.iadd dX8_readsOrder_73 ?_
            refine ZW.goto (tgt := 78) dX8_readsOrder_74 (by decide) ?_
            refine ZW.istore_n dX8_readsOrder_78 (by decide) rfl ?_
            have h2 := fin (p + 1 + 1) (by unfold p2F; rw [hd, if_pos rfl]; omega) (some (.inl 2)) (some (.inl 0))
            rw [show unO (g 105) (g 100 8) p = 10 + (sgn (g 105) (g 100 8) (p + 1) - 48) by unfold unO; rw [if_neg c12, hd]; rfl] at h2
            exact h2
    · rw [show inB (sgn (g 105) (g 100 8) p) 48 57 = false from decide_eq_false h1, zB_f, Int.add_zero]
      refine ZW.if_eq (tgt := 77) dX8_readsOrder_41 (by decide) (by first | omega | exact zB_R _) (fun c41 => ?_) (fun c41 => ?_)
      · refine ZW.iload_n dX8_readsOrder_77 rfl ?_
        refine ZW.istore_n dX8_readsOrder_78 (by decide) rfl ?_
        refine sg _ p false _ _ (by omega) (by omega) (fun _ => ?_) (fun z => Bool.noConfusion z)
        unfold ordP
        rw [show okO (g 105) (g 100 8) p = false from decide_eq_false (fun y => by omega), show atO (g 105) (g 100 8) p = p by unfold atO; rw [if_neg c12, if_pos h1]]
        rfl
      · exact absurd rfl c41
  · refine ZW.aload_n dX8_readsOrder_15 rfl ?_
    refine ZW.dup dX8_readsOrder_16 ?_
    refine ZW.getI (fz := 14) dX8_readsOrder_17 fl_X8_169 ⟨_, rfl, rfl⟩ rfl rfl ?_
    rw [PS_14]
    refine ZW.iconst dX8_readsOrder_20 ?_
    refine ZW.iadd dX8_readsOrder_21 ?_
    refine ZW.puti (fz := 14) dX8_readsOrder_22 fp_X8_169 ⟨_, rfl, rfl⟩ rfl ?_
    rw [PS_s14]
    refine ZW.goto (tgt := 174) dX8_readsOrder_25 (by decide) ?_
    refine endT 2 0 0 (p + 1) _ ?_
    unfold ordP
    rw [show okO (g 105) (g 100 8) p = true from decide_eq_true (Or.inl c12), if_pos rfl]
    have a1 : atO (g 105) (g 100 8) p = p + 1 := by unfold atO; rw [if_pos c12]
    have a2 : hxO (g 105) (g 100 8) p = 0 := by unfold hxO; rw [if_pos c12]
    have a3 : whO (g 105) (g 100 8) p = 2 := by unfold whO; rw [if_pos c12]
    have a4 : unO (g 105) (g 100 8) p = 0 := by unfold unO; rw [if_pos c12]
    rw [a1, a2, a3, a4]
