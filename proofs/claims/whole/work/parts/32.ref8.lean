-- the reference: a text is read, orders are done
abbrev ZO : Type := Int × Int × Int
def resF (t : Int → Int) (L : Int) : Nat → Int → Int
  | 0, _ => 0
  | n + 1, p => if okO t L p = true then (if atO t L p < L then (if t (atO t L p) = 59 then resF t L n (atO t L p + 1) else atO t L p) else -5) else atO t L p
def ordL (t : Int → Int) (L : Int) : Nat → Int → List ZO
  | 0, _ => []
  | n + 1, p => if okO t L p = true then (whO t L p, unO t L p, hxO t L p) :: (if atO t L p < L ∧ t (atO t L p) = 59 then ordL t L n (atO t L p + 1) else []) else []
theorem resF_s (t : Int → Int) (L : Int) (n : Nat) (p : Int) : resF t L (n + 1) p = if okO t L p = true then (if atO t L p < L then (if t (atO t L p) = 59 then resF t L n (atO t L p + 1) else atO t L p) else -5) else atO t L p := rfl
theorem ordL_s (t : Int → Int) (L : Int) (n : Nat) (p : Int) : ordL t L (n + 1) p = if okO t L p = true then (whO t L p, unO t L p, hxO t L p) :: (if atO t L p < L ∧ t (atO t L p) = 59 then ordL t L n (atO t L p + 1) else []) else [] := rfl
theorem okO_lt {t : Int → Int} {L p : Int} (h : okO t L p = true) : p < L ∧ p + 1 ≤ atO t L p ∧ atO t L p ≤ L := by
  have h1 := of_decide_eq_true h
  have hp : p < L := sgn_lt (t := t) (fun q => by rw [q] at h1; omega)
  have h2 : p2F t L p = p + 1 ∨ p2F t L p = p + 2 := by unfold p2F; split <;> omega
  refine ⟨hp, ?_, ?_⟩
  · unfold atO
    (repeat' split) <;> omega
  · unfold atO
    split
    · omega
    · next hq =>
      have h3 := h1.resolve_left hq
      have h4 : p2F t L p + 2 < L := sgn_lt (t := t) (fun q => by rw [q] at h3; omega)
      (repeat' split) <;> omega
theorem atO_R (t : Int → Int) (L p : Int) : p ≤ atO t L p ∧ atO t L p ≤ p + 5 := by
  have h2 : p2F t L p = p + 1 ∨ p2F t L p = p + 2 := by unfold p2F; split <;> omega
  unfold atO
  (repeat' split) <;> omega
theorem ordO_R {t : Int → Int} {L p : Int} (h : okO t L p = true) : (0 ≤ whO t L p ∧ whO t L p ≤ 2) ∧ (0 ≤ unO t L p ∧ unO t L p < 16) ∧ 0 ≤ hxO t L p ∧ hxO t L p < 63 := by
  have h1 := of_decide_eq_true h
  refine ⟨?_, ?_, ?_⟩
  · unfold whO; (repeat' split) <;> omega
  · unfold unO
    split
    · omega
    · next hq =>
      have h3 := h1.resolve_left hq
      split
      · next hd => have h4 := of_decide_eq_true hd; omega
      · omega
  · unfold hxO
    split
    · omega
    · next hq =>
      have h3 := h1.resolve_left hq
      omega
def zoP (o : ZO) : Prop := (0 ≤ o.1 ∧ o.1 ≤ 2) ∧ (0 ≤ o.2.1 ∧ o.2.1 < 16) ∧ 0 ≤ o.2.2 ∧ o.2.2 < 63
theorem ordL_R {t : Int → Int} {L : Int} : ∀ {n : Nat} {p : Int}, ∀ o ∈ ordL t L n p, zoP o
  | 0, _, o, h => by cases h
  | n + 1, p, o, h => by
    unfold ordL at h
    split at h
    · next hk =>
      rcases List.mem_cons.mp h with q | q
      · rw [q]; exact ordO_R hk
      · split at q
        · exact ordL_R o q
        · cases q
    · cases h
def rowO (a : Int → Int) (l : List ZO) : Prop := ∀ (j : Nat) (o : ZO), l[j]? = some o → a (3 * (j : Int)) = o.1 ∧ a (3 * (j : Int) + 1) = o.2.1 ∧ a (3 * (j : Int) + 2) = o.2.2
theorem rowO_add {a : Int → Int} {l : List ZO} {k w u x : Int} (h : rowO a l) (hk : (l.length : Int) = k) : rowO (addO a k w u x) (l ++ [(w, u, x)]) := by
  intro j o hj
  rw [List.getElem?_append] at hj
  unfold addO
  split at hj
  · next hlt =>
    rw [zUp_ne _ _ (by omega), zUp_ne _ _ (by omega), zUp_ne _ _ (by omega), zUp_ne _ _ (by omega), zUp_ne _ _ (by omega), zUp_ne _ _ (by omega), zUp_ne _ _ (by omega), zUp_ne _ _ (by omega), zUp_ne _ _ (by omega)]
    exact h j o hj
  · next hge =>
    have hjk : j = l.length := by
      have h1 := (List.getElem?_eq_some_iff.mp hj).1
      simp at h1
      omega
    subst hjk
    rw [Nat.sub_self] at hj
    have ho : (w, u, x) = o := Option.some.inj hj
    subst ho
    rw [hk]
    refine ⟨?_, ?_, ?_⟩
    · rw [zUp_ne _ _ (by omega), zUp_ne _ _ (by omega), zUp_same]
    · rw [zUp_ne _ _ (by omega), zUp_same]
    · rw [zUp_same]
def readP (g g' : ZH) (r : Int) : Prop := r = resF (g 105) (g 100 8) 61 0 ∧ -5 ≤ r ∧ r ≤ 70 ∧ ∃ k a p w, g' = PS g k a p w ∧ (r = -5 → ∃ l, l = ordL (g 105) (g 100 8) 61 0 ∧ (l.length : Int) = k ∧ k ≤ 31 ∧ rowO a l)
set_option maxHeartbeats 1000000 in
theorem c_X8_reads (g : ZH) (ht : txP (g 105) (g 100 8)) : ZC 3 mX8_reads [.inr 100] g (fun r g' => readP g g' r) := by
  have hL := ht.1
  have hL2 := ht.2.1
  refine ZC.of (by decide +kernel) (Nat.le_of_ble_eq_true rfl) ?_
  -- at the loop's head, the order at p having just been read
  have head : ∀ (n : Nat) (k p : Int) (a : Int → Int) (l : List ZO) (g1 : ZH), 0 ≤ p → p ≤ 60 → k + n = 60 → 2 * k ≤ p → rowO a l → (l.length : Int) = k → ordL (g 105) (g 100 8) 61 0 = l ++ ordL (g 105) (g 100 8) (n + 1) p → resF (g 105) (g 100 8) 61 0 = resF (g 105) (g 100 8) (n + 1) p → ordP g k a p g1 → ZW 3 mX8_reads 19 [some (.inr 100)] [] g1 (fun r g' => readP g g' r) := by
    intro n
    induction n with
    | zero => intro k p a l g1 p0 p1 hk hkp hr hl ho hrs hg; omega
    | succ n ih =>
      intro k p a l g1 p0 p1 hk hkp hr hl ho hrs hg
      unfold ordP at hg
      have hat := atO_R (g 105) (g 100 8) p
      by_cases hok : okO (g 105) (g 100 8) p = true
      · rw [if_pos hok] at hg
        subst hg
        have hlt := okO_lt hok
        have hR := ordO_R hok
        have hr2 := rowO_add (w := whO (g 105) (g 100 8) p) (u := unO (g 105) (g 100 8) p) (x := hxO (g 105) (g 100 8) p) hr hl
        rw [ordL_s (g 105) (g 100 8) (n + 1) p, if_pos hok] at ho
        rw [resF_s (g 105) (g 100 8) (n + 1) p, if_pos hok] at hrs
        refine ZW.aload_n dX8_reads_19 rfl ?_
        refine ZW.getI (fz := 15) dX8_reads_20 fl_X8_172 ⟨_, rfl, rfl⟩ rfl rfl ?_
        rw [PS_15]
        refine ZW.if_eq (tgt := 60) dX8_reads_23 (by decide) (by first | omega | exact zB_R _) (fun c23 => ?_) (fun c23 => ?_)
        · exact absurd c23 (by decide)
        · refine ZW.aload_n dX8_reads_26 rfl ?_
          refine ZW.getI (fz := 14) dX8_reads_27 fl_X8_169 ⟨_, rfl, rfl⟩ rfl rfl ?_
          refine ZW.aload_n dX8_reads_30 rfl ?_
          refine ZW.getI (fz := 8) dX8_reads_31 fl_X8_166 ⟨_, rfl, rfl⟩ rfl rfl ?_
          rw [PS_14, PS_8]
          refine ZW.icmp_ge (tgt := 60) dX8_reads_34 (by decide) (by first | omega | exact zB_R _) (by first | omega | exact zB_R _) (fun c34 => ?_) (fun c34 => ?_)
          · rw [if_neg (by omega)] at ho hrs
            refine ZW.aload_n dX8_reads_60 rfl ?_
            refine ZW.getI (fz := 15) dX8_reads_61 fl_X8_172 ⟨_, rfl, rfl⟩ rfl rfl ?_
            rw [PS_15]
            refine ZW.if_eq (tgt := 72) dX8_reads_64 (by decide) (by first | omega | exact zB_R _) (fun c64 => ?_) (fun c64 => ?_)
            · exact absurd c64 (by decide)
            · refine ZW.bipush dX8_reads_67 rfl ?_
              refine ZW.goto (tgt := 76) dX8_reads_69 (by decide) ?_
              refine ZW.ireti dX8_reads_76 rfl ?_
              refine ⟨hrs.symm, by omega, by omega, _, _, _, _, rfl, fun _ => ⟨_, rfl, ?_, by omega, ?_⟩⟩
              · rw [ho]
                simp
                omega
              · rw [ho]
                exact hr2
          · rw [if_pos c34] at hrs
            have hsg := sgn_R ht (p := atO (g 105) (g 100 8) p) (by omega)
            have hsE : sgn (g 105) (g 100 8) (atO (g 105) (g 100 8) p) = g 105 (atO (g 105) (g 100 8) p) := by unfold sgn; rw [if_pos c34]
            refine ZW.aload_n dX8_reads_37 rfl ?_
            refine ZW.bipush dX8_reads_38 rfl ?_
            refine ZW.bipush dX8_reads_40 rfl ?_
            refine ZW.callV (as := [_, _]) dX8_reads_42 cv_X8_179 ⟨_, rfl⟩ rfl (by decide) (Nat.le_of_ble_eq_true rfl) rfl (c_X8_takes g ht (by omega) (by decide) (by decide)) (fun r1 g2 ⟨e1, e2⟩ => ?_)
            subst e1; subst e2
            rw [Bool.true_and, hsE]
            refine ZW.pop dX8_reads_45 ?_
            refine ZW.aload_n dX8_reads_46 rfl ?_
            refine ZW.getI (fz := 15) dX8_reads_47 fl_X8_172 ⟨_, rfl, rfl⟩ rfl rfl ?_
            rw [PS_15]
            by_cases h59 : g 105 (atO (g 105) (g 100 8) p) = 59
            · rw [show inB (g 105 (atO (g 105) (g 100 8) p)) 59 59 = true from decide_eq_true (by omega), zB_t]
              rw [if_pos h59] at hrs
              rw [if_pos ⟨c34, h59⟩] at ho
              refine ZW.if_eq (tgt := 19) dX8_reads_50 (by decide) (by first | omega | exact zB_R _) (fun c50 => ?_) (fun c50 => ?_)
              · exact absurd c50 (by decide)
              · refine ZW.aload_n dX8_reads_53 rfl ?_
                refine ZW.callVv (as := []) dX8_reads_54 cv_X8_185 ⟨_, rfl⟩ rfl (by decide) (Nat.le_of_ble_eq_true rfl) rfl (fun _ _ hz _ => hz) (c_X8_readsOrder g ht (by omega) (by omega)) (fun g3 q1 => ?_)
                refine ZW.goto (tgt := 19) dX8_reads_57 (by decide) ?_
                refine ih (k + 1) (atO (g 105) (g 100 8) p + 1) _ (l ++ [(whO (g 105) (g 100 8) p, unO (g 105) (g 100 8) p, hxO (g 105) (g 100 8) p)]) g3 (by omega) (by omega) (by omega) (by omega) hr2 (by simp; omega) ?_ hrs q1
                rw [ho, List.append_assoc]
                rfl
            · rw [show inB (g 105 (atO (g 105) (g 100 8) p)) 59 59 = false from decide_eq_false (by omega), zB_f, Int.add_zero]
              rw [if_neg h59] at hrs
              refine ZW.if_eq (tgt := 19) dX8_reads_50 (by decide) (by first | omega | exact zB_R _) (fun c50 => ?_) (fun c50 => ?_)
              · refine ZW.aload_n dX8_reads_19 rfl ?_
                refine ZW.getI (fz := 15) dX8_reads_20 fl_X8_172 ⟨_, rfl, rfl⟩ rfl rfl ?_
                rw [PS_15]
                refine ZW.if_eq (tgt := 60) dX8_reads_23 (by decide) (by first | omega | exact zB_R _) (fun c23 => ?_) (fun c23 => ?_)
                · refine ZW.aload_n dX8_reads_60 rfl ?_
                  refine ZW.getI (fz := 15) dX8_reads_61 fl_X8_172 ⟨_, rfl, rfl⟩ rfl rfl ?_
                  rw [PS_15]
                  refine ZW.if_eq (tgt := 72) dX8_reads_64 (by decide) (by first | omega | exact zB_R _) (fun c64 => ?_) (fun c64 => ?_)
                  · refine ZW.aload_n dX8_reads_72 rfl ?_
                    refine ZW.getI (fz := 14) dX8_reads_73 fl_X8_169 ⟨_, rfl, rfl⟩ rfl rfl ?_
                    rw [PS_14]
                    refine ZW.ireti dX8_reads_76 rfl ?_
                    exact ⟨hrs.symm, by omega, by omega, _, _, _, _, rfl, fun q => by omega⟩
                  · exact absurd rfl c64
                · exact absurd rfl c23
              · exact absurd rfl c50
      · rw [if_neg hok] at hg
        subst hg
        rw [resF_s (g 105) (g 100 8) (n + 1) p, if_neg hok] at hrs
        refine ZW.aload_n dX8_reads_19 rfl ?_
        refine ZW.getI (fz := 15) dX8_reads_20 fl_X8_172 ⟨_, rfl, rfl⟩ rfl rfl ?_
        rw [PS_15]
        refine ZW.if_eq (tgt := 60) dX8_reads_23 (by decide) (by first | omega | exact zB_R _) (fun c23 => ?_) (fun c23 => ?_)
        · refine ZW.aload_n dX8_reads_60 rfl ?_
          refine ZW.getI (fz := 15) dX8_reads_61 fl_X8_172 ⟨_, rfl, rfl⟩ rfl rfl ?_
          rw [PS_15]
          refine ZW.if_eq (tgt := 72) dX8_reads_64 (by decide) (by first | omega | exact zB_R _) (fun c64 => ?_) (fun c64 => ?_)
          · refine ZW.aload_n dX8_reads_72 rfl ?_
            refine ZW.getI (fz := 14) dX8_reads_73 fl_X8_169 ⟨_, rfl, rfl⟩ rfl rfl ?_
            rw [PS_14]
            refine ZW.ireti dX8_reads_76 rfl ?_
            exact ⟨hrs.symm, by omega, by omega, _, _, _, _, rfl, fun q => by omega⟩
          · exact absurd rfl c64
        · exact absurd rfl c23
  have h0 : zSet (zSet (zSet g 100 14 0) 100 15 1) 100 17 0 = PS g 0 (g 111) 0 true := by
    funext j i
    unfold zSet zUp PS
    by_cases hj : j = 100
    · subst hj
      by_cases h1 : i = 14
      · subst h1; simp
      · by_cases h2 : i = 15
        · subst h2; simp [zB]
        · by_cases h3 : i = 17
          · subst h3; simp
          · simp [h1, h2, h3]
    · by_cases hj2 : j = 111
      · subst hj2; simp
      · simp [hj, hj2]
  refine ZW.aload_n dX8_reads_0 rfl ?_
  refine ZW.iconst dX8_reads_1 ?_
  refine ZW.puti (fz := 14) dX8_reads_2 fp_X8_169 ⟨_, rfl, rfl⟩ rfl ?_
  refine ZW.aload_n dX8_reads_5 rfl ?_
  refine ZW.iconst dX8_reads_6 ?_
  refine ZW.putz (fz := 15) dX8_reads_7 fp_X8_172 ⟨_, rfl, rfl⟩ rfl (by first | exact Or.inl rfl | exact Or.inr rfl | assumption | omega) ?_
  refine ZW.aload_n dX8_reads_10 rfl ?_
  refine ZW.iconst dX8_reads_11 ?_
  refine ZW.puti (fz := 17) dX8_reads_12 fp_X8_182 ⟨_, rfl, rfl⟩ rfl ?_
  rw [h0]
  refine ZW.aload_n dX8_reads_15 rfl ?_
  refine ZW.callVv (as := []) dX8_reads_16 cv_X8_185 ⟨_, rfl⟩ rfl (by decide) (Nat.le_of_ble_eq_true rfl) rfl (fun _ _ hz _ => hz) (c_X8_readsOrder g ht (by omega) (by omega)) (fun g3 q1 => ?_)
  exact head 60 0 0 _ [] g3 (by omega) (by omega) (by omega) (by omega) (fun j o hj => by cases hj) rfl rfl rfl q1
-- one order
def okT (r : Int → Int) : Prop := (∀ u, 0 ≤ u → u < 16 → ofF r u 5 ≤ r 191) ∧ r 191 ≤ 999
def okS (r : Int → Int) : Prop := okB r ∧ okU r ∧ okT r
noncomputable def rawF (r : Int → Int) (o : ZO) : Int := if o.1 = 0 then refMF r o.2.1 o.2.2 else if o.1 = 1 then refAF r o.2.1 o.2.2 else if r 191 = 999 then -3 else 0
noncomputable def doR (r : Int → Int) (o : ZO) : Int := if rawF r o = -5 then 0 else rawF r o
noncomputable def doS (r : Int → Int) (o : ZO) : Int → Int := if rawF r o = 0 then (if o.1 = 0 then movesF r o.2.1 o.2.2 else if o.1 = 1 then fightsF r o.2.1 o.2.2 else endsF r) else r
theorem refMF_R (r : Int → Int) (u x : Int) : -5 ≤ refMF r u x ∧ refMF r u x ≤ 0 := by
  unfold refMF
  (repeat' split) <;> omega
theorem refMF_0 {r : Int → Int} {u x : Int} (h : refMF r u x = 0) : isUnitB r u = true ∧ isHexB x = true ∧ ofF r u 0 = r 191 % 2 ∧ ofF r u 2 ≠ x ∧ wayF r u x ≤ ofF r u 3 ∧ unitOnF r x = -5 := by
  unfold refMF at h
  split at h
  · next h1 =>
    rw [Bool.and_eq_true] at h1
    split at h
    · next h2 =>
      split at h
      · exact absurd h (by decide)
      · next h3 =>
        split at h
        · next h4 => exact ⟨h1.1, h1.2, h2, h3, h4.1, h4.2⟩
        · exact absurd h (by decide)
    · exact absurd h (by decide)
  · exact absurd h (by decide)
theorem refAF_R (r : Int → Int) (u x : Int) : -5 < refAF r u x ∧ refAF r u x ≤ 0 := by
  unfold refAF
  (repeat' split) <;> omega
theorem refAF_0 {r : Int → Int} {u x : Int} (h : refAF r u x = 0) : isUnitB r u = true ∧ isHexB x = true ∧ ofF r u 0 = r 191 % 2 ∧ ofF r u 4 = 1 ∧ canF r u x = true := by
  unfold refAF at h
  split at h
  · next h1 =>
    rw [Bool.and_eq_true] at h1
    split at h
    · next h2 => exact ⟨h1.1, h1.2, h2⟩
    · exact absurd h (by decide)
  · exact absurd h (by decide)
theorem rawF_R (r : Int → Int) (o : ZO) : -5 ≤ rawF r o ∧ rawF r o ≤ 0 := by
  have h1 := refMF_R r o.2.1 o.2.2
  have h2 := refAF_R r o.2.1 o.2.2
  unfold rawF
  (repeat' split) <;> omega
def S5 : List Nat := [106, 107, 108, 109, 110]
set_option maxHeartbeats 1000000 in
theorem c_X8_does (g : ZH) (hS : okS (g 101)) {j : Int} {o : ZO} (hj : 0 ≤ j ∧ j < 32) (ho : zoP o) (h0 : g 111 (3 * j) = o.1) (h1 : g 111 (3 * j + 1) = o.2.1) (h2 : g 111 (3 * j + 2) = o.2.2) : ZC 9 mX8_does [.inr 100, .inl j] g (fun r g' => r = doR (g 101) o ∧ zFr S5 (zRow g 101 (doS (g 101) o)) g') := by
  obtain ⟨hk, hU, hT⟩ := hS
  obtain ⟨w, u, x⟩ := o
  obtain ⟨hw, hu, hx⟩ := ho
  dsimp only at h0 h1 h2 hw hu hx
  have h191 := hk.1 191 (by decide) (by decide)
  have hrm := refMF_R (g 101) u x
  have hra := refAF_R (g 101) u x
  refine ZC.of (by decide +kernel) (Nat.le_of_ble_eq_true rfl) ?_
  have endT : ∀ (f : Int) (g1 : ZH), f = rawF (g 101) (w, u, x) → zFr S5 (zRow g 101 (doS (g 101) (w, u, x))) g1 → ZW 9 mX8_does 120 [some (.inr 100), some (.inl j), some (.inl u), some (.inl x), some (.inl f)] [] g1 (fun r g' => r = doR (g 101) (w, u, x) ∧ zFr S5 (zRow g 101 (doS (g 101) (w, u, x))) g') := by
    intro f g1 hf hg
    have hfr := rawF_R (g 101) (w, u, x)
    rw [← hf] at hfr
    refine ZW.iload dX8_does_120 rfl ?_
    refine ZW.bipush dX8_does_122 rfl ?_
    refine ZW.icmp_ne (tgt := 131) dX8_does_124 (by decide) (by first | omega | exact zB_R _) (by first | omega | exact zB_R _) (fun c124 => ?_) (fun c124 => ?_)
    · refine ZW.iload dX8_does_131 rfl ?_
      refine ZW.ireti dX8_does_133 rfl ?_
      exact ⟨by unfold doR; rw [← hf, if_neg c124], hg⟩
    · refine ZW.iconst dX8_does_127 ?_
      refine ZW.goto (tgt := 133) dX8_does_128 (by decide) ?_
      refine ZW.ireti dX8_does_133 rfl ?_
      exact ⟨by unfold doR; rw [← hf, if_pos c124], hg⟩
  refine ZW.aload_n dX8_does_0 rfl ?_
  refine ZW.getR dX8_does_1 fl_X8_41 ⟨_, rfl, rfl⟩ ?_
  refine ZW.iconst dX8_does_4 ?_
  refine ZW.iload_n dX8_does_5 rfl ?_
  refine ZW.imul dX8_does_6 ?_
  refine ZW.iconst dX8_does_7 ?_
  refine ZW.iadd dX8_does_8 ?_
  refine ZW.iald dX8_does_9 rfl (by decide) (by omega) rfl ?_
  rw [h1]
  refine ZW.istore_n dX8_does_10 (by decide) rfl ?_
  refine ZW.aload_n dX8_does_11 rfl ?_
  refine ZW.getR dX8_does_12 fl_X8_41 ⟨_, rfl, rfl⟩ ?_
  refine ZW.iconst dX8_does_15 ?_
  refine ZW.iload_n dX8_does_16 rfl ?_
  refine ZW.imul dX8_does_17 ?_
  refine ZW.iconst dX8_does_18 ?_
  refine ZW.iadd dX8_does_19 ?_
  refine ZW.iald dX8_does_20 rfl (by decide) (by omega) rfl ?_
  rw [h2]
  refine ZW.istore_n dX8_does_21 (by decide) rfl ?_
  refine ZW.iconst dX8_does_22 ?_
  refine ZW.istore dX8_does_23 (by decide) rfl ?_
  refine ZW.aload_n dX8_does_25 rfl ?_
  refine ZW.getR dX8_does_26 fl_X8_41 ⟨_, rfl, rfl⟩ ?_
  refine ZW.iconst dX8_does_29 ?_
  refine ZW.iload_n dX8_does_30 rfl ?_
  refine ZW.imul dX8_does_31 ?_
  refine ZW.iald dX8_does_32 rfl (by decide) (by omega) rfl ?_
  rw [h0]
  refine ZW.if_ne (tgt := 59) dX8_does_33 (by decide) (by first | omega | exact zB_R _) (fun c33 => ?_) (fun c33 => ?_)
  · refine ZW.aload_n dX8_does_59 rfl ?_
    refine ZW.getR dX8_does_60 fl_X8_41 ⟨_, rfl, rfl⟩ ?_
    refine ZW.iconst dX8_does_63 ?_
    refine ZW.iload_n dX8_does_64 rfl ?_
    refine ZW.imul dX8_does_65 ?_
    refine ZW.iald dX8_does_66 rfl (by decide) (by omega) rfl ?_
    refine ZW.iconst dX8_does_67 ?_
    rw [h0]
    refine ZW.icmp_ne (tgt := 94) dX8_does_68 (by decide) (by first | omega | exact zB_R _) (by first | omega | exact zB_R _) (fun c68 => ?_) (fun c68 => ?_)
    · refine ZW.aload_n dX8_does_94 rfl ?_
      refine ZW.getR dX8_does_95 fl_X8_7 ⟨_, rfl, rfl⟩ ?_
      refine ZW.sipush dX8_does_98 rfl ?_
      refine ZW.iald dX8_does_101 rfl (by decide) (by omega) rfl ?_
      refine ZW.sipush dX8_does_102 rfl ?_
      refine ZW.icmp_ne (tgt := 115) dX8_does_105 (by decide) (by first | omega | exact zB_R _) (by first | omega | exact zB_R _) (fun c105 => ?_) (fun c105 => ?_)
      · refine ZW.aload_n dX8_does_115 rfl ?_
        refine ZW.callV (as := []) dX8_does_116 cv_X8_163 ⟨_, rfl⟩ rfl (by decide) (Nat.le_of_ble_eq_true rfl) rfl (c_X8_ends _ hk hU) (fun r1 g1 ⟨q1, f1⟩ => ?_)
        subst q1
        refine ZW.pop dX8_does_119 ?_
        have hraw : rawF (g 101) (w, u, x) = 0 := by unfold rawF; rw [if_neg c33, if_neg c68, if_neg c105]
        refine endT 0 g1 hraw.symm ?_
        unfold doS
        rw [if_pos hraw, if_neg c33, if_neg c68]
        exact f1.up (by decide)
      · refine ZW.bipush dX8_does_108 rfl ?_
        refine ZW.istore dX8_does_110 (by decide) rfl ?_
        refine ZW.goto (tgt := 120) dX8_does_112 (by decide) ?_
        have hraw : rawF (g 101) (w, u, x) = -3 := by unfold rawF; rw [if_neg c33, if_neg c68, if_pos c105]
        refine endT (-3) _ hraw.symm ?_
        unfold doS
        rw [if_neg (by omega), zRow_self]
        exact zFr.rf _ _
    · have hraw : rawF (g 101) (w, u, x) = refAF (g 101) u x := by unfold rawF; rw [if_neg c33, if_pos c68]
      refine ZW.aload_n dX8_does_71 rfl ?_
      refine ZW.iload_n dX8_does_72 rfl ?_
      refine ZW.iload_n dX8_does_73 rfl ?_
      refine ZW.callV (as := [_, _]) dX8_does_74 cv_X8_157 ⟨_, rfl⟩ rfl (by decide) (Nat.le_of_ble_eq_true rfl) rfl (c_X8_refusesAttack _ hk hU (by omega) (by omega)) (fun r1 g1 ⟨q1, q2⟩ => ?_)
      subst q1; subst q2
      refine ZW.istore dX8_does_77 (by decide) rfl ?_
      refine ZW.iload dX8_does_79 rfl ?_
      refine ZW.if_ne (tgt := 120) dX8_does_81 (by decide) (by first | omega | exact zB_R _) (fun c81 => ?_) (fun c81 => ?_)
      · refine endT _ _ hraw.symm ?_
        unfold doS
        rw [if_neg (by omega), zRow_self]
        exact zFr.rf _ _
      · have h3 := refAF_0 c81
        refine ZW.aload_n dX8_does_84 rfl ?_
        refine ZW.iload_n dX8_does_85 rfl ?_
        refine ZW.iload_n dX8_does_86 rfl ?_
        refine ZW.callV (as := [_, _]) dX8_does_87 cv_X8_160 ⟨_, rfl⟩ rfl (by decide) (Nat.le_of_ble_eq_true rfl) rfl (c_X8_fights _ hk hU hu hx h3.2.2.2.2) (fun r1 g2 ⟨q1, f2⟩ => ?_)
        subst q1
        refine ZW.pop dX8_does_90 ?_
        refine ZW.goto (tgt := 120) dX8_does_91 (by decide) ?_
        refine endT _ _ hraw.symm ?_
        unfold doS
        rw [if_pos (by omega), if_neg c33, if_pos c68]
        exact f2.up (by decide)
  · have hraw : rawF (g 101) (w, u, x) = refMF (g 101) u x := by unfold rawF; rw [if_pos c33]
    refine ZW.aload_n dX8_does_36 rfl ?_
    refine ZW.iload_n dX8_does_37 rfl ?_
    refine ZW.iload_n dX8_does_38 rfl ?_
    refine ZW.callV (as := [_, _]) dX8_does_39 cv_X8_148 ⟨_, rfl⟩ rfl (by decide) (Nat.le_of_ble_eq_true rfl) rfl (c_X8_refusesMove _ hk hU (by omega) (by omega)) (fun r1 g1 ⟨q1, f1, w1⟩ => ?_)
    subst q1
    have e1 : g1 101 = g 101 := f1 101 (by decide)
    refine ZW.istore dX8_does_42 (by decide) rfl ?_
    refine ZW.iload dX8_does_44 rfl ?_
    refine ZW.if_ne (tgt := 120) dX8_does_46 (by decide) (by first | omega | exact zB_R _) (fun c46 => ?_) (fun c46 => ?_)
    · refine endT _ _ hraw.symm ?_
      unfold doS
      rw [if_neg (by omega), zRow_self]
      exact f1.up (by decide)
    · have h3 := refMF_0 c46
      refine ZW.aload_n dX8_does_49 rfl ?_
      refine ZW.iload_n dX8_does_50 rfl ?_
      refine ZW.iload_n dX8_does_51 rfl ?_
      refine ZW.callV (as := [_, _]) dX8_does_52 cv_X8_151 ⟨_, rfl⟩ rfl (by decide) (Nat.le_of_ble_eq_true rfl) rfl (c_X8_moves _ (e1 ▸ hk) hu hx (by rw [e1]; exact w1 c46 x hx.1 hx.2) (by rw [e1]; exact h3.2.2.2.2.1)) (fun r1 g2 ⟨q1, q2⟩ => ?_)
      subst q1; subst q2
      rw [e1]
      refine ZW.pop dX8_does_55 ?_
      refine ZW.goto (tgt := 120) dX8_does_56 (by decide) ?_
      refine endT _ _ hraw.symm ?_
      unfold doS
      rw [if_pos (by omega), if_pos c33]
      exact (((f1.st 101).lay _)).up (by decide)
