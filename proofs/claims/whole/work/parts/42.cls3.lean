-- rivers, counted by bits at both of their hexes
def andF (a b : Int) : Int := ((a.toNat &&& b.toNat : Nat) : Int)
theorem iI_and {a b : Int} (ha : 0 ≤ a) (hb : 0 ≤ b) : iI a &&& iI b = iI (andF a b) := by
  obtain ⟨m, rfl⟩ := Int.eq_ofNat_of_zero_le ha
  obtain ⟨n, rfl⟩ := Int.eq_ofNat_of_zero_le hb
  show nI m &&& nI n = nI (m &&& n)
  apply Int32.toBitVec_inj.1
  show BitVec.ofNat 32 m &&& BitVec.ofNat 32 n = BitVec.ofNat 32 (m &&& n)
  apply BitVec.eq_of_getLsbD_eq
  intro i hi
  simp [hi]
theorem andF_0 (a b : Int) : 0 ≤ andF a b := Int.natCast_nonneg _
def bc1 (v : Int) : Int := v - andF (v / 2) 1431655765
def bc2 (v : Int) : Int := andF (bc1 v) 858993459 + andF (bc1 v / 4) 858993459
def bc3 (v : Int) : Int := andF (bc2 v + bc2 v / 16) 252645135
def bc5 (v : Int) : Int := bc3 v + bc3 v / 256 + (bc3 v + bc3 v / 256) / 65536
def popF (v : Int) : Int := cntF (fun d => zB (bitB v d)) 6 0
theorem bc_all : nAll 64 (fun v => decide (0 ≤ bc1 v ∧ bc1 v < 1000 ∧ 0 ≤ bc2 v ∧ bc2 v < 1000 ∧ 0 ≤ bc3 v ∧ bc3 v < 1000 ∧ andF (bc5 v) 63 = popF v)) = true := by decide +kernel
theorem c_J6_bitCount (g : ZH) {v : Int} (hv : 0 ≤ v ∧ v < 64) : ZC 0 mJ6_bitCount_0f7a4 [.inl v] g (fun r g' => r = popF v ∧ g' = g) := by
  obtain ⟨h1, h1b, h2, h2b, h3, h3b, h4⟩ := of_decide_eq_true (nAll_at bc_all hv.1 hv.2)
  have ush : ∀ (a : Int), 0 ≤ a → a < 2147483648 → (((iI a).toUInt32 >>> ((iI 1).toUInt32 &&& Int32.toUInt32 31)).toInt32 = iI (a / 2)) ∧ (((iI a).toUInt32 >>> ((iI 2).toUInt32 &&& Int32.toUInt32 31)).toInt32 = iI (a / 4)) ∧ (((iI a).toUInt32 >>> ((iI 4).toUInt32 &&& Int32.toUInt32 31)).toInt32 = iI (a / 16)) ∧ (((iI a).toUInt32 >>> ((iI 8).toUInt32 &&& Int32.toUInt32 31)).toInt32 = iI (a / 256)) ∧ (((iI a).toUInt32 >>> ((iI 16).toUInt32 &&& Int32.toUInt32 31)).toInt32 = iI (a / 65536)) := by
    intro a a0 a1
    obtain ⟨n, rfl⟩ := Int.eq_ofNat_of_zero_le a0
    exact ⟨pk_ushrN (by omega) _ 1 (by decide), pk_ushrN (by omega) _ 2 (by decide), pk_ushrN (by omega) _ 4 (by decide), pk_ushrN (by omega) _ 8 (by decide), pk_ushrN (by omega) _ 16 (by decide)⟩
  refine ZC.of (by decide +kernel) (Nat.le_of_ble_eq_true rfl) ?_
  refine ZW.iload_n dJ6_bitCount_0f7a4_0 rfl ?_
  refine ZW.iload_n dJ6_bitCount_0f7a4_1 rfl ?_
  refine ZW.iconst dJ6_bitCount_0f7a4_2 ?_
  refine ZW.iushr dJ6_bitCount_0f7a4_3 (ush v (by omega) (by omega)).1 ?_
  refine ZW.ldcw (n := 1431655765) dJ6_bitCount_0f7a4_4 (mmW_2 75 rfl rfl) rfl ?_
  refine ZW.iand dJ6_bitCount_0f7a4_7 (iI_and (by omega) (by decide)) ?_
  refine ZW.isub dJ6_bitCount_0f7a4_8 ?_
  rw [show v - andF (v / 2) 1431655765 = bc1 v from rfl]
  refine ZW.istore_n dJ6_bitCount_0f7a4_9 (by decide) rfl ?_
  refine ZW.iload_n dJ6_bitCount_0f7a4_10 rfl ?_
  refine ZW.ldcw (n := 858993459) dJ6_bitCount_0f7a4_11 (mmW_2 76 rfl rfl) rfl ?_
  refine ZW.iand dJ6_bitCount_0f7a4_14 (iI_and (by omega) (by decide)) ?_
  refine ZW.iload_n dJ6_bitCount_0f7a4_15 rfl ?_
  refine ZW.iconst dJ6_bitCount_0f7a4_16 ?_
  refine ZW.iushr dJ6_bitCount_0f7a4_17 (ush (bc1 v) (by omega) (by omega)).2.1 ?_
  refine ZW.ldcw (n := 858993459) dJ6_bitCount_0f7a4_18 (mmW_2 76 rfl rfl) rfl ?_
  refine ZW.iand dJ6_bitCount_0f7a4_21 (iI_and (by omega) (by decide)) ?_
  refine ZW.iadd dJ6_bitCount_0f7a4_22 ?_
  rw [show andF (bc1 v) 858993459 + andF (bc1 v / 4) 858993459 = bc2 v from rfl]
  refine ZW.istore_n dJ6_bitCount_0f7a4_23 (by decide) rfl ?_
  refine ZW.iload_n dJ6_bitCount_0f7a4_24 rfl ?_
  refine ZW.iload_n dJ6_bitCount_0f7a4_25 rfl ?_
  refine ZW.iconst dJ6_bitCount_0f7a4_26 ?_
  refine ZW.iushr dJ6_bitCount_0f7a4_27 (ush (bc2 v) (by omega) (by omega)).2.2.1 ?_
  refine ZW.iadd dJ6_bitCount_0f7a4_28 ?_
  refine ZW.ldcw (n := 252645135) dJ6_bitCount_0f7a4_29 (mmW_2 77 rfl rfl) rfl ?_
  refine ZW.iand dJ6_bitCount_0f7a4_32 (iI_and (by omega) (by decide)) ?_
  rw [show andF (bc2 v + bc2 v / 16) 252645135 = bc3 v from rfl]
  refine ZW.istore_n dJ6_bitCount_0f7a4_33 (by decide) rfl ?_
  refine ZW.iload_n dJ6_bitCount_0f7a4_34 rfl ?_
  refine ZW.iload_n dJ6_bitCount_0f7a4_35 rfl ?_
  refine ZW.bipush dJ6_bitCount_0f7a4_36 rfl ?_
  refine ZW.iushr dJ6_bitCount_0f7a4_38 (ush (bc3 v) (by omega) (by omega)).2.2.2.1 ?_
  refine ZW.iadd dJ6_bitCount_0f7a4_39 ?_
  refine ZW.istore_n dJ6_bitCount_0f7a4_40 (by decide) rfl ?_
  refine ZW.iload_n dJ6_bitCount_0f7a4_41 rfl ?_
  refine ZW.iload_n dJ6_bitCount_0f7a4_42 rfl ?_
  refine ZW.bipush dJ6_bitCount_0f7a4_43 rfl ?_
  refine ZW.iushr dJ6_bitCount_0f7a4_45 (ush (bc3 v + bc3 v / 256) (by omega) (by omega)).2.2.2.2 ?_
  refine ZW.iadd dJ6_bitCount_0f7a4_46 ?_
  refine ZW.istore_n dJ6_bitCount_0f7a4_47 (by decide) rfl ?_
  refine ZW.iload_n dJ6_bitCount_0f7a4_48 rfl ?_
  refine ZW.bipush dJ6_bitCount_0f7a4_49 rfl ?_
  refine ZW.iand dJ6_bitCount_0f7a4_51 (iI_and (by omega) (by decide)) ?_
  refine ZW.ireti dJ6_bitCount_0f7a4_52 rfl ?_
  exact ⟨h4, rfl⟩
def iL : Nat → Int → List Int
  | 0, _ => []
  | n + 1, i => i :: iL n (i + 1)
theorem iL_mem : ∀ {n : Nat} {i x : Int}, x ∈ iL n i → i ≤ x ∧ x < i + n
  | 0, _, _, h => by cases h
  | n + 1, i, x, h => by
    rcases List.mem_cons.mp h with q | q
    · omega
    · have := iL_mem q
      omega
theorem cntF_L (p : Int → Int) : ∀ (n : Nat) (i : Int), cntF p n i = ((iL n i).map p).sum
  | 0, _ => rfl
  | n + 1, i => by
    rw [cntF_s, cntF_L p n (i + 1)]
    rfl
theorem sum_perm {p : Int → Int} {a b : List Int} (h : a.Perm b) : (a.map p).sum = (b.map p).sum := by
  induction h with
  | nil => rfl
  | cons x _ ih => simp only [List.map_cons, List.sum_cons, ih]
  | swap x y l => simp only [List.map_cons, List.sum_cons]; omega
  | trans _ _ ih1 ih2 => exact ih1.trans ih2
theorem sum_filter {p : Int → Int} {c : Int → Bool} : ∀ (l : List Int), (∀ x ∈ l, c x = false → p x = 0) → (l.map p).sum = ((l.filter c).map p).sum
  | [], _ => rfl
  | x :: l, h => by
    have ih := sum_filter (p := p) (c := c) l (fun y hy => h y (List.mem_cons_of_mem _ hy))
    rw [List.map_cons, List.sum_cons, ih, List.filter_cons]
    split
    · rw [List.map_cons, List.sum_cons]
    · next q =>
      rw [h x List.mem_cons_self (by simpa using q), Int.zero_add]
theorem sum_cong {p q : Int → Int} : ∀ (l : List Int), (∀ x ∈ l, p x = q x) → (l.map p).sum = (l.map q).sum
  | [], _ => rfl
  | x :: l, h => by
    rw [List.map_cons, List.map_cons, List.sum_cons, List.sum_cons, h x List.mem_cons_self, sum_cong l (fun y hy => h y (List.mem_cons_of_mem _ hy))]
theorem cntF_add (p q : Int → Int) : ∀ (n : Nat) (i : Int), cntF (fun x => p x + q x) n i = cntF p n i + cntF q n i
  | 0, _ => rfl
  | n + 1, i => by
    rw [cntF_s, cntF_s, cntF_s, cntF_add p q n (i + 1)]
    omega
theorem pair_all : nAll 3 (fun d => (((iL 63 0).filter (fun x => decide (nextF x d ≠ -5))).map (fun x => nextF x d)).isPerm ((iL 63 0).filter (fun x => decide (nextF x (d + 3) ≠ -5)))) = true := by decide +kernel
theorem pair_sum {r : Int → Int} (hV : okV r) {d : Int} (hd : 0 ≤ d ∧ d < 3) : cntF (fun x => zB (rivB r x d)) 63 0 = cntF (fun x => zB (rivB r x (d + 3))) 63 0 := by
  have hp := List.isPerm_iff.mp (nAll_at pair_all hd.1 hd.2)
  rw [cntF_L, cntF_L]
  rw [sum_filter (c := fun x => decide (nextF x d ≠ -5)) (iL 63 0) (fun x hx q => by
    have h1 := iL_mem hx
    have h2 := of_decide_eq_false q
    rw [(hV.2 x d (by omega) (by omega) (by omega) (by omega)).1 (by omega)]
    rfl)]
  rw [sum_filter (p := fun x => zB (rivB r x (d + 3))) (c := fun x => decide (nextF x (d + 3) ≠ -5)) (iL 63 0) (fun x hx q => by
    have h1 := iL_mem hx
    have h2 := of_decide_eq_false q
    rw [(hV.2 x (d + 3) (by omega) (by omega) (by omega) (by omega)).1 (by omega)]
    rfl)]
  rw [← sum_perm hp, List.map_map]
  refine sum_cong _ (fun x hx => ?_)
  rw [List.mem_filter] at hx
  have h1 := iL_mem hx.1
  have h2 := of_decide_eq_true hx.2
  have h3 := (hV.2 x d (by omega) (by omega) (by omega) (by omega)).2 h2
  rw [h3, show (d + 3) % 6 = d + 3 by omega]
  rfl
theorem river_twice {r : Int → Int} (hV : okV r) : cntF (fun x => popF (r (63 + x))) 63 0 = 2 * riversF r := by
  have e : (fun x => popF (r (63 + x))) = fun x => (zB (rivB r x 0) + zB (rivB r x 1) + zB (rivB r x 2)) + (zB (rivB r x 3) + zB (rivB r x 4) + zB (rivB r x 5)) := by
    funext x
    unfold popF rivB
    show zB (bitB (r (63 + x)) 0) + (zB (bitB (r (63 + x)) 1) + (zB (bitB (r (63 + x)) 2) + (zB (bitB (r (63 + x)) 3) + (zB (bitB (r (63 + x)) 4) + (zB (bitB (r (63 + x)) 5) + 0))))) = _
    omega
  have e2 : (fun x => cntF (fun d => zB (rivB r x d)) 3 0) = fun x => zB (rivB r x 0) + zB (rivB r x 1) + zB (rivB r x 2) := by
    funext x
    show zB (rivB r x 0) + (zB (rivB r x 1) + (zB (rivB r x 2) + 0)) = _
    omega
  have h0 := pair_sum hV (d := 0) (by decide)
  have h1 := pair_sum hV (d := 1) (by decide)
  have h2 := pair_sum hV (d := 2) (by decide)
  simp only [Int.zero_add] at h0
  unfold riversF
  rw [e, e2, cntF_add, cntF_add (fun x => zB (rivB r x 0) + zB (rivB r x 1)), cntF_add (fun x => zB (rivB r x 0)), cntF_add (fun x => zB (rivB r x 3) + zB (rivB r x 4)), cntF_add (fun x => zB (rivB r x 3))]
  have h1' : cntF (fun x => zB (rivB r x 1)) 63 0 = cntF (fun x => zB (rivB r x 4)) 63 0 := h1
  have h2' : cntF (fun x => zB (rivB r x 2)) 63 0 = cntF (fun x => zB (rivB r x 5)) 63 0 := h2
  rw [h0, h1', h2']
  omega
theorem c_X4_riverCount (g : ZH) {r : Int → Int} (hA : okA r) (hS : StN g r) : ZC 1 mX4_riverCount [.inr 3] g (fun v g' => v = riversF r ∧ g' = g) := by
  have hR := riversF_R r
  refine ZC.of (by decide +kernel) (Nat.le_of_ble_eq_true rfl) ?_
  have loop : ∀ (n : Nat) (x acc : Int), 0 ≤ x → x + n = 63 → acc + cntF (fun x => popF (r (63 + x))) n x = 2 * riversF r → ZW 1 mX4_riverCount 4 [some (.inr 3), some (.inl acc), some (.inl x)] [] g (fun v g' => v = riversF r ∧ g' = g) := by
    intro n
    induction n with
    | zero =>
      intro x acc h0 hn hs
      rw [show cntF (fun x => popF (r (63 + x))) 0 x = 0 from rfl] at hs
      refine ZW.iload_n dX4_riverCount_4 rfl ?_
      refine ZW.bipush dX4_riverCount_5 rfl ?_
      refine ZW.icmp_ge (tgt := 28) dX4_riverCount_7 (by decide) (by first | omega | exact zB_R _) (by first | omega | exact zB_R _) (fun c7 => ?_) (fun c7 => ?_)
      · refine ZW.iload_n dX4_riverCount_28 rfl ?_
        refine ZW.iconst dX4_riverCount_29 ?_
        refine ZW.idiv dX4_riverCount_30 (by omega) ?_
        refine ZW.ireti dX4_riverCount_31 rfl ?_
        exact ⟨by omega, rfl⟩
      · exact absurd c7 (by omega)
    | succ n ih =>
      intro x acc h0 hn hs
      rw [cntF_s] at hs
      have hX := (st_x hS (x := x) ⟨h0, by omega⟩).2.1
      have h1 := hA.1.1.1 (63 + x) (by omega) (by omega)
      have h2 := hA.2.2.1.1 x h0 (by omega)
      refine ZW.iload_n dX4_riverCount_4 rfl ?_
      refine ZW.bipush dX4_riverCount_5 rfl ?_
      refine ZW.icmp_ge (tgt := 28) dX4_riverCount_7 (by decide) (by first | omega | exact zB_R _) (by first | omega | exact zB_R _) (fun c7 => ?_) (fun c7 => ?_)
      · exact absurd c7 (by omega)
      · refine ZW.iload_n dX4_riverCount_10 rfl ?_
        refine ZW.aload_n dX4_riverCount_11 rfl ?_
        refine ZW.getR dX4_riverCount_12 fl_X4_15 ⟨_, rfl, rfl⟩ ?_
        refine ZW.iload_n dX4_riverCount_15 rfl ?_
        refine ZW.iald dX4_riverCount_16 rfl (by decide) (by omega) rfl ?_
        rw [hX]
        refine ZW.callS (as := [_]) dX4_riverCount_17 cs_X4_115 rfl (by decide) (Nat.le_of_ble_eq_true rfl) rfl (c_J6_bitCount _ ⟨h1.1, h2⟩) (fun v1 g1 ⟨q1, q2⟩ => ?_)
        subst q1; subst q2
        refine ZW.iadd dX4_riverCount_20 ?_
        refine ZW.istore_n dX4_riverCount_21 (by decide) rfl ?_
        refine ZW.iinc dX4_riverCount_22 rfl (by decide) rfl ?_
        refine ZW.goto (tgt := 4) dX4_riverCount_25 (by decide) ?_
        exact ih (x + 1) _ (by omega) (by omega) (by omega)
  refine ZW.iconst dX4_riverCount_0 ?_
  refine ZW.istore_n dX4_riverCount_1 (by decide) rfl ?_
  refine ZW.iconst dX4_riverCount_2 ?_
  refine ZW.istore_n dX4_riverCount_3 (by decide) rfl ?_
  exact loop 63 0 0 (by omega) (by omega) (by rw [river_twice hA.2.2.1]; omega)
