-- frames by cells
def zFr (ks : List Nat) (g g' : ZH) : Prop := ∀ k : Nat, k ∉ ks → g' k = g k
theorem zFr.rf (ks : List Nat) (g : ZH) : zFr ks g g := fun _ _ => rfl
theorem zFr.tr {ks : List Nat} {g g1 g2 : ZH} (h : zFr ks g g1) (h2 : zFr ks g1 g2) : zFr ks g g2 := fun k hk => (h2 k hk).trans (h k hk)
theorem zFr.up {ks ks' : List Nat} {g g1 : ZH} (h : zFr ks g g1) (hs : ∀ k, k ∈ ks → k ∈ ks') : zFr ks' g g1 := fun k hk => h k (fun q => hk (hs k q))
theorem zSet_same (g : ZH) (k : Nat) (i v : Int) : zSet g k i v k = zUp (g k) i v := if_pos rfl
theorem zSet_ne (g : ZH) {j k : Nat} (i v : Int) (hj : j ≠ k) : zSet g k i v j = g j := if_neg hj
theorem zFr.set {ks : List Nat} {g g1 : ZH} (h : zFr ks g g1) {k : Nat} (hk : k ∈ ks) (i v : Int) : zFr ks g (zSet g1 k i v) := fun j hj => (zSet_ne g1 i v (fun q : j = k => hj (by rw [q]; exact hk))).trans (h j hj)
theorem zFr.row {ks : List Nat} {g g1 : ZH} (h : zFr ks g g1) {k : Nat} (hk : k ∈ ks) (f : Int → Int) : zFr ks g (zRow g1 k f) := fun j hj => (zRow_ne g1 f (fun q : j = k => hj (by rw [q]; exact hk))).trans (h j hj)
def anyF (p : Int → Bool) : Nat → Int → Bool
  | 0, _ => false
  | n + 1, i => p i || anyF p n (i + 1)
def cntF (f : Int → Int) : Nat → Int → Int
  | 0, _ => 0
  | n + 1, i => f i + cntF f n (i + 1)
theorem anyF_iff {p : Int → Bool} : ∀ {n : Nat} {i : Int}, anyF p n i = true ↔ ∃ j, i ≤ j ∧ j < i + n ∧ p j = true
  | 0, i => ⟨fun h => Bool.noConfusion h, fun ⟨j, h1, h2, _⟩ => absurd h2 (by omega)⟩
  | n + 1, i => by
    unfold anyF
    rw [Bool.or_eq_true, anyF_iff]
    constructor
    · rintro (h | ⟨j, h1, h2, h3⟩)
      · exact ⟨i, by omega, by omega, h⟩
      · exact ⟨j, by omega, by omega, h3⟩
    · rintro ⟨j, h1, h2, h3⟩
      by_cases hj : j = i
      · subst hj
        exact Or.inl h3
      · exact Or.inr ⟨j, by omega, by omega, h3⟩
theorem anyF_false {p : Int → Bool} {n : Nat} {i : Int} : anyF p n i = false ↔ ∀ j, i ≤ j → j < i + n → p j = false := by
  rw [← Bool.not_eq_true, anyF_iff]
  constructor
  · intro h j h1 h2
    rw [← Bool.not_eq_true]
    exact fun q => h ⟨j, h1, h2, q⟩
  · rintro h ⟨j, h1, h2, h3⟩
    rw [h j h1 h2] at h3
    cases h3
theorem anyF_cong {p q : Int → Bool} : ∀ {n : Nat} {i : Int}, (∀ j, i ≤ j → j < i + n → p j = q j) → anyF p n i = anyF q n i
  | 0, _, _ => rfl
  | n + 1, i, h => by
    unfold anyF
    rw [h i (by omega) (by omega), anyF_cong (fun j h1 h2 => h j (by omega) (by omega))]
theorem cntF_cong {p q : Int → Int} : ∀ {n : Nat} {i : Int}, (∀ j, i ≤ j → j < i + n → p j = q j) → cntF p n i = cntF q n i
  | 0, _, _ => rfl
  | n + 1, i, h => by
    unfold cntF
    rw [h i (by omega) (by omega), cntF_cong (fun j h1 h2 => h j (by omega) (by omega))]
theorem cntF_R {p : Int → Int} {b : Int} (hb : 0 ≤ b) : ∀ {n : Nat} {i : Int}, (∀ j, i ≤ j → j < i + n → 0 ≤ p j ∧ p j ≤ b) → 0 ≤ cntF p n i ∧ cntF p n i ≤ n * b
  | 0, _, _ => by unfold cntF; omega
  | n + 1, i, h => by
    unfold cntF
    have h1 := h i (by omega) (by omega)
    have h2 := cntF_R hb (n := n) (i := i + 1) (fun j h1 h2 => h j (by omega) (by omega))
    have h3 : ((n + 1 : Nat) : Int) * b = n * b + b := by rw [Int.natCast_add, Int.add_mul]; simp
    omega
-- the direction of a hex from another
def dirG (x o : Int) : Nat → Int → Int
  | 0, _ => -5
  | n + 1, d => if nextF x d = o then d else dirG x o n (d + 1)
def dirF (x o : Int) : Int := dirG x o 6 0
theorem dirG_R {x o : Int} : ∀ {n : Nat} {d : Int}, dirG x o n d = -5 ∨ (d ≤ dirG x o n d ∧ dirG x o n d < d + n ∧ nextF x (dirG x o n d) = o)
  | 0, _ => Or.inl rfl
  | n + 1, d => by
    unfold dirG
    split
    · next h => exact Or.inr ⟨by omega, by omega, h⟩
    · rcases dirG_R (x := x) (o := o) (n := n) (d := d + 1) with h | ⟨h1, h2, h3⟩
      · exact Or.inl h
      · exact Or.inr ⟨by omega, by omega, h3⟩
theorem dirF_R (x o : Int) : dirF x o = -5 ∨ (0 ≤ dirF x o ∧ dirF x o < 6 ∧ nextF x (dirF x o) = o) := by
  have h := dirG_R (x := x) (o := o) (n := 6) (d := 0)
  unfold dirF
  omega
theorem c_X8_directionTo (g : ZH) {x o : Int} (hx : 0 ≤ x ∧ x < 63) (ho : zR o) : ZC 2 mX8_directionTo [.inl x, .inl o] g (fun r g' => r = dirF x o ∧ g' = g) := by
  refine ZC.of (by decide +kernel) (Nat.le_of_ble_eq_true rfl) ?_
  have loop : ∀ (n : Nat) (d : Int), 0 ≤ d → d + n = 6 → ZW 2 mX8_directionTo 2 [some (.inl x), some (.inl o), some (.inl d)] [] g (fun r g' => r = dirG x o n d ∧ g' = g) := by
    intro n
    induction n with
    | zero =>
      intro d h0 hn
      refine ZW.iload_n dX8_directionTo_2 rfl ?_
      refine ZW.bipush dX8_directionTo_3 rfl ?_
      refine ZW.icmp_ge (tgt := 25) dX8_directionTo_5 (by decide) (by omega) (by omega) (fun c5 => ?_) (fun c5 => ?_)
      · refine ZW.bipush dX8_directionTo_25 rfl ?_
        refine ZW.ireti dX8_directionTo_27 rfl ?_
        exact ⟨rfl, rfl⟩
      · exact absurd c5 (by omega)
    | succ n ih =>
      intro d h0 hn
      refine ZW.iload_n dX8_directionTo_2 rfl ?_
      refine ZW.bipush dX8_directionTo_3 rfl ?_
      refine ZW.icmp_ge (tgt := 25) dX8_directionTo_5 (by decide) (by omega) (by omega) (fun c5 => ?_) (fun c5 => ?_)
      · exact absurd c5 (by omega)
      · refine ZW.iload_n dX8_directionTo_8 rfl ?_
        refine ZW.iload_n dX8_directionTo_9 rfl ?_
        refine ZW.callS (as := [_, _]) dX8_directionTo_10 cs_X8_59 rfl (by decide) (Nat.le_of_ble_eq_true rfl) rfl (c_X8_next _ hx (by omega)) (fun r1 g1 ⟨h1, h2⟩ => ?_)
        subst h1; subst h2
        have q := nextF_R' x d
        refine ZW.iload_n dX8_directionTo_13 rfl ?_
        refine ZW.icmp_ne (tgt := 19) dX8_directionTo_14 (by decide) (by omega) (by omega) (fun c14 => ?_) (fun c14 => ?_)
        · refine ZW.iinc dX8_directionTo_19 rfl (by decide) rfl ?_
          refine ZW.goto (tgt := 2) dX8_directionTo_22 (by decide) ?_
          unfold dirG
          rw [if_neg c14]
          exact ih (d + 1) (by omega) (by omega)
        · refine ZW.iload_n dX8_directionTo_17 rfl ?_
          refine ZW.ireti dX8_directionTo_18 rfl ?_
          unfold dirG
          rw [if_pos c14]
          exact ⟨rfl, rfl⟩
  refine ZW.iconst dX8_directionTo_0 ?_
  refine ZW.istore_n dX8_directionTo_1 (by decide) rfl ?_
  exact loop 6 0 (by omega) (by omega)
-- rivers, as bits
def bitB (v d : Int) : Bool := decide (v / 2 ^ d.toNat % 2 = 1)
theorem iI_shr {v d : Int} (hv : 0 ≤ v ∧ v < 2147483648) (hd : 0 ≤ d ∧ d < 6) : iI v >>> (iI d &&& 31) = iI (v / 2 ^ d.toNat) := by
  obtain ⟨n, rfl⟩ := Int.eq_ofNat_of_zero_le hv.1
  rcases (show d = 0 ∨ d = 1 ∨ d = 2 ∨ d = 3 ∨ d = 4 ∨ d = 5 by omega) with rfl | rfl | rfl | rfl | rfl | rfl
  · exact pk_shrN (by omega) _ 0 (by decide)
  · exact pk_shrN (by omega) _ 1 (by decide)
  · exact pk_shrN (by omega) _ 2 (by decide)
  · exact pk_shrN (by omega) _ 3 (by decide)
  · exact pk_shrN (by omega) _ 4 (by decide)
  · exact pk_shrN (by omega) _ 5 (by decide)
theorem iI_and1 {v : Int} (hv : 0 ≤ v ∧ v < 2147483648) : iI v &&& iI 1 = iI (v % 2) := by
  obtain ⟨n, rfl⟩ := Int.eq_ofNat_of_zero_le hv.1
  exact pk_andN (by omega) 1 (by decide)
theorem bit_R {v d : Int} (hv : 0 ≤ v ∧ v < 2147483648) (hd : 0 ≤ d ∧ d < 6) : 0 ≤ v / 2 ^ d.toNat ∧ v / 2 ^ d.toNat < 2147483648 := by
  rcases (show d = 0 ∨ d = 1 ∨ d = 2 ∨ d = 3 ∨ d = 4 ∨ d = 5 by omega) with rfl | rfl | rfl | rfl | rfl | rfl <;> simp <;> omega
def rivB (r : Int → Int) (x d : Int) : Bool := bitB (r (63 + x)) d
theorem c_X8_hasRiver (g : ZH) (hk : okB (g 101)) {x d : Int} (hx : 0 ≤ x ∧ x < 63) (hd : 0 ≤ d ∧ d < 6) : ZC 0 mX8_hasRiver [.inr 100, .inl x, .inl d] g (fun r g' => r = zB (rivB (g 101) x d) ∧ g' = g) := by
  have h1 := hk.1 (63 + x) (by omega) (by omega)
  have h2 := bit_R (v := g 101 (63 + x)) (d := d) (by omega) hd
  refine ZC.of (by decide +kernel) (Nat.le_of_ble_eq_true rfl) ?_
  refine ZW.aload_n dX8_hasRiver_0 rfl ?_
  refine ZW.getR dX8_hasRiver_1 fl_X8_7 ⟨_, rfl, rfl⟩ ?_
  refine ZW.bipush dX8_hasRiver_4 rfl ?_
  refine ZW.iload_n dX8_hasRiver_6 rfl ?_
  refine ZW.iadd dX8_hasRiver_7 ?_
  refine ZW.iald dX8_hasRiver_8 rfl (by decide) (by omega) rfl ?_
  refine ZW.iload_n dX8_hasRiver_9 rfl ?_
  refine ZW.ishr dX8_hasRiver_10 (iI_shr (by omega) hd) ?_
  refine ZW.iconst dX8_hasRiver_11 ?_
  refine ZW.iand dX8_hasRiver_12 (iI_and1 h2) ?_
  refine ZW.iconst dX8_hasRiver_13 ?_
  refine ZW.icmp_ne (tgt := 21) dX8_hasRiver_14 (by decide) (by omega) (by omega) (fun c14 => ?_) (fun c14 => ?_)
  · refine ZW.iconst dX8_hasRiver_21 ?_
    refine ZW.iretz dX8_hasRiver_22 rfl (by first | exact Or.inl rfl | exact Or.inr rfl | assumption | omega) ?_
    exact ⟨by simp [rivB, bitB, zB, c14], rfl⟩
  · refine ZW.iconst dX8_hasRiver_17 ?_
    refine ZW.goto (tgt := 22) dX8_hasRiver_18 (by decide) ?_
    refine ZW.iretz dX8_hasRiver_22 rfl (by first | exact Or.inl rfl | exact Or.inr rfl | assumption | omega) ?_
    exact ⟨by simp [rivB, bitB, zB, c14], rfl⟩
-- units
def uoF (r : Int → Int) (x : Int) : Nat → Int → Int
  | 0, _ => -5
  | n + 1, u => if 0 < ofF r u 1 ∧ ofF r u 2 = x then u else uoF r x n (u + 1)
def unitOnF (r : Int → Int) (x : Int) : Int := uoF r x (r 192).toNat 0
theorem uoF_R {r : Int → Int} {x : Int} : ∀ {n : Nat} {u : Int}, uoF r x n u = -5 ∨ (u ≤ uoF r x n u ∧ uoF r x n u < u + n ∧ 0 < ofF r (uoF r x n u) 1 ∧ ofF r (uoF r x n u) 2 = x)
  | 0, _ => Or.inl rfl
  | n + 1, u => by
    unfold uoF
    split
    · next h => exact Or.inr ⟨by omega, by omega, h.1, h.2⟩
    · rcases uoF_R (r := r) (x := x) (n := n) (u := u + 1) with h | ⟨h1, h2, h3⟩
      · exact Or.inl h
      · exact Or.inr ⟨by omega, by omega, h3⟩
theorem uoF_no {r : Int → Int} {x : Int} : ∀ {n : Nat} {u : Int}, 0 ≤ u → uoF r x n u = -5 → ∀ v, u ≤ v → v < u + n → ¬ (0 < ofF r v 1 ∧ ofF r v 2 = x)
  | 0, u, _, _, v, h1, h2 => by omega
  | n + 1, u, h0, h, v, h1, h2 => by
    unfold uoF at h
    split at h
    · omega
    · next hn =>
      by_cases hv : v = u
      · subst hv; exact hn
      · exact uoF_no (n := n) (u := u + 1) (by omega) h v (by omega) (by omega)
theorem unitOnF_R {r : Int → Int} (hk : okB r) (x : Int) : unitOnF r x = -5 ∨ (0 ≤ unitOnF r x ∧ unitOnF r x < r 192 ∧ unitOnF r x < 16 ∧ 0 < ofF r (unitOnF r x) 1 ∧ ofF r (unitOnF r x) 2 = x) := by
  have h := uoF_R (r := r) (x := x) (n := (r 192).toNat) (u := 0)
  have h1 := hk.1 192 (by decide) (by decide)
  have h2 := hk.2
  unfold unitOnF
  omega
theorem unitOnF_no {r : Int → Int} {x : Int} (h : unitOnF r x = -5) {v : Int} (h0 : 0 ≤ v) (hv : v < r 192) : ¬ (0 < ofF r v 1 ∧ ofF r v 2 = x) := uoF_no (by decide) h v h0 (by omega)
theorem c_X8_unitOn (g : ZH) (hk : okB (g 101)) {x : Int} (hx : zR x) : ZC 1 mX8_unitOn [.inr 100, .inl x] g (fun r g' => r = unitOnF (g 101) x ∧ g' = g) := by
  have h192 := hk.1 192 (by decide) (by decide)
  have h16 := hk.2
  refine ZC.of (by decide +kernel) (Nat.le_of_ble_eq_true rfl) ?_
  have loop : ∀ (n : Nat) (u : Int), 0 ≤ u → u + n = g 101 192 → ZW 1 mX8_unitOn 2 [some (.inr 100), some (.inl x), some (.inl u)] [] g (fun r g' => r = uoF (g 101) x n u ∧ g' = g) := by
    intro n
    induction n with
    | zero =>
      intro u h0 hn
      refine ZW.iload_n dX8_unitOn_2 rfl ?_
      refine ZW.aload_n dX8_unitOn_3 rfl ?_
      refine ZW.getR dX8_unitOn_4 fl_X8_7 ⟨_, rfl, rfl⟩ ?_
      refine ZW.sipush dX8_unitOn_7 rfl ?_
      refine ZW.iald dX8_unitOn_10 rfl (by decide) (by omega) rfl ?_
      refine ZW.icmp_ge (tgt := 41) dX8_unitOn_11 (by decide) (by omega) (by omega) (fun c11 => ?_) (fun c11 => ?_)
      · refine ZW.bipush dX8_unitOn_41 rfl ?_
        refine ZW.ireti dX8_unitOn_43 rfl ?_
        exact ⟨rfl, rfl⟩
      · exact absurd c11 (by omega)
    | succ n ih =>
      intro u h0 hn
      refine ZW.iload_n dX8_unitOn_2 rfl ?_
      refine ZW.aload_n dX8_unitOn_3 rfl ?_
      refine ZW.getR dX8_unitOn_4 fl_X8_7 ⟨_, rfl, rfl⟩ ?_
      refine ZW.sipush dX8_unitOn_7 rfl ?_
      refine ZW.iald dX8_unitOn_10 rfl (by decide) (by omega) rfl ?_
      refine ZW.icmp_ge (tgt := 41) dX8_unitOn_11 (by decide) (by omega) (by omega) (fun c11 => ?_) (fun c11 => ?_)
      · exact absurd c11 (by omega)
      · refine ZW.aload_n dX8_unitOn_14 rfl ?_
        refine ZW.iload_n dX8_unitOn_15 rfl ?_
        refine ZW.iconst dX8_unitOn_16 ?_
        refine ZW.callV (as := [_, _]) dX8_unitOn_17 cv_X8_52 ⟨_, rfl⟩ rfl (by decide) (Nat.le_of_ble_eq_true rfl) rfl (c_X8_of _ (by omega) (by omega)) (fun r1 g1 ⟨h1, h2⟩ => ?_)
        subst h1; subst h2
        have q1 := ofF_R hk (u := u) (w := 1) (by omega) (by omega)
        have q2 := ofF_R hk (u := u) (w := 2) (by omega) (by omega)
        refine ZW.if_le (tgt := 35) dX8_unitOn_20 (by decide) (by omega) (fun c20 => ?_) (fun c20 => ?_)
        · refine ZW.iinc dX8_unitOn_35 rfl (by decide) rfl ?_
          refine ZW.goto (tgt := 2) dX8_unitOn_38 (by decide) ?_
          unfold uoF
          rw [if_neg (by omega)]
          exact ih (u + 1) (by omega) (by omega)
        · refine ZW.aload_n dX8_unitOn_23 rfl ?_
          refine ZW.iload_n dX8_unitOn_24 rfl ?_
          refine ZW.iconst dX8_unitOn_25 ?_
          refine ZW.callV (as := [_, _]) dX8_unitOn_26 cv_X8_52 ⟨_, rfl⟩ rfl (by decide) (Nat.le_of_ble_eq_true rfl) rfl (c_X8_of _ (by omega) (by omega)) (fun r1 g1 ⟨h1, h2⟩ => ?_)
          subst h1; subst h2
          refine ZW.iload_n dX8_unitOn_29 rfl ?_
          refine ZW.icmp_ne (tgt := 35) dX8_unitOn_30 (by decide) (by omega) (by omega) (fun c30 => ?_) (fun c30 => ?_)
          · refine ZW.iinc dX8_unitOn_35 rfl (by decide) rfl ?_
            refine ZW.goto (tgt := 2) dX8_unitOn_38 (by decide) ?_
            unfold uoF
            rw [if_neg (by omega)]
            exact ih (u + 1) (by omega) (by omega)
          · refine ZW.iload_n dX8_unitOn_33 rfl ?_
            refine ZW.ireti dX8_unitOn_34 rfl ?_
            unfold uoF
            rw [if_pos (by omega)]
            exact ⟨rfl, rfl⟩
  refine ZW.iconst dX8_unitOn_0 ?_
  refine ZW.istore_n dX8_unitOn_1 (by decide) rfl ?_
  exact loop (g 101 192).toNat 0 (by omega) (by omega)
def isOnB (r : Int → Int) (x side : Int) : Bool := decide (unitOnF r x ≠ -5 ∧ ofF r (unitOnF r x) 0 = side)
theorem c_X8_isOn (g : ZH) (hk : okB (g 101)) {x side : Int} (hx : zR x) (hs : zR side) : ZC 2 mX8_isOn [.inr 100, .inl x, .inl side] g (fun r g' => r = zB (isOnB (g 101) x side) ∧ g' = g) := by
  refine ZC.of (by decide +kernel) (Nat.le_of_ble_eq_true rfl) ?_
  refine ZW.aload_n dX8_isOn_0 rfl ?_
  refine ZW.iload_n dX8_isOn_1 rfl ?_
  refine ZW.callV (as := [_]) dX8_isOn_2 cv_X8_62 ⟨_, rfl⟩ rfl (by decide) (Nat.le_of_ble_eq_true rfl) rfl (c_X8_unitOn _ hk hx) (fun r1 g1 ⟨h1, h2⟩ => ?_)
  subst h1; subst h2
  have q := unitOnF_R hk x
  refine ZW.istore_n dX8_isOn_5 (by decide) rfl ?_
  refine ZW.iload_n dX8_isOn_6 rfl ?_
  refine ZW.bipush dX8_isOn_7 rfl ?_
  refine ZW.icmp_eq (tgt := 26) dX8_isOn_9 (by decide) (by omega) (by omega) (fun c9 => ?_) (fun c9 => ?_)
  · refine ZW.iconst dX8_isOn_26 ?_
    refine ZW.iretz dX8_isOn_27 rfl (by first | exact Or.inl rfl | exact Or.inr rfl | assumption | omega) ?_
    exact ⟨by simp [isOnB, zB, c9], rfl⟩
  · refine ZW.aload_n dX8_isOn_12 rfl ?_
    refine ZW.iload_n dX8_isOn_13 rfl ?_
    refine ZW.iconst dX8_isOn_14 ?_
    refine ZW.callV (as := [_, _]) dX8_isOn_15 cv_X8_52 ⟨_, rfl⟩ rfl (by decide) (Nat.le_of_ble_eq_true rfl) rfl (c_X8_of _ (by omega) (by omega)) (fun r1 g1 ⟨h1, h2⟩ => ?_)
    subst h1; subst h2
    have q1 := ofF_R hk (u := unitOnF (g1 101) x) (w := 0) (by omega) (by omega)
    refine ZW.iload_n dX8_isOn_18 rfl ?_
    refine ZW.icmp_ne (tgt := 26) dX8_isOn_19 (by decide) (by omega) (by omega) (fun c19 => ?_) (fun c19 => ?_)
    · refine ZW.iconst dX8_isOn_26 ?_
      refine ZW.iretz dX8_isOn_27 rfl (by first | exact Or.inl rfl | exact Or.inr rfl | assumption | omega) ?_
      exact ⟨by simp [isOnB, zB, c9, c19], rfl⟩
    · refine ZW.iconst dX8_isOn_22 ?_
      refine ZW.goto (tgt := 27) dX8_isOn_23 (by decide) ?_
      refine ZW.iretz dX8_isOn_27 rfl (by first | exact Or.inl rfl | exact Or.inr rfl | assumption | omega) ?_
      exact ⟨by simp [isOnB, zB, c9, c19], rfl⟩
def zoneB (r : Int → Int) (x side : Int) : Bool := anyF (fun d => decide (nextF x d ≠ -5) && isOnB r (nextF x d) side) 6 0
theorem c_X8_isInZone (g : ZH) (hk : okB (g 101)) {x side : Int} (hx : 0 ≤ x ∧ x < 63) (hs : zR side) : ZC 3 mX8_isInZone [.inr 100, .inl x, .inl side] g (fun r g' => r = zB (zoneB (g 101) x side) ∧ g' = g) := by
  refine ZC.of (by decide +kernel) (Nat.le_of_ble_eq_true rfl) ?_
  have loop : ∀ (n : Nat) (d : Int) (b : Bool) (o : Option ZV), 0 ≤ d → d + n = 6 → ZW 3 mX8_isInZone 5 [some (.inr 100), some (.inl x), some (.inl side), some (.inl (zB b)), some (.inl d), o] [] g (fun r g' => r = zB (b || anyF (fun d => decide (nextF x d ≠ -5) && isOnB (g 101) (nextF x d) side) n d) ∧ g' = g) := by
    intro n
    induction n with
    | zero =>
      intro d b o h0 hn
      refine ZW.iload dX8_isInZone_5 rfl ?_
      refine ZW.bipush dX8_isInZone_7 rfl ?_
      refine ZW.icmp_ge (tgt := 53) dX8_isInZone_9 (by decide) (by omega) (by omega) (fun c9 => ?_) (fun c9 => ?_)
      · refine ZW.iload_n dX8_isInZone_53 rfl ?_
        refine ZW.iretz dX8_isInZone_54 rfl (by exact zB_1 _) ?_
        exact ⟨by simp [anyF], rfl⟩
      · exact absurd c9 (by omega)
    | succ n ih =>
      intro d b o h0 hn
      refine ZW.iload dX8_isInZone_5 rfl ?_
      refine ZW.bipush dX8_isInZone_7 rfl ?_
      refine ZW.icmp_ge (tgt := 53) dX8_isInZone_9 (by decide) (by omega) (by omega) (fun c9 => ?_) (fun c9 => ?_)
      · exact absurd c9 (by omega)
      · refine ZW.iload_n dX8_isInZone_12 rfl ?_
        refine ZW.iload dX8_isInZone_13 rfl ?_
        refine ZW.callS (as := [_, _]) dX8_isInZone_15 cs_X8_59 rfl (by decide) (Nat.le_of_ble_eq_true rfl) rfl (c_X8_next _ hx (by omega)) (fun r1 g1 ⟨h1, h2⟩ => ?_)
        subst h1; subst h2
        have q := nextF_R (x := x) (d := d)
        refine ZW.istore dX8_isInZone_18 (by decide) rfl ?_
        refine ZW.iload_n dX8_isInZone_20 rfl ?_
        refine ZW.if_ne (tgt := 41) dX8_isInZone_21 (by decide) (by exact zB_R _) (fun c21 => ?_) (fun c21 => ?_)
        · have e := zB_ne c21
          subst e
          refine ZW.iconst dX8_isInZone_41 ?_
          refine ZW.goto (tgt := 46) dX8_isInZone_42 (by decide) ?_
          refine ZW.istore_n dX8_isInZone_46 (by decide) rfl ?_
          refine ZW.iinc dX8_isInZone_47 rfl (by decide) rfl ?_
          refine ZW.goto (tgt := 5) dX8_isInZone_50 (by decide) ?_
          refine ZW.mono (ih (d + 1) true _ (by omega) (by omega)) (fun r g' hh => ?_)
          rw [hh.1, hh.2]
          exact ⟨by simp, rfl⟩
        · have e := zB_eq c21
          subst e
          refine ZW.iload dX8_isInZone_24 rfl ?_
          refine ZW.bipush dX8_isInZone_26 rfl ?_
          refine ZW.icmp_eq (tgt := 45) dX8_isInZone_28 (by decide) (by omega) (by omega) (fun c28 => ?_) (fun c28 => ?_)
          · refine ZW.iconst dX8_isInZone_45 ?_
            refine ZW.istore_n dX8_isInZone_46 (by decide) rfl ?_
            refine ZW.iinc dX8_isInZone_47 rfl (by decide) rfl ?_
            refine ZW.goto (tgt := 5) dX8_isInZone_50 (by decide) ?_
            refine ZW.mono (ih (d + 1) false _ (by omega) (by omega)) (fun r g' hh => ?_)
            rw [hh.1, hh.2]
            exact ⟨by simp [anyF, c28], rfl⟩
          · refine ZW.aload_n dX8_isInZone_31 rfl ?_
            refine ZW.iload dX8_isInZone_32 rfl ?_
            refine ZW.iload_n dX8_isInZone_34 rfl ?_
            refine ZW.callV (as := [_, _]) dX8_isInZone_35 cv_X8_66 ⟨_, rfl⟩ rfl (by decide) (Nat.le_of_ble_eq_true rfl) rfl (c_X8_isOn _ hk (by omega) hs) (fun r1 g1 ⟨h1, h2⟩ => ?_)
            subst h1; subst h2
            refine ZW.if_eq (tgt := 45) dX8_isInZone_38 (by decide) (by exact zB_R _) (fun c38 => ?_) (fun c38 => ?_)
            · have e := zB_eq c38
              refine ZW.iconst dX8_isInZone_45 ?_
              refine ZW.istore_n dX8_isInZone_46 (by decide) rfl ?_
              refine ZW.iinc dX8_isInZone_47 rfl (by decide) rfl ?_
              refine ZW.goto (tgt := 5) dX8_isInZone_50 (by decide) ?_
              refine ZW.mono (ih (d + 1) false _ (by omega) (by omega)) (fun r g' hh => ?_)
              rw [hh.1, hh.2]
              exact ⟨by simp [anyF, e], rfl⟩
            · have e := zB_ne c38
              refine ZW.iconst dX8_isInZone_41 ?_
              refine ZW.goto (tgt := 46) dX8_isInZone_42 (by decide) ?_
              refine ZW.istore_n dX8_isInZone_46 (by decide) rfl ?_
              refine ZW.iinc dX8_isInZone_47 rfl (by decide) rfl ?_
              refine ZW.goto (tgt := 5) dX8_isInZone_50 (by decide) ?_
              refine ZW.mono (ih (d + 1) true _ (by omega) (by omega)) (fun r g' hh => ?_)
              rw [hh.1, hh.2]
              exact ⟨by simp [anyF, e, c28], rfl⟩
  refine ZW.iconst dX8_isInZone_0 ?_
  refine ZW.istore_n dX8_isInZone_1 (by decide) rfl ?_
  refine ZW.iconst dX8_isInZone_2 ?_
  refine ZW.istore dX8_isInZone_3 (by decide) rfl ?_
  refine ZW.mono (loop 6 0 false _ (by omega) (by omega)) (fun r g' hh => ?_)
  rw [hh.1, hh.2]
  exact ⟨by simp [zoneB], rfl⟩
theorem c_X8_laysZone (g : ZH) (hk : okB (g 101)) {side : Int} (hs : zR side) : ZC 4 mX8_laysZone [.inr 100, .inl side] g (fun _ g' => zFr [109] g g' ∧ ∀ x, 0 ≤ x → x < 63 → g' 109 x = zB (zoneB (g 101) x side)) := by
  refine ZC.of (by decide +kernel) (Nat.le_of_ble_eq_true rfl) ?_
  have loop : ∀ (n : Nat) (i : Int) (g1 : ZH), 0 ≤ i → i + n = 63 → zFr [109] g g1 → (∀ x, 0 ≤ x → x < i → g1 109 x = zB (zoneB (g 101) x side)) → ZW 4 mX8_laysZone 2 [some (.inr 100), some (.inl side), some (.inl i)] [] g1 (fun _ g' => zFr [109] g g' ∧ ∀ x, 0 ≤ x → x < 63 → g' 109 x = zB (zoneB (g 101) x side)) := by
    intro n
    induction n with
    | zero =>
      intro i g1 h0 hn hf hz
      refine ZW.iload_n dX8_laysZone_2 rfl ?_
      refine ZW.bipush dX8_laysZone_3 rfl ?_
      refine ZW.icmp_ge (tgt := 26) dX8_laysZone_5 (by decide) (by omega) (by omega) (fun c5 => ?_) (fun c5 => ?_)
      · refine ZW.vret dX8_laysZone_26 rfl ?_
        exact ⟨hf, fun x h1 h2 => hz x h1 (by omega)⟩
      · exact absurd c5 (by omega)
    | succ n ih =>
      intro i g1 h0 hn hf hz
      have e1 : g1 101 = g 101 := hf 101 (by decide)
      refine ZW.iload_n dX8_laysZone_2 rfl ?_
      refine ZW.bipush dX8_laysZone_3 rfl ?_
      refine ZW.icmp_ge (tgt := 26) dX8_laysZone_5 (by decide) (by omega) (by omega) (fun c5 => ?_) (fun c5 => ?_)
      · exact absurd c5 (by omega)
      · refine ZW.aload_n dX8_laysZone_8 rfl ?_
        refine ZW.getR dX8_laysZone_9 fl_X8_35 ⟨_, rfl, rfl⟩ ?_
        refine ZW.iload_n dX8_laysZone_12 rfl ?_
        refine ZW.aload_n dX8_laysZone_13 rfl ?_
        refine ZW.iload_n dX8_laysZone_14 rfl ?_
        refine ZW.iload_n dX8_laysZone_15 rfl ?_
        refine ZW.callV (as := [_, _]) dX8_laysZone_16 cv_X8_70 ⟨_, rfl⟩ rfl (by decide) (Nat.le_of_ble_eq_true rfl) rfl (c_X8_isInZone _ (e1 ▸ hk) (by omega) hs) (fun r1 g2 ⟨h1, h2⟩ => ?_)
        subst h1; subst h2
        refine ZW.zast dX8_laysZone_19 rfl (by decide) (by omega) (by exact zB_1 _) ?_
        refine ZW.iinc dX8_laysZone_20 rfl (by decide) rfl ?_
        refine ZW.goto (tgt := 2) dX8_laysZone_23 (by decide) ?_
        refine ih (i + 1) _ (by omega) (by omega) (hf.set (by decide) _ _) (fun x h1 h2 => ?_)
        rw [zSet_same]
        by_cases hx : x = i
        · rw [hx, zUp_same, e1]
        · rw [zUp_ne _ _ hx]
          exact hz x h1 (by omega)
  refine ZW.iconst dX8_laysZone_0 ?_
  refine ZW.istore_n dX8_laysZone_1 (by decide) rfl ?_
  exact loop 63 0 g (by omega) (by omega) (zFr.rf _ _) (fun x h1 h2 => by omega)
