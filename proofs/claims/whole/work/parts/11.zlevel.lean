-- THE SAME OVER Int: a whole number is iI z; a row is a function of Int; ZW, ZC as MW, MC
def iI (z : Int) : Int32 := Int32.ofInt z
abbrev zR (z : Int) : Prop := -2147483648 ≤ z ∧ z < 2147483648
abbrev ZV : Type := Int ⊕ Nat
abbrev ZH : Type := Nat → Int → Int
def zV : ZV → MV
  | .inl z => .inl (iI z)
  | .inr k => .inr k
def zH (g : ZH) : MH := fun k i => iI (g k (i : Int))
def zUp (f : Int → Int) (i v : Int) : Int → Int := fun x => if x = i then v else f x
def zSet (g : ZH) (k : Nat) (i v : Int) : ZH := fun j => if j = k then zUp (g k) i v else g j
def zCpy (f f2 : Int → Int) (sp dp n : Int) : Int → Int := fun x => if dp ≤ x ∧ x < dp + n then f (sp + (x - dp)) else f2 x
def zRow (g : ZH) (k : Nat) (f : Int → Int) : ZH := fun j => if j = k then f else g j
theorem zSet_row (g : ZH) (k : Nat) (i v : Int) : zSet g k i v = zRow g k (zUp (g k) i v) := rfl
theorem zRow_same (g : ZH) (k : Nat) (f : Int → Int) : zRow g k f k = f := if_pos rfl
theorem zRow_ne (g : ZH) {j k : Nat} (f : Int → Int) (hj : j ≠ k) : zRow g k f j = g j := if_neg hj
theorem zUp_same (f : Int → Int) (i v : Int) : zUp f i v i = v := if_pos rfl
theorem zUp_ne (f : Int → Int) {i x : Int} (v : Int) (hx : x ≠ i) : zUp f i v x = f x := if_neg hx
theorem zRow_row (g : ZH) (k : Nat) (f f2 : Int → Int) : zRow (zRow g k f) k f2 = zRow g k f2 := by
  funext j
  unfold zRow
  split <;> rfl
theorem zRow_self (g : ZH) (k : Nat) : zRow g k (g k) = g := by
  funext j
  unfold zRow
  split
  · next hj => rw [hj]
  · rfl
theorem iI_nat (n : Nat) : iI (n : Int) = nI n := rfl
theorem fb_bmod2 {z : Int} (h1 : -2147483648 ≤ z) (h2 : z < 2147483648) : z.bmod (2 ^ 32) = z := by
  rw [Int.bmod_def]
  omega
theorem iI_toInt {z : Int} (h : zR z) : (iI z).toInt = z := by
  unfold iI
  rw [Int32.toInt_ofInt]
  exact fb_bmod2 h.1 h.2
theorem iI_self (x : Int32) : iI x.toInt = x := Int32.ofInt_toInt x
theorem iI_R (x : Int32) : zR x.toInt := ⟨Int32.le_toInt x, Int32.toInt_lt x⟩
theorem iI_inj {a b : Int} (ha : zR a) (hb : zR b) : iI a = iI b ↔ a = b := ⟨fun h => by rw [← iI_toInt ha, ← iI_toInt hb, h], fun h => by rw [h]⟩
theorem iI_lt {a b : Int} (ha : zR a) (hb : zR b) : iI a < iI b ↔ a < b := by rw [Int32.lt_iff_toInt_lt, iI_toInt ha, iI_toInt hb]
theorem iI_le {a b : Int} (ha : zR a) (hb : zR b) : iI a ≤ iI b ↔ a ≤ b := by rw [Int32.le_iff_toInt_le, iI_toInt ha, iI_toInt hb]
theorem zR_0 : zR 0 := ⟨by decide, by decide⟩
theorem iI_0 : iI 0 = 0 := rfl
theorem iI_add (a b : Int) : iI a + iI b = iI (a + b) := (Int32.ofInt_add a b).symm
theorem iI_mul (a b : Int) : iI a * iI b = iI (a * b) := (Int32.ofInt_mul a b).symm
theorem iI_neg (a : Int) : -iI a = iI (-a) := (Int32.ofInt_neg a).symm
theorem iI_sub (a b : Int) : iI a - iI b = iI (a - b) := (Int32.ofInt_sub a b).symm
theorem iI_ix {z : Int} {n : Nat} (h0 : 0 ≤ z) (h : z < n) (hn : n < 2147483648) : vp_in (iI z) n := by
  rw [vp_in_iff, iI_toInt ⟨by omega, by omega⟩]
  exact ⟨h0, h⟩
theorem iI_cl {z : Int} (h0 : 0 ≤ z) (h : z < 2147483648) : (iI z).toNatClampNeg = z.toNat := by
  show (iI z).toInt.toNat = z.toNat
  rw [iI_toInt ⟨by omega, by omega⟩]
theorem iI_div {a b : Int} (h0 : 0 ≤ a) (ha : a < 2147483648) (h1 : 0 < b) (hb : b < 2147483648) : iI a / iI b = iI (a / b) := by
  obtain ⟨m, rfl⟩ := Int.eq_ofNat_of_zero_le h0
  obtain ⟨n, rfl⟩ := Int.eq_ofNat_of_zero_le (Int.le_of_lt h1)
  rw [iI_nat, iI_nat, pk_div (by omega) (by omega) (by omega)]
  rfl
theorem iI_rem {a b : Int} (h0 : 0 ≤ a) (ha : a < 2147483648) (h1 : 0 < b) (hb : b < 2147483648) : iI a - iI a / iI b * iI b = iI (a % b) := by
  obtain ⟨m, rfl⟩ := Int.eq_ofNat_of_zero_le h0
  obtain ⟨n, rfl⟩ := Int.eq_ofNat_of_zero_le (Int.le_of_lt h1)
  rw [iI_nat, iI_nat, pk_rem (by omega) (by omega) (by omega)]
  rfl
theorem zH_up (g : ZH) (k : Nat) (f : Nat → Int32) (f2 : Int → Int) (hf : ∀ n : Nat, f n = iI (f2 n)) : mmUp (zH g) k f = zH (zRow g k f2) := by
  funext j n
  unfold mmUp zH zRow
  by_cases hj : j = k
  · subst hj
    simp [hf]
  · simp [hj]
theorem zH_set (g : ZH) (k : Nat) {i : Int} (v : Int) (hi : 0 ≤ i) : mmSet (zH g) k i.toNat (iI v) = zH (zSet g k i v) := by
  refine zH_up g k _ _ (fun n => ?_)
  unfold upd zUp zH
  by_cases hn : n = i.toNat
  · rw [if_pos hn, if_pos (by omega)]
  · rw [if_neg hn, if_neg (by omega)]
theorem zH_get (g : ZH) (k : Nat) {i : Int} (hi : 0 ≤ i) (h : i < 2147483648) : zH g k (iI i).toNatClampNeg = iI (g k i) := by
  rw [iI_cl hi h]
  unfold zH
  rw [Int.toNat_of_nonneg hi]
def absF (x : Int) : Int := if 0 ≤ x then x else -x
def maxF (x y : Int) : Int := if x < y then y else x
def minF (x y : Int) : Int := if y < x then y else x
theorem zH_out (H : MH) : ∃ g : ZH, zH g = H ∧ ∀ k i, zR (g k i) := ⟨fun k i => (H k i.toNat).toInt, by funext k i; unfold zH; rw [iI_self]; simp, fun k i => iI_R _⟩
def zQ (Q : Int → ZH → Prop) : Int32 → MH → Prop := fun r h' => ∃ r' g', r = iI r' ∧ h' = zH g' ∧ Q r' g'
def zL (ls : List (Option ZV)) : List (Option MV) := ls.map (Option.map zV)
def ZW (d : Nat) (M : MMeth) (pc : Nat) (ls : List (Option ZV)) (st : List ZV) (g : ZH) (Q : Int → ZH → Prop) : Prop := MW d M pc (zL ls) (st.map zV) (zH g) (zQ Q)
def ZC (d : Nat) (M : MMeth) (vs : List ZV) (g : ZH) (Q : Int → ZH → Prop) : Prop := MC d M (vs.map zV) (zH g) (zQ Q)
def zStart (n : Nat) (vs : List ZV) : List (Option ZV) := vs.map some ++ List.replicate (n - vs.length) none
theorem zL_start (n : Nat) (vs : List ZV) : zL (zStart n vs) = mmStart n (vs.map zV) := by
  unfold zL zStart mmStart
  simp [Function.comp_def]
theorem zL_get {ls : List (Option ZV)} {i : Nat} {v : ZV} (h : ls[i]? = some (some v)) : (zL ls)[i]? = some (some (zV v)) := by
  unfold zL
  rw [List.getElem?_map, h]
  rfl
theorem zL_set {ls ls' : List (Option ZV)} {i : Nat} {v : ZV} (h : ls.set i (some v) = ls') : (zL ls).set i (some (zV v)) = zL ls' := by
  subst h
  unfold zL
  rw [List.map_set]
  rfl
theorem ZC.of {d : Nat} {M : MMeth} {vs : List ZV} {g : ZH} {Q : Int → ZH → Prop} (hy : plainName M.1.cls = true) (hn : vs.length ≤ M.2.2.1) (k : ZW d M 0 (zStart M.2.2.1 vs) [] g Q) : ZC d M vs g Q :=
  MC.of hy (by simpa using hn) (by rw [← zL_start]; exact k)
theorem ZC.mono {d : Nat} {M : MMeth} {vs : List ZV} {g : ZH} {Q Q' : Int → ZH → Prop} (hc : ZC d M vs g Q) (hq : ∀ r g', Q r g' → Q' r g') : ZC d M vs g Q' :=
  MC.mono hc (fun r h' ⟨r', g', e1, e2, e3⟩ => ⟨r', g', e1, e2, hq _ _ e3⟩)
section ZZ
variable {d : Nat} {M : MMeth} {pc : Nat} {ls : List (Option ZV)} {st : List ZV} {g : ZH} {Q : Int → ZH → Prop}
theorem ZW.mono {Q' : Int → ZH → Prop} (k : ZW d M pc ls st g Q) (hq : ∀ r g', Q r g' → Q' r g') : ZW d M pc ls st g Q' :=
  MW.mono k (fun r h' ⟨r', g', e1, e2, e3⟩ => ⟨r', g', e1, e2, hq _ _ e3⟩)
/-- fewer locals known: each place holds the same, or none -/
theorem ZW.locals {ls' : List (Option ZV)} (hs : ∀ (i : Nat) (v : ZV), ls'[i]? = some (some v) → ls[i]? = some (some v)) (k : ZW d M pc ls' st g Q) : ZW d M pc ls st g Q :=
  MW.locals (fun i v hv => by
    unfold zL at hv
    rw [List.getElem?_map] at hv
    cases hq : ls'[i]? with
    | none => rw [hq] at hv; cases hv
    | some o =>
      cases o with
      | none => rw [hq] at hv; cases hv
      | some w =>
        rw [hq] at hv
        have h1 := zL_get (hs i w hq)
        rw [h1]
        exact hv) k
/-- the local i is forgotten -/
theorem ZW.drop (i : Nat) {ls' : List (Option ZV)} (hs : ls.set i none = ls') (k : ZW d M pc ls' st g Q) : ZW d M pc ls st g Q :=
  ZW.locals (fun j v hv => by
    subst hs
    rw [List.getElem?_set] at hv
    split at hv
    · split at hv <;> cases hv
    · exact hv) k
theorem ZW.iconst {n : Int} (hd : decode M.2.1 pc = .ok (.iconst n, 1)) (k : ZW d M (pc + 1) ls (.inl n :: st) g Q) : ZW d M pc ls st g Q := MW.iconst hd rfl k
theorem ZW.bipush {n : Int} (hd : decode M.2.1 pc = .ok (.bipush n, 2)) (hv : (Int8.ofInt n).toInt32 = iI n) (k : ZW d M (pc + 2) ls (.inl n :: st) g Q) : ZW d M pc ls st g Q := MW.bipush hd hv k
theorem ZW.sipush {n : Int} (hd : decode M.2.1 pc = .ok (.sipush n, 3)) (hv : (Int16.ofInt n).toInt32 = iI n) (k : ZW d M (pc + 3) ls (.inl n :: st) g Q) : ZW d M pc ls st g Q := MW.sipush hd hv k
theorem ZW.ldcw {ix : Nat} {v : Int32} {n : Int} (hd : decode M.2.1 pc = .ok (.ldc_w ix, 3)) (hw : Cond.constant M.1.cls ix v ∈ mmWall) (hv : v = iI n) (k : ZW d M (pc + 3) ls (.inl n :: st) g Q) : ZW d M pc ls st g Q := MW.ldcw hd (hv ▸ hw) k
theorem ZW.iload_n {i : Fin 4} {v : Int} (hd : decode M.2.1 pc = .ok (.iload_n i, 1)) (hv : ls[(i : Nat)]? = some (some (.inl v))) (k : ZW d M (pc + 1) ls (.inl v :: st) g Q) : ZW d M pc ls st g Q := MW.iload_n hd (zL_get hv) k
theorem ZW.iload {i : Nat} {v : Int} (hd : decode M.2.1 pc = .ok (.iload i, 2)) (hv : ls[i]? = some (some (.inl v))) (k : ZW d M (pc + 2) ls (.inl v :: st) g Q) : ZW d M pc ls st g Q := MW.iload hd (zL_get hv) k
theorem ZW.aload_n {i : Fin 4} {v : Nat} (hd : decode M.2.1 pc = .ok (.aload_n i, 1)) (hv : ls[(i : Nat)]? = some (some (.inr v))) (k : ZW d M (pc + 1) ls (.inr v :: st) g Q) : ZW d M pc ls st g Q := MW.aload_n hd (zL_get hv) k
theorem ZW.istore_n {i : Fin 4} {v : Int} (hd : decode M.2.1 pc = .ok (.istore_n i, 1)) (hn : (i : Nat) < M.2.2.1) {ls' : List (Option ZV)} (hs : ls.set i (some (.inl v)) = ls') (k : ZW d M (pc + 1) ls' st g Q) : ZW d M pc ls (.inl v :: st) g Q := MW.istore_n hd hn (zL_set hs) k
theorem ZW.istore {i : Nat} {v : Int} (hd : decode M.2.1 pc = .ok (.istore i, 2)) (hn : i < M.2.2.1) {ls' : List (Option ZV)} (hs : ls.set i (some (.inl v)) = ls') (k : ZW d M (pc + 2) ls' st g Q) : ZW d M pc ls (.inl v :: st) g Q := MW.istore hd hn (zL_set hs) k
theorem ZW.iinc {i : Nat} {n x : Int} (hd : decode M.2.1 pc = .ok (.iinc i n, 3)) (hv : ls[i]? = some (some (.inl x))) (hn : i < M.2.2.1) {ls' : List (Option ZV)} (hs : ls.set i (some (.inl (x + n))) = ls') (k : ZW d M (pc + 3) ls' st g Q) : ZW d M pc ls st g Q := MW.iinc hd (zL_get hv) (iI_add x n) hn (zL_set hs) k
theorem ZW.iadd {x y : Int} (hd : decode M.2.1 pc = .ok (.iadd, 1)) (k : ZW d M (pc + 1) ls (.inl (x + y) :: st) g Q) : ZW d M pc ls (.inl y :: .inl x :: st) g Q := MW.iadd hd (iI_add x y) k
theorem ZW.isub {x y : Int} (hd : decode M.2.1 pc = .ok (.isub, 1)) (k : ZW d M (pc + 1) ls (.inl (x - y) :: st) g Q) : ZW d M pc ls (.inl y :: .inl x :: st) g Q := MW.isub hd (iI_sub x y) k
theorem ZW.imul {x y : Int} (hd : decode M.2.1 pc = .ok (.imul, 1)) (k : ZW d M (pc + 1) ls (.inl (x * y) :: st) g Q) : ZW d M pc ls (.inl y :: .inl x :: st) g Q := MW.imul hd (iI_mul x y) k
theorem ZW.ineg {x : Int} (hd : decode M.2.1 pc = .ok (.ineg, 1)) (k : ZW d M (pc + 1) ls (.inl (-x) :: st) g Q) : ZW d M pc ls (.inl x :: st) g Q := MW.ineg hd (iI_neg x) k
theorem ZW.idiv {x y : Int} (hd : decode M.2.1 pc = .ok (.idiv, 1)) (h : 0 ≤ x ∧ x < 2147483648 ∧ 0 < y ∧ y < 2147483648) (k : ZW d M (pc + 1) ls (.inl (x / y) :: st) g Q) : ZW d M pc ls (.inl y :: .inl x :: st) g Q :=
  MW.idiv hd (fun q => by have h1 := (iI_inj (a := y) (b := 0) ⟨by omega, by omega⟩ zR_0).mp q; omega) (iI_div h.1 h.2.1 h.2.2.1 h.2.2.2) k
theorem ZW.irem {x y : Int} (hd : decode M.2.1 pc = .ok (.irem, 1)) (h : 0 ≤ x ∧ x < 2147483648 ∧ 0 < y ∧ y < 2147483648) (k : ZW d M (pc + 1) ls (.inl (x % y) :: st) g Q) : ZW d M pc ls (.inl y :: .inl x :: st) g Q :=
  MW.irem hd (fun q => by have h1 := (iI_inj (a := y) (b := 0) ⟨by omega, by omega⟩ zR_0).mp q; omega) (iI_rem h.1 h.2.1 h.2.2.1 h.2.2.2) k
theorem ZW.iand {x y v : Int} (hd : decode M.2.1 pc = .ok (.iand, 1)) (hv : iI x &&& iI y = iI v) (k : ZW d M (pc + 1) ls (.inl v :: st) g Q) : ZW d M pc ls (.inl y :: .inl x :: st) g Q := MW.iand hd hv k
theorem ZW.ixor {x y v : Int} (hd : decode M.2.1 pc = .ok (.ixor, 1)) (hv : iI x ^^^ iI y = iI v) (k : ZW d M (pc + 1) ls (.inl v :: st) g Q) : ZW d M pc ls (.inl y :: .inl x :: st) g Q := MW.ixor hd hv k
theorem ZW.ishl {x y v : Int} (hd : decode M.2.1 pc = .ok (.ishl, 1)) (hv : iI x <<< (iI y &&& 31) = iI v) (k : ZW d M (pc + 1) ls (.inl v :: st) g Q) : ZW d M pc ls (.inl y :: .inl x :: st) g Q := MW.ishl hd hv k
theorem ZW.ishr {x y v : Int} (hd : decode M.2.1 pc = .ok (.ishr, 1)) (hv : iI x >>> (iI y &&& 31) = iI v) (k : ZW d M (pc + 1) ls (.inl v :: st) g Q) : ZW d M pc ls (.inl y :: .inl x :: st) g Q := MW.ishr hd hv k
theorem ZW.iushr {x y v : Int} (hd : decode M.2.1 pc = .ok (.iushr, 1)) (hv : ((iI x).toUInt32 >>> ((iI y).toUInt32 &&& Int32.toUInt32 31)).toInt32 = iI v) (k : ZW d M (pc + 1) ls (.inl v :: st) g Q) : ZW d M pc ls (.inl y :: .inl x :: st) g Q := MW.iushr hd hv k
theorem ZW.dup {v : ZV} (hd : decode M.2.1 pc = .ok (.dup, 1)) (k : ZW d M (pc + 1) ls (v :: v :: st) g Q) : ZW d M pc ls (v :: st) g Q := MW.dup hd k
theorem ZW.dup2 {v w : ZV} (hd : decode M.2.1 pc = .ok (.dup2, 1)) (k : ZW d M (pc + 1) ls (v :: w :: v :: w :: st) g Q) : ZW d M pc ls (v :: w :: st) g Q := MW.dup2 hd k
theorem ZW.pop {v : ZV} (hd : decode M.2.1 pc = .ok (.pop, 1)) (k : ZW d M (pc + 1) ls st g Q) : ZW d M pc ls (v :: st) g Q := MW.pop hd k
theorem ZW.goto {off : Int} {tgt : Nat} (hd : decode M.2.1 pc = .ok (.goto off, 3)) (ht : (pc : Int) + off = (tgt : Int)) (k : ZW d M tgt ls st g Q) : ZW d M pc ls st g Q := MW.goto hd ht k
theorem ZW.top {x y : Int} (hx : x = y) (k : ZW d M pc ls (.inl y :: st) g Q) : ZW d M pc ls (.inl x :: st) g Q := hx ▸ k
theorem ZW.icmp_eq {x y : Int} {off : Int} {tgt : Nat} (hd : decode M.2.1 pc = .ok (.if_icmp .eq off, 3)) (ht : (pc : Int) + off = (tgt : Int)) (hx : zR x) (hy : zR y) (kt : x = y → ZW d M tgt ls st g Q) (kf : x ≠ y → ZW d M (pc + 3) ls st g Q) : ZW d M pc ls (.inl y :: .inl x :: st) g Q :=
  MW.icmp_eq hd ht (fun hc => kt (by first | exact (iI_inj hx hy).mp hc | exact fun q => hc ((iI_inj hx hy).mpr q) | exact (iI_lt hx hy).mp hc | exact (iI_lt hy hx).mp hc | exact (iI_le hx hy).mp hc | exact (iI_le hy hx).mp hc | exact Int.not_lt.mp (fun q => hc ((iI_lt hx hy).mpr q)) | exact Int.not_lt.mp (fun q => hc ((iI_lt hy hx).mpr q)) | exact Int.not_le.mp (fun q => hc ((iI_le hx hy).mpr q)) | exact Int.not_le.mp (fun q => hc ((iI_le hy hx).mpr q)))) (fun hc => kf (by first | exact (iI_inj hx hy).mp hc | exact fun q => hc ((iI_inj hx hy).mpr q) | exact (iI_lt hx hy).mp hc | exact (iI_lt hy hx).mp hc | exact (iI_le hx hy).mp hc | exact (iI_le hy hx).mp hc | exact Int.not_lt.mp (fun q => hc ((iI_lt hx hy).mpr q)) | exact Int.not_lt.mp (fun q => hc ((iI_lt hy hx).mpr q)) | exact Int.not_le.mp (fun q => hc ((iI_le hx hy).mpr q)) | exact Int.not_le.mp (fun q => hc ((iI_le hy hx).mpr q))))
theorem ZW.if_eq {x : Int} {off : Int} {tgt : Nat} (hd : decode M.2.1 pc = .ok (.ifCond .eq off, 3)) (ht : (pc : Int) + off = (tgt : Int)) (hx : zR x) (kt : x = 0 → ZW d M tgt ls st g Q) (kf : x ≠ 0 → ZW d M (pc + 3) ls st g Q) : ZW d M pc ls (.inl x :: st) g Q :=
  MW.if_eq hd ht (fun hc => kt (by first | exact (iI_inj hx zR_0).mp hc | exact fun q => hc ((iI_inj hx zR_0).mpr q) | exact (iI_lt hx zR_0).mp hc | exact (iI_lt zR_0 hx).mp hc | exact (iI_le hx zR_0).mp hc | exact (iI_le zR_0 hx).mp hc | exact Int.not_lt.mp (fun q => hc ((iI_lt hx zR_0).mpr q)) | exact Int.not_lt.mp (fun q => hc ((iI_lt zR_0 hx).mpr q)) | exact Int.not_le.mp (fun q => hc ((iI_le hx zR_0).mpr q)) | exact Int.not_le.mp (fun q => hc ((iI_le zR_0 hx).mpr q)))) (fun hc => kf (by first | exact (iI_inj hx zR_0).mp hc | exact fun q => hc ((iI_inj hx zR_0).mpr q) | exact (iI_lt hx zR_0).mp hc | exact (iI_lt zR_0 hx).mp hc | exact (iI_le hx zR_0).mp hc | exact (iI_le zR_0 hx).mp hc | exact Int.not_lt.mp (fun q => hc ((iI_lt hx zR_0).mpr q)) | exact Int.not_lt.mp (fun q => hc ((iI_lt zR_0 hx).mpr q)) | exact Int.not_le.mp (fun q => hc ((iI_le hx zR_0).mpr q)) | exact Int.not_le.mp (fun q => hc ((iI_le zR_0 hx).mpr q))))
theorem ZW.icmp_ne {x y : Int} {off : Int} {tgt : Nat} (hd : decode M.2.1 pc = .ok (.if_icmp .ne off, 3)) (ht : (pc : Int) + off = (tgt : Int)) (hx : zR x) (hy : zR y) (kt : x ≠ y → ZW d M tgt ls st g Q) (kf : x = y → ZW d M (pc + 3) ls st g Q) : ZW d M pc ls (.inl y :: .inl x :: st) g Q :=
  MW.icmp_ne hd ht (fun hc => kt (by first | exact (iI_inj hx hy).mp hc | exact fun q => hc ((iI_inj hx hy).mpr q) | exact (iI_lt hx hy).mp hc | exact (iI_lt hy hx).mp hc | exact (iI_le hx hy).mp hc | exact (iI_le hy hx).mp hc | exact Int.not_lt.mp (fun q => hc ((iI_lt hx hy).mpr q)) | exact Int.not_lt.mp (fun q => hc ((iI_lt hy hx).mpr q)) | exact Int.not_le.mp (fun q => hc ((iI_le hx hy).mpr q)) | exact Int.not_le.mp (fun q => hc ((iI_le hy hx).mpr q)))) (fun hc => kf (by first | exact (iI_inj hx hy).mp hc | exact fun q => hc ((iI_inj hx hy).mpr q) | exact (iI_lt hx hy).mp hc | exact (iI_lt hy hx).mp hc | exact (iI_le hx hy).mp hc | exact (iI_le hy hx).mp hc | exact Int.not_lt.mp (fun q => hc ((iI_lt hx hy).mpr q)) | exact Int.not_lt.mp (fun q => hc ((iI_lt hy hx).mpr q)) | exact Int.not_le.mp (fun q => hc ((iI_le hx hy).mpr q)) | exact Int.not_le.mp (fun q => hc ((iI_le hy hx).mpr q))))
theorem ZW.if_ne {x : Int} {off : Int} {tgt : Nat} (hd : decode M.2.1 pc = .ok (.ifCond .ne off, 3)) (ht : (pc : Int) + off = (tgt : Int)) (hx : zR x) (kt : x ≠ 0 → ZW d M tgt ls st g Q) (kf : x = 0 → ZW d M (pc + 3) ls st g Q) : ZW d M pc ls (.inl x :: st) g Q :=
  MW.if_ne hd ht (fun hc => kt (by first | exact (iI_inj hx zR_0).mp hc | exact fun q => hc ((iI_inj hx zR_0).mpr q) | exact (iI_lt hx zR_0).mp hc | exact (iI_lt zR_0 hx).mp hc | exact (iI_le hx zR_0).mp hc | exact (iI_le zR_0 hx).mp hc | exact Int.not_lt.mp (fun q => hc ((iI_lt hx zR_0).mpr q)) | exact Int.not_lt.mp (fun q => hc ((iI_lt zR_0 hx).mpr q)) | exact Int.not_le.mp (fun q => hc ((iI_le hx zR_0).mpr q)) | exact Int.not_le.mp (fun q => hc ((iI_le zR_0 hx).mpr q)))) (fun hc => kf (by first | exact (iI_inj hx zR_0).mp hc | exact fun q => hc ((iI_inj hx zR_0).mpr q) | exact (iI_lt hx zR_0).mp hc | exact (iI_lt zR_0 hx).mp hc | exact (iI_le hx zR_0).mp hc | exact (iI_le zR_0 hx).mp hc | exact Int.not_lt.mp (fun q => hc ((iI_lt hx zR_0).mpr q)) | exact Int.not_lt.mp (fun q => hc ((iI_lt zR_0 hx).mpr q)) | exact Int.not_le.mp (fun q => hc ((iI_le hx zR_0).mpr q)) | exact Int.not_le.mp (fun q => hc ((iI_le zR_0 hx).mpr q))))
theorem ZW.icmp_lt {x y : Int} {off : Int} {tgt : Nat} (hd : decode M.2.1 pc = .ok (.if_icmp .lt off, 3)) (ht : (pc : Int) + off = (tgt : Int)) (hx : zR x) (hy : zR y) (kt : x < y → ZW d M tgt ls st g Q) (kf : y ≤ x → ZW d M (pc + 3) ls st g Q) : ZW d M pc ls (.inl y :: .inl x :: st) g Q :=
  MW.icmp_lt hd ht (fun hc => kt (by first | exact (iI_inj hx hy).mp hc | exact fun q => hc ((iI_inj hx hy).mpr q) | exact (iI_lt hx hy).mp hc | exact (iI_lt hy hx).mp hc | exact (iI_le hx hy).mp hc | exact (iI_le hy hx).mp hc | exact Int.not_lt.mp (fun q => hc ((iI_lt hx hy).mpr q)) | exact Int.not_lt.mp (fun q => hc ((iI_lt hy hx).mpr q)) | exact Int.not_le.mp (fun q => hc ((iI_le hx hy).mpr q)) | exact Int.not_le.mp (fun q => hc ((iI_le hy hx).mpr q)))) (fun hc => kf (by first | exact (iI_inj hx hy).mp hc | exact fun q => hc ((iI_inj hx hy).mpr q) | exact (iI_lt hx hy).mp hc | exact (iI_lt hy hx).mp hc | exact (iI_le hx hy).mp hc | exact (iI_le hy hx).mp hc | exact Int.not_lt.mp (fun q => hc ((iI_lt hx hy).mpr q)) | exact Int.not_lt.mp (fun q => hc ((iI_lt hy hx).mpr q)) | exact Int.not_le.mp (fun q => hc ((iI_le hx hy).mpr q)) | exact Int.not_le.mp (fun q => hc ((iI_le hy hx).mpr q))))
theorem ZW.if_lt {x : Int} {off : Int} {tgt : Nat} (hd : decode M.2.1 pc = .ok (.ifCond .lt off, 3)) (ht : (pc : Int) + off = (tgt : Int)) (hx : zR x) (kt : x < 0 → ZW d M tgt ls st g Q) (kf : 0 ≤ x → ZW d M (pc + 3) ls st g Q) : ZW d M pc ls (.inl x :: st) g Q :=
  MW.if_lt hd ht (fun hc => kt (by first | exact (iI_inj hx zR_0).mp hc | exact fun q => hc ((iI_inj hx zR_0).mpr q) | exact (iI_lt hx zR_0).mp hc | exact (iI_lt zR_0 hx).mp hc | exact (iI_le hx zR_0).mp hc | exact (iI_le zR_0 hx).mp hc | exact Int.not_lt.mp (fun q => hc ((iI_lt hx zR_0).mpr q)) | exact Int.not_lt.mp (fun q => hc ((iI_lt zR_0 hx).mpr q)) | exact Int.not_le.mp (fun q => hc ((iI_le hx zR_0).mpr q)) | exact Int.not_le.mp (fun q => hc ((iI_le zR_0 hx).mpr q)))) (fun hc => kf (by first | exact (iI_inj hx zR_0).mp hc | exact fun q => hc ((iI_inj hx zR_0).mpr q) | exact (iI_lt hx zR_0).mp hc | exact (iI_lt zR_0 hx).mp hc | exact (iI_le hx zR_0).mp hc | exact (iI_le zR_0 hx).mp hc | exact Int.not_lt.mp (fun q => hc ((iI_lt hx zR_0).mpr q)) | exact Int.not_lt.mp (fun q => hc ((iI_lt zR_0 hx).mpr q)) | exact Int.not_le.mp (fun q => hc ((iI_le hx zR_0).mpr q)) | exact Int.not_le.mp (fun q => hc ((iI_le zR_0 hx).mpr q))))
theorem ZW.icmp_ge {x y : Int} {off : Int} {tgt : Nat} (hd : decode M.2.1 pc = .ok (.if_icmp .ge off, 3)) (ht : (pc : Int) + off = (tgt : Int)) (hx : zR x) (hy : zR y) (kt : y ≤ x → ZW d M tgt ls st g Q) (kf : x < y → ZW d M (pc + 3) ls st g Q) : ZW d M pc ls (.inl y :: .inl x :: st) g Q :=
  MW.icmp_ge hd ht (fun hc => kt (by first | exact (iI_inj hx hy).mp hc | exact fun q => hc ((iI_inj hx hy).mpr q) | exact (iI_lt hx hy).mp hc | exact (iI_lt hy hx).mp hc | exact (iI_le hx hy).mp hc | exact (iI_le hy hx).mp hc | exact Int.not_lt.mp (fun q => hc ((iI_lt hx hy).mpr q)) | exact Int.not_lt.mp (fun q => hc ((iI_lt hy hx).mpr q)) | exact Int.not_le.mp (fun q => hc ((iI_le hx hy).mpr q)) | exact Int.not_le.mp (fun q => hc ((iI_le hy hx).mpr q)))) (fun hc => kf (by first | exact (iI_inj hx hy).mp hc | exact fun q => hc ((iI_inj hx hy).mpr q) | exact (iI_lt hx hy).mp hc | exact (iI_lt hy hx).mp hc | exact (iI_le hx hy).mp hc | exact (iI_le hy hx).mp hc | exact Int.not_lt.mp (fun q => hc ((iI_lt hx hy).mpr q)) | exact Int.not_lt.mp (fun q => hc ((iI_lt hy hx).mpr q)) | exact Int.not_le.mp (fun q => hc ((iI_le hx hy).mpr q)) | exact Int.not_le.mp (fun q => hc ((iI_le hy hx).mpr q))))
theorem ZW.if_ge {x : Int} {off : Int} {tgt : Nat} (hd : decode M.2.1 pc = .ok (.ifCond .ge off, 3)) (ht : (pc : Int) + off = (tgt : Int)) (hx : zR x) (kt : 0 ≤ x → ZW d M tgt ls st g Q) (kf : x < 0 → ZW d M (pc + 3) ls st g Q) : ZW d M pc ls (.inl x :: st) g Q :=
  MW.if_ge hd ht (fun hc => kt (by first | exact (iI_inj hx zR_0).mp hc | exact fun q => hc ((iI_inj hx zR_0).mpr q) | exact (iI_lt hx zR_0).mp hc | exact (iI_lt zR_0 hx).mp hc | exact (iI_le hx zR_0).mp hc | exact (iI_le zR_0 hx).mp hc | exact Int.not_lt.mp (fun q => hc ((iI_lt hx zR_0).mpr q)) | exact Int.not_lt.mp (fun q => hc ((iI_lt zR_0 hx).mpr q)) | exact Int.not_le.mp (fun q => hc ((iI_le hx zR_0).mpr q)) | exact Int.not_le.mp (fun q => hc ((iI_le zR_0 hx).mpr q)))) (fun hc => kf (by first | exact (iI_inj hx zR_0).mp hc | exact fun q => hc ((iI_inj hx zR_0).mpr q) | exact (iI_lt hx zR_0).mp hc | exact (iI_lt zR_0 hx).mp hc | exact (iI_le hx zR_0).mp hc | exact (iI_le zR_0 hx).mp hc | exact Int.not_lt.mp (fun q => hc ((iI_lt hx zR_0).mpr q)) | exact Int.not_lt.mp (fun q => hc ((iI_lt zR_0 hx).mpr q)) | exact Int.not_le.mp (fun q => hc ((iI_le hx zR_0).mpr q)) | exact Int.not_le.mp (fun q => hc ((iI_le zR_0 hx).mpr q))))
theorem ZW.icmp_gt {x y : Int} {off : Int} {tgt : Nat} (hd : decode M.2.1 pc = .ok (.if_icmp .gt off, 3)) (ht : (pc : Int) + off = (tgt : Int)) (hx : zR x) (hy : zR y) (kt : y < x → ZW d M tgt ls st g Q) (kf : x ≤ y → ZW d M (pc + 3) ls st g Q) : ZW d M pc ls (.inl y :: .inl x :: st) g Q :=
  MW.icmp_gt hd ht (fun hc => kt (by first | exact (iI_inj hx hy).mp hc | exact fun q => hc ((iI_inj hx hy).mpr q) | exact (iI_lt hx hy).mp hc | exact (iI_lt hy hx).mp hc | exact (iI_le hx hy).mp hc | exact (iI_le hy hx).mp hc | exact Int.not_lt.mp (fun q => hc ((iI_lt hx hy).mpr q)) | exact Int.not_lt.mp (fun q => hc ((iI_lt hy hx).mpr q)) | exact Int.not_le.mp (fun q => hc ((iI_le hx hy).mpr q)) | exact Int.not_le.mp (fun q => hc ((iI_le hy hx).mpr q)))) (fun hc => kf (by first | exact (iI_inj hx hy).mp hc | exact fun q => hc ((iI_inj hx hy).mpr q) | exact (iI_lt hx hy).mp hc | exact (iI_lt hy hx).mp hc | exact (iI_le hx hy).mp hc | exact (iI_le hy hx).mp hc | exact Int.not_lt.mp (fun q => hc ((iI_lt hx hy).mpr q)) | exact Int.not_lt.mp (fun q => hc ((iI_lt hy hx).mpr q)) | exact Int.not_le.mp (fun q => hc ((iI_le hx hy).mpr q)) | exact Int.not_le.mp (fun q => hc ((iI_le hy hx).mpr q))))
theorem ZW.if_gt {x : Int} {off : Int} {tgt : Nat} (hd : decode M.2.1 pc = .ok (.ifCond .gt off, 3)) (ht : (pc : Int) + off = (tgt : Int)) (hx : zR x) (kt : 0 < x → ZW d M tgt ls st g Q) (kf : x ≤ 0 → ZW d M (pc + 3) ls st g Q) : ZW d M pc ls (.inl x :: st) g Q :=
  MW.if_gt hd ht (fun hc => kt (by first | exact (iI_inj hx zR_0).mp hc | exact fun q => hc ((iI_inj hx zR_0).mpr q) | exact (iI_lt hx zR_0).mp hc | exact (iI_lt zR_0 hx).mp hc | exact (iI_le hx zR_0).mp hc | exact (iI_le zR_0 hx).mp hc | exact Int.not_lt.mp (fun q => hc ((iI_lt hx zR_0).mpr q)) | exact Int.not_lt.mp (fun q => hc ((iI_lt zR_0 hx).mpr q)) | exact Int.not_le.mp (fun q => hc ((iI_le hx zR_0).mpr q)) | exact Int.not_le.mp (fun q => hc ((iI_le zR_0 hx).mpr q)))) (fun hc => kf (by first | exact (iI_inj hx zR_0).mp hc | exact fun q => hc ((iI_inj hx zR_0).mpr q) | exact (iI_lt hx zR_0).mp hc | exact (iI_lt zR_0 hx).mp hc | exact (iI_le hx zR_0).mp hc | exact (iI_le zR_0 hx).mp hc | exact Int.not_lt.mp (fun q => hc ((iI_lt hx zR_0).mpr q)) | exact Int.not_lt.mp (fun q => hc ((iI_lt zR_0 hx).mpr q)) | exact Int.not_le.mp (fun q => hc ((iI_le hx zR_0).mpr q)) | exact Int.not_le.mp (fun q => hc ((iI_le zR_0 hx).mpr q))))
theorem ZW.icmp_le {x y : Int} {off : Int} {tgt : Nat} (hd : decode M.2.1 pc = .ok (.if_icmp .le off, 3)) (ht : (pc : Int) + off = (tgt : Int)) (hx : zR x) (hy : zR y) (kt : x ≤ y → ZW d M tgt ls st g Q) (kf : y < x → ZW d M (pc + 3) ls st g Q) : ZW d M pc ls (.inl y :: .inl x :: st) g Q :=
  MW.icmp_le hd ht (fun hc => kt (by first | exact (iI_inj hx hy).mp hc | exact fun q => hc ((iI_inj hx hy).mpr q) | exact (iI_lt hx hy).mp hc | exact (iI_lt hy hx).mp hc | exact (iI_le hx hy).mp hc | exact (iI_le hy hx).mp hc | exact Int.not_lt.mp (fun q => hc ((iI_lt hx hy).mpr q)) | exact Int.not_lt.mp (fun q => hc ((iI_lt hy hx).mpr q)) | exact Int.not_le.mp (fun q => hc ((iI_le hx hy).mpr q)) | exact Int.not_le.mp (fun q => hc ((iI_le hy hx).mpr q)))) (fun hc => kf (by first | exact (iI_inj hx hy).mp hc | exact fun q => hc ((iI_inj hx hy).mpr q) | exact (iI_lt hx hy).mp hc | exact (iI_lt hy hx).mp hc | exact (iI_le hx hy).mp hc | exact (iI_le hy hx).mp hc | exact Int.not_lt.mp (fun q => hc ((iI_lt hx hy).mpr q)) | exact Int.not_lt.mp (fun q => hc ((iI_lt hy hx).mpr q)) | exact Int.not_le.mp (fun q => hc ((iI_le hx hy).mpr q)) | exact Int.not_le.mp (fun q => hc ((iI_le hy hx).mpr q))))
theorem ZW.if_le {x : Int} {off : Int} {tgt : Nat} (hd : decode M.2.1 pc = .ok (.ifCond .le off, 3)) (ht : (pc : Int) + off = (tgt : Int)) (hx : zR x) (kt : x ≤ 0 → ZW d M tgt ls st g Q) (kf : 0 < x → ZW d M (pc + 3) ls st g Q) : ZW d M pc ls (.inl x :: st) g Q :=
  MW.if_le hd ht (fun hc => kt (by first | exact (iI_inj hx zR_0).mp hc | exact fun q => hc ((iI_inj hx zR_0).mpr q) | exact (iI_lt hx zR_0).mp hc | exact (iI_lt zR_0 hx).mp hc | exact (iI_le hx zR_0).mp hc | exact (iI_le zR_0 hx).mp hc | exact Int.not_lt.mp (fun q => hc ((iI_lt hx zR_0).mpr q)) | exact Int.not_lt.mp (fun q => hc ((iI_lt zR_0 hx).mpr q)) | exact Int.not_le.mp (fun q => hc ((iI_le hx zR_0).mpr q)) | exact Int.not_le.mp (fun q => hc ((iI_le zR_0 hx).mpr q)))) (fun hc => kf (by first | exact (iI_inj hx zR_0).mp hc | exact fun q => hc ((iI_inj hx zR_0).mpr q) | exact (iI_lt hx zR_0).mp hc | exact (iI_lt zR_0 hx).mp hc | exact (iI_le hx zR_0).mp hc | exact (iI_le zR_0 hx).mp hc | exact Int.not_lt.mp (fun q => hc ((iI_lt hx zR_0).mpr q)) | exact Int.not_lt.mp (fun q => hc ((iI_lt zR_0 hx).mpr q)) | exact Int.not_le.mp (fun q => hc ((iI_le hx zR_0).mpr q)) | exact Int.not_le.mp (fun q => hc ((iI_le zR_0 hx).mpr q))))
theorem ZW.getI {ix k ci f : Nat} {fz : Int} (hd : decode M.2.1 pc = .ok (.getfield ix, 3)) (hf : mmFL M.1.cls ix ci f) (hk : mmFk k ci f none) (hz : (f : Int) = fz) {v : Int} (hv : g k fz = v) (kk : ZW d M (pc + 3) ls (.inl v :: st) g Q) : ZW d M pc ls (.inr k :: st) g Q := MW.getI hd hf hk (v := iI v) (by rw [← hv, ← hz]; rfl) kk
theorem ZW.getR {ix k ci f j : Nat} (hd : decode M.2.1 pc = .ok (.getfield ix, 3)) (hf : mmFL M.1.cls ix ci f) (hk : mmFk k ci f (some j)) (kk : ZW d M (pc + 3) ls (.inr j :: st) g Q) : ZW d M pc ls (.inr k :: st) g Q := MW.getR hd hf hk kk
theorem ZW.puti {ix k ci f : Nat} {v fz : Int} (hd : decode M.2.1 pc = .ok (.putfield ix, 3)) (hf : mmFP M.1.cls ix ci f .int) (hk : mmFk k ci f none) (hz : (f : Int) = fz) (kk : ZW d M (pc + 3) ls st (zSet g k fz v) Q) : ZW d M pc ls (.inl v :: .inr k :: st) g Q :=
  MW.put hd hf hk rfl rfl (by subst hz; rw [show mmSet (zH g) k f (iI v) = zH (zSet g k (f : Int) v) from zH_set g k (i := (f : Int)) v (Int.natCast_nonneg f)]; exact kk)
theorem ZW.putz {ix k ci f : Nat} {v fz : Int} (hd : decode M.2.1 pc = .ok (.putfield ix, 3)) (hf : mmFP M.1.cls ix ci f .boolean) (hk : mmFk k ci f none) (hz : (f : Int) = fz) (hb : v = 0 ∨ v = 1) (kk : ZW d M (pc + 3) ls st (zSet g k fz v) Q) : ZW d M pc ls (.inl v :: .inr k :: st) g Q :=
  MW.put hd hf hk (by rcases hb with rfl | rfl <;> rfl) (by rcases hb with rfl | rfl <;> rfl) (by subst hz; rw [show mmSet (zH g) k f (iI v) = zH (zSet g k (f : Int) v) from zH_set g k (i := (f : Int)) v (Int.natCast_nonneg f)]; exact kk)
theorem iI_char {v : Int} (h0 : 0 ≤ v) (h : v < 65536) : narrow .char (.int (iI v)) = .int (iI v) ∧ fits .char (.int (iI v)) = true := by
  obtain ⟨n, rfl⟩ := Int.eq_ofNat_of_zero_le h0
  exact pk_charN (by omega)
theorem ZW.putc {ix k ci f : Nat} {v fz : Int} (hd : decode M.2.1 pc = .ok (.putfield ix, 3)) (hf : mmFP M.1.cls ix ci f .char) (hk : mmFk k ci f none) (hz : (f : Int) = fz) (hb : 0 ≤ v ∧ v < 65536) (kk : ZW d M (pc + 3) ls st (zSet g k fz v) Q) : ZW d M pc ls (.inl v :: .inr k :: st) g Q :=
  MW.put hd hf hk (iI_char hb.1 hb.2).1 (iI_char hb.1 hb.2).2 (by subst hz; rw [show mmSet (zH g) k f (iI v) = zH (zSet g k (f : Int) v) from zH_set g k (i := (f : Int)) v (Int.natCast_nonneg f)]; exact kk)
theorem ZW.iald {k n : Nat} {i v : Int} (hd : decode M.2.1 pc = .ok (.iaload, 1)) (hk : mmAr k 0 n) (hn : n < 2147483648) (hi : 0 ≤ i ∧ i < (n : Int)) (hv : g k i = v) (kk : ZW d M (pc + 1) ls (.inl v :: st) g Q) : ZW d M pc ls (.inl i :: .inr k :: st) g Q :=
  MW.iald (v := iI v) hd hk (iI_ix hi.1 hi.2 hn) (by rw [zH_get g k hi.1 (by omega), hv]) kk
theorem ZW.cald {k n : Nat} {i v : Int} (hd : decode M.2.1 pc = .ok (.caload, 1)) (hk : mmAr k 1 n) (hn : n < 2147483648) (hi : 0 ≤ i ∧ i < (n : Int)) (hv : g k i = v) (kk : ZW d M (pc + 1) ls (.inl v :: st) g Q) : ZW d M pc ls (.inl i :: .inr k :: st) g Q :=
  MW.cald (v := iI v) hd hk (iI_ix hi.1 hi.2 hn) (by rw [zH_get g k hi.1 (by omega), hv]) kk
theorem ZW.zald {k n : Nat} {i v : Int} (hd : decode M.2.1 pc = .ok (.baload, 1)) (hk : mmAr k 2 n) (hn : n < 2147483648) (hi : 0 ≤ i ∧ i < (n : Int)) (hv : g k i = v) (kk : ZW d M (pc + 1) ls (.inl v :: st) g Q) : ZW d M pc ls (.inl i :: .inr k :: st) g Q :=
  MW.zald (v := iI v) hd hk (iI_ix hi.1 hi.2 hn) (by rw [zH_get g k hi.1 (by omega), hv]) kk
theorem ZW.aald {k n j : Nat} {rs : List Nat} {i : Int} (hd : decode M.2.1 pc = .ok (.aaload, 1)) (hk : mmLay[k]? = some (.inr (3, n, some rs))) (hn : n < 2147483648) (hi : 0 ≤ i ∧ i < (n : Int)) (hj : rs[i.toNat]? = some j) (kk : ZW d M (pc + 1) ls (.inr j :: st) g Q) : ZW d M pc ls (.inl i :: .inr k :: st) g Q :=
  MW.aald hd hk (iI_ix hi.1 hi.2 hn) (by rw [iI_cl hi.1 (by omega)]; exact hj) kk
theorem ZW.alen {k n : Nat} {v : Int} (hd : decode M.2.1 pc = .ok (.arraylength, 1)) (hk : mmAr k 0 n) (hv : (n : Int) = v) (kk : ZW d M (pc + 1) ls (.inl v :: st) g Q) : ZW d M pc ls (.inr k :: st) g Q :=
  MW.alen (v := iI v) (ty := .int) hd hk rfl (by rw [← hv]; rfl) kk
theorem ZW.iast {k n : Nat} {i v : Int} (hd : decode M.2.1 pc = .ok (.iastore, 1)) (hk : mmAr k 0 n) (hn : n < 2147483648) (hi : 0 ≤ i ∧ i < (n : Int)) (kk : ZW d M (pc + 1) ls st (zSet g k i v) Q) : ZW d M pc ls (.inl v :: .inl i :: .inr k :: st) g Q :=
  MW.iast hd hk (iI_ix hi.1 hi.2 hn) (by rw [iI_cl hi.1 (by omega), zH_set g k v hi.1]; exact kk)
theorem vp_nar_c {v : Int} (h0 : 0 ≤ v) (h : v < 65536) : vp_nar .char (iI v) = iI v := by
  unfold vp_nar
  rw [(iI_char h0 h).1]
theorem ZW.cast {k n : Nat} {i v : Int} (hd : decode M.2.1 pc = .ok (.castore, 1)) (hk : mmAr k 1 n) (hn : n < 2147483648) (hi : 0 ≤ i ∧ i < (n : Int)) (hb : 0 ≤ v ∧ v < 65536) (kk : ZW d M (pc + 1) ls st (zSet g k i v) Q) : ZW d M pc ls (.inl v :: .inl i :: .inr k :: st) g Q :=
  MW.cast (w := iI v) hd hk (iI_ix hi.1 hi.2 hn) (vp_nar_c hb.1 hb.2) (by rw [iI_cl hi.1 (by omega), zH_set g k v hi.1]; exact kk)
theorem ZW.zast {k n : Nat} {i v : Int} (hd : decode M.2.1 pc = .ok (.bastore, 1)) (hk : mmAr k 2 n) (hn : n < 2147483648) (hi : 0 ≤ i ∧ i < (n : Int)) (hb : v = 0 ∨ v = 1) (kk : ZW d M (pc + 1) ls st (zSet g k i v) Q) : ZW d M pc ls (.inl v :: .inl i :: .inr k :: st) g Q :=
  MW.zast (w := iI v) hd hk (iI_ix hi.1 hi.2 hn) (by rcases hb with rfl | rfl <;> rfl) (by rw [iI_cl hi.1 (by omega), zH_set g k v hi.1]; exact kk)
theorem ZW.ireti {v : Int} (hd : decode M.2.1 pc = .ok (.ireturn, 1)) (hr : M.2.2.2 = some .int) (hq : Q v g) : ZW d M pc ls (.inl v :: []) g Q := MW.iret hd hr rfl ⟨v, g, rfl, rfl, hq⟩
theorem ZW.iretz {v : Int} (hd : decode M.2.1 pc = .ok (.ireturn, 1)) (hr : M.2.2.2 = some .boolean) (hb : v = 0 ∨ v = 1) (hq : Q v g) : ZW d M pc ls (.inl v :: []) g Q := MW.iret hd hr (by rcases hb with rfl | rfl <;> rfl) ⟨v, g, rfl, rfl, hq⟩
theorem ZW.vret (hd : decode M.2.1 pc = .ok (.return_, 1)) (hr : M.2.2.2 = none) (hq : Q 0 g) : ZW d M pc ls [] g Q := MW.vret hd hr ⟨0, g, rfl, rfl, hq⟩
theorem ZW.tableOut {dflt lo hi : Int} {offs : Array Int} {len tgt : Nat} {x : Int} (hd : decode M.2.1 pc = .ok (.tableswitch dflt lo hi offs, len)) (hr : zR x) (hx : x < lo ∨ hi < x) (ht : (pc : Int) + dflt = (tgt : Int)) (k : ZW d M tgt ls st g Q) : ZW d M pc ls (.inl x :: st) g Q := MW.tableOut hd (by rw [iI_toInt hr]; exact hx) ht k
theorem ZW.tableIn {dflt lo hi off : Int} {offs : Array Int} {len tgt : Nat} {x : Int} (hd : decode M.2.1 pc = .ok (.tableswitch dflt lo hi offs, len)) (hr : zR x) (hx : lo ≤ x ∧ x ≤ hi) (ho : offs[(x - lo).toNat]? = some off) (ht : (pc : Int) + off = (tgt : Int)) (k : ZW d M tgt ls st g Q) : ZW d M pc ls (.inl x :: st) g Q := MW.tableIn hd (by rw [iI_toInt hr]; omega) (by rw [iI_toInt hr]; omega) (by rw [iI_toInt hr]; exact ho) ht k
theorem ZW.callS {d2 ix : Nat} {M2 : MMeth} {as : List ZV} {st0 : List ZV} {Q2 : Int → ZH → Prop} {ty : FieldType} (hd : decode M.2.1 pc = .ok (.invokestatic ix, 3)) (hl2 : mmCS M.1.cls ix M2 as.length) (hr2 : M2.2.2.2 = some ty) (hdd : d2 + 1 ≤ d) (hst : st.length ≤ 8) (hs : st0 = as.reverse ++ st) (hc : ZC d2 M2 as g Q2) (kk : ∀ r g', Q2 r g' → ZW d M (pc + 3) ls (.inl r :: st) g' Q) : ZW d M pc ls st0 g Q := by
  subst hs
  refine MW.callS (as := as.map zV) (st := st.map zV) hd (by rw [List.length_map]; exact hl2) hr2 hdd (by rw [List.length_map]; exact hst) (by simp [zV]) hc (fun r h' ⟨r', g', e1, e2, e3⟩ => by subst e1; subst e2; exact kk r' g' e3)
theorem ZW.callSv {d2 ix : Nat} {M2 : MMeth} {as : List ZV} {st0 : List ZV} {Q2 : Int → ZH → Prop} (hd : decode M.2.1 pc = .ok (.invokestatic ix, 3)) (hl2 : mmCS M.1.cls ix M2 as.length) (hr2 : M2.2.2.2 = none) (hdd : d2 + 1 ≤ d) (hst : st.length ≤ 8) (hs : st0 = as.reverse ++ st) (h0 : ∀ r g', Q2 r g' → 0 = iI r → Q2 0 g') (hc : ZC d2 M2 as g Q2) (kk : ∀ g', Q2 0 g' → ZW d M (pc + 3) ls st g' Q) : ZW d M pc ls st0 g Q := by
  subst hs
  refine MW.callSv (as := as.map zV) (st := st.map zV) hd (by rw [List.length_map]; exact hl2) hr2 hdd (by rw [List.length_map]; exact hst) (by simp [zV]) hc (fun h' ⟨r', g', e1, e2, e3⟩ => by subst e2; exact kk g' (h0 r' g' e3 e1))
theorem ZW.callV {d2 ix : Nat} {k ci : Nat} {M2 : MMeth} {as : List ZV} {st0 : List ZV} {Q2 : Int → ZH → Prop} {ty : FieldType} (hd : decode M.2.1 pc = .ok (.invokevirtual ix, 3)) (hl2 : mmCV M.1.cls ix M2 as.length ci) (hk : mmIsObj k ci) (hr2 : M2.2.2.2 = some ty) (hdd : d2 + 1 ≤ d) (hst : st.length ≤ 8) (hs : st0 = as.reverse ++ .inr k :: st) (hc : ZC d2 M2 (.inr k :: as) g Q2) (kk : ∀ r g', Q2 r g' → ZW d M (pc + 3) ls (.inl r :: st) g' Q) : ZW d M pc ls st0 g Q := by
  subst hs
  refine MW.callV (as := as.map zV) (st := st.map zV) hd (by rw [List.length_map]; exact hl2) hk hr2 hdd (by rw [List.length_map]; exact hst) (by simp [zV]) hc (fun r h' ⟨r', g', e1, e2, e3⟩ => by subst e1; subst e2; exact kk r' g' e3)
theorem ZW.callVv {d2 ix : Nat} {k ci : Nat} {M2 : MMeth} {as : List ZV} {st0 : List ZV} {Q2 : Int → ZH → Prop} (hd : decode M.2.1 pc = .ok (.invokevirtual ix, 3)) (hl2 : mmCV M.1.cls ix M2 as.length ci) (hk : mmIsObj k ci) (hr2 : M2.2.2.2 = none) (hdd : d2 + 1 ≤ d) (hst : st.length ≤ 8) (hs : st0 = as.reverse ++ .inr k :: st) (h0 : ∀ r g', Q2 r g' → 0 = iI r → Q2 0 g') (hc : ZC d2 M2 (.inr k :: as) g Q2) (kk : ∀ g', Q2 0 g' → ZW d M (pc + 3) ls st g' Q) : ZW d M pc ls st0 g Q := by
  subst hs
  refine MW.callVv (as := as.map zV) (st := st.map zV) hd (by rw [List.length_map]; exact hl2) hk hr2 hdd (by rw [List.length_map]; exact hst) (by simp [zV]) hc (fun h' ⟨r', g', e1, e2, e3⟩ => by subst e2; exact kk g' (h0 r' g' e3 e1))
theorem zH_cpy (g : ZH) (k0 k1 : Nat) {sp dp n : Int} (h0 : 0 ≤ sp) (h1 : 0 ≤ dp) (h2 : 0 ≤ n) : mmUp (zH g) k1 (va_cpy (zH g k0) (zH g k1) sp.toNat dp.toNat n.toNat) = zH (zRow g k1 (zCpy (g k0) (g k1) sp dp n)) := by
  refine zH_up g k1 _ _ (fun j => ?_)
  unfold va_cpy zCpy zH
  by_cases hj : dp.toNat ≤ j ∧ j < dp.toNat + n.toNat
  · rw [if_pos hj, if_pos (by omega)]
    congr 2
    omega
  · rw [if_neg hj, if_neg (by omega)]
theorem ZW.copy {ix k0 k1 n0 n1 : Nat} {sp dp n : Int} (hd : decode M.2.1 pc = .ok (.invokestatic ix, 3)) (h1 : Cond.methodLink M.1.cls ix arraycopyName ∈ mmWall) (h2 : Cond.native arraycopyName ∈ mmWall) (h3 : Cond.static arraycopyName ∈ mmWall) (h4 : Cond.initialized "java/lang/System" ∈ mmWall) (hk0 : mmAr k0 0 n0) (hk1 : mmAr k1 0 n1) (hn : n0 < 2147483648 ∧ n1 < 2147483648) (hg : 0 ≤ sp ∧ 0 ≤ dp ∧ 0 ≤ n ∧ sp + n ≤ n0 ∧ dp + n ≤ n1) (hdd : 2 ≤ d) (hst : st.length ≤ 8) (kk : ZW d M (pc + 3) ls st (zRow g k1 (zCpy (g k0) (g k1) sp dp n)) Q) : ZW d M pc ls (.inl n :: .inl dp :: .inr k1 :: .inl sp :: .inr k0 :: st) g Q := by
  obtain ⟨g1, g2, g3, g4, g5⟩ := hg
  have neg : ∀ z : Int, 0 ≤ z → z < 2147483648 → ¬ iI z < 0 := fun z hz hz2 q => by
    have q1 := (iI_lt (b := 0) ⟨by omega, by omega⟩ zR_0).mp q
    omega
  refine MW.copy (st := st.map zV) hd h1 h2 h3 h4 hk0 hk1 (neg sp g1 (by omega)) (neg dp g2 (by omega)) (neg n g3 (by omega)) (by rw [iI_cl g1 (by omega), iI_cl g3 (by omega)]; omega) (by rw [iI_cl g2 (by omega), iI_cl g3 (by omega)]; omega) hdd (by rw [List.length_map]; exact hst) ?_
  rw [iI_cl g1 (by omega), iI_cl g2 (by omega), iI_cl g3 (by omega), zH_cpy g k0 k1 g1 g2 g3]
  exact kk

theorem ZW.mmax {ix : Nat} {x y : Int} (hd : decode M.2.1 pc = .ok (.invokestatic ix, 3)) (h1 : Cond.methodLink M.1.cls ix Lib.Math.max.name ∈ mmWall) (h2 : Cond.static Lib.Math.max.name ∈ mmWall) (h3 : Cond.initialized "java/lang/Math" ∈ mmWall) (h4 : Cond.code Lib.Math.max.name Lib.Math.max.code 2 (some .int) ∈ mmWall) (hdd : 1 ≤ d) (hst : st.length ≤ 8) (hx : zR x) (hy : zR y) (kk : ZW d M (pc + 3) ls (.inl (maxF x y) :: st) g Q) : ZW d M pc ls (.inl y :: .inl x :: st) g Q := by
  refine MW.mmax (st := st.map zV) (v := iI (maxF x y)) hd h1 h2 h3 h4 hdd (by rw [List.length_map]; exact hst) ?_ kk
  · unfold maxF
    by_cases q : x < y
    · rw [if_pos q, if_pos ((iI_lt hx hy).mpr q)]
    · rw [if_neg q, if_neg (fun z => q ((iI_lt hx hy).mp z))]
theorem ZW.mmin {ix : Nat} {x y : Int} (hd : decode M.2.1 pc = .ok (.invokestatic ix, 3)) (h1 : Cond.methodLink M.1.cls ix Lib.Math.min.name ∈ mmWall) (h2 : Cond.static Lib.Math.min.name ∈ mmWall) (h3 : Cond.initialized "java/lang/Math" ∈ mmWall) (h4 : Cond.code Lib.Math.min.name Lib.Math.min.code 2 (some .int) ∈ mmWall) (hdd : 1 ≤ d) (hst : st.length ≤ 8) (hx : zR x) (hy : zR y) (kk : ZW d M (pc + 3) ls (.inl (minF x y) :: st) g Q) : ZW d M pc ls (.inl y :: .inl x :: st) g Q := by
  refine MW.mmin (st := st.map zV) (v := iI (minF x y)) hd h1 h2 h3 h4 hdd (by rw [List.length_map]; exact hst) ?_ kk
  · unfold minF
    by_cases q : y < x
    · rw [if_pos q, if_pos ((iI_lt hy hx).mpr q)]
    · rw [if_neg q, if_neg (fun z => q ((iI_lt hy hx).mp z))]
theorem ZW.mabs {ix : Nat} {x : Int} (hd : decode M.2.1 pc = .ok (.invokestatic ix, 3)) (h1 : Cond.methodLink M.1.cls ix Lib.Math.abs.name ∈ mmWall) (h2 : Cond.static Lib.Math.abs.name ∈ mmWall) (h3 : Cond.initialized "java/lang/Math" ∈ mmWall) (h4 : Cond.code Lib.Math.abs.name Lib.Math.abs.code 1 (some .int) ∈ mmWall) (hdd : 1 ≤ d) (hst : st.length ≤ 8) (hx : zR x) (kk : ZW d M (pc + 3) ls (.inl (absF x) :: st) g Q) : ZW d M pc ls (.inl x :: st) g Q := by
  refine MW.mabs (st := st.map zV) (v := iI (absF x)) hd h1 h2 h3 h4 hdd (by rw [List.length_map]; exact hst) ?_ kk
  · unfold absF
    by_cases q : 0 ≤ x
    · rw [if_pos q, if_pos (show (0 : Int32) ≤ iI x from (iI_le zR_0 hx).mpr q)]
    · rw [if_neg q, if_neg (show ¬ (0 : Int32) ≤ iI x from fun z => q ((iI_le zR_0 hx).mp z)), show (0 : Int32) - iI x = iI 0 - iI x from rfl, iI_sub]
      congr 1
      omega
end ZZ
