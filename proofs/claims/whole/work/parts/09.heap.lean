-- rows that read and write cells
/-- the pool's entry ix of the class own names the field f of the class number ci -/
def mmFL (own : String) (ix ci f : Nat) : Prop := ∃ (C : String) (T : u_T) (N : Nat), vwCl[ci]? = some (C, T, N) ∧ f < N ∧ (∀ w ∈ u_ws C T N, w ∈ mmWall) ∧ Cond.fieldLink own ix (T f).1 (T f).2.1 (T f).2.2.1 ∈ mmWall
/-- the same of a field that is no final one and holds whole numbers of the type ty -/
def mmFP (own : String) (ix ci f : Nat) (ty : FieldType) : Prop := ∃ (C : String) (T : u_T) (N : Nat), vwCl[ci]? = some (C, T, N) ∧ f < N ∧ (∀ w ∈ u_ws C T N, w ∈ mmWall) ∧ Cond.fieldLink own ix (T f).1 (T f).2.1 (T f).2.2.1 ∈ mmWall ∧ (T f).2.2.2 = false ∧ parseFieldDescriptor (T f).2.2.1 = some ty ∧ (∃ ty0 : Nat → FieldType, ∀ k, k < N → parseFieldDescriptor (T k).2.2.1 = some (ty0 k)) ∧ (∀ a, a < N → ∀ b, b < N → a ≠ b → (T a).2.1 ≠ (T b).2.1)
/-- the cell k is an object of the class number ci; its field f holds a whole number (none), or the cell j for ever (some j) -/
def mmFk (k ci f : Nat) (o : Option Nat) : Prop := ∃ fk : List (Option Nat), mmLay[k]? = some (.inl (ci, fk)) ∧ fk[f]? = some o
def mmIsObj (k ci : Nat) : Prop := ∃ fk : List (Option Nat), mmLay[k]? = some (.inl (ci, fk))
def mmAr (k ti n : Nat) : Prop := mmLay[k]? = some (.inr (ti, n, none))
section MMH
variable {d : Nat} {M : MMeth} {pc : Nat} {ls : List (Option MV)} {st : List MV} {h : MH} {Q : Int32 → MH → Prop}
theorem MW.getI {ix k ci f : Nat} {v : Int32} (hd : decode M.2.1 pc = .ok (.getfield ix, 3)) (hf : mmFL M.1.cls ix ci f) (hk : mmFk k ci f none) (hv : h k f = v) (kk : MW d M (pc + 3) ls (.inl v :: st) h Q) : MW d M pc ls (.inr k :: st) h Q := by
  subst hv
  intro p l e s m args below meth c D ρ ca A C H locs la hP hS hl
  obtain ⟨Cn, T, N, h1, h2, h3, h4⟩ := hf
  obtain ⟨fk, h5, h6⟩ := hk
  refine va_get C.1 C.2.1 C.2.2.2.2.1 h3 C.2.2.2.1 C.2.2.2.2.2.2.2.1 hP k (mmWorld_get h5) h1 f h2 (C.2.2.2.2.1 _ h4) (fun _ hx => hx) (v := .int (h k f)) ?_ hd (kk p l e s m args below meth c D ρ ca A C H locs la hP hS hl)
  simp [List.getElem?_mapIdx, h6, mmFv]
theorem MW.getR {ix k ci f j : Nat} (hd : decode M.2.1 pc = .ok (.getfield ix, 3)) (hf : mmFL M.1.cls ix ci f) (hk : mmFk k ci f (some j)) (kk : MW d M (pc + 3) ls (.inr j :: st) h Q) : MW d M pc ls (.inr k :: st) h Q := by
  intro p l e s m args below meth c D ρ ca A C H locs la hP hS hl
  obtain ⟨Cn, T, N, h1, h2, h3, h4⟩ := hf
  obtain ⟨fk, h5, h6⟩ := hk
  refine va_get C.1 C.2.1 C.2.2.2.2.1 h3 C.2.2.2.1 C.2.2.2.2.2.2.2.1 hP k (mmWorld_get h5) h1 f h2 (C.2.2.2.2.1 _ h4) (fun _ hx => hx) (v := .ref (ρ j)) ?_ hd (kk p l e s m args below meth c D ρ ca A C H locs la hP hS hl)
  simp [List.getElem?_mapIdx, h6, mmFv]
theorem mm_mapIdx_set {ρ : Nat → Nat} {g : Nat → Int32} {fk : List (Option Nat)} {f : Nat} {v : Int32} (hf : fk[f]? = some none) : (fk.mapIdx (fun i o => mmFv ρ (g i) o)).set f (.int v) = fk.mapIdx (fun i o => mmFv ρ (upd g f v i) o) := by
  apply List.ext_getElem?
  intro j
  rw [List.getElem?_set]
  have hlt : f < fk.length := (List.getElem?_eq_some_iff.mp hf).1
  by_cases hj : f = j
  · subst hj
    rw [if_pos rfl, if_pos (by simpa using hlt)]
    simp [List.getElem?_mapIdx, hf, mmFv, upd]
  · rw [if_neg hj]
    simp only [List.getElem?_mapIdx]
    cases fk[j]? with
    | none => rfl
    | some o => simp [upd, if_neg (fun q => hj (Eq.symm q) : ¬ j = f)]
theorem MW.put {ix k ci f : Nat} {ty : FieldType} {v : Int32} (hd : decode M.2.1 pc = .ok (.putfield ix, 3)) (hf : mmFP M.1.cls ix ci f ty) (hk : mmFk k ci f none) (hn : narrow ty (.int v) = .int v) (hfit : fits ty (.int v) = true) (kk : MW d M (pc + 3) ls st (mmSet h k f v) Q) : MW d M pc ls (.inl v :: .inr k :: st) h Q := by
  intro p l e s m args below meth c D ρ ca A C H locs la hP hS hl
  obtain ⟨Cn, T, N, h1, h2, h3, h4, h7, h8, ⟨ty0, h9⟩, h10⟩ := hf
  obtain ⟨fk, h5, h6⟩ := hk
  have hlt : f < fk.length := (List.getElem?_eq_some_iff.mp h6).1
  refine va_put C.1 C.2.1 C.2.2.2.2.1 h3 ty0 h9 h10 C.2.2.2.1 C.2.2.2.2.2.2.2.1 hP (C.2.2.2.2.2.2.2.2.1 h) hS k (mmWorld_get h5) h1 f h2 (C.2.2.2.2.1 _ h4) (fun _ hx => hx) h7 h8 hn hfit (by simpa using hlt) hd (fun H1 locs1 hP1 _ hS1 => ?_)
  have e1 : (mmWorld ρ ca h).set k (ρ k, .inr (ci, (fk.mapIdx (fun f o => mmFv ρ (h k f) o)).set f (.int v))) = mmWorld ρ ca (mmSet h k f v) := mmWorld_set h5 (by show Sum.inr (ci, fk.mapIdx _) = Sum.inr (ci, _); rw [← mm_mapIdx_set h6])
  have hP1 : va_P D vwCl ((mmWorld ρ ca h).set k (ρ k, .inr (ci, (fk.mapIdx (fun f o => mmFv ρ (h k f) o)).set f (.int v)))) H1 := hP1
  rw [e1] at hP1
  exact kk p l e s m args below meth c D ρ ca A C H1 locs1 la hP1 hS1 hl
theorem MW.iald {k n : Nat} {i v : Int32} (hd : decode M.2.1 pc = .ok (.iaload, 1)) (hk : mmAr k 0 n) (hi : vp_in i n) (hv : h k i.toNatClampNeg = v) (kk : MW d M (pc + 1) ls (.inl v :: st) h Q) : MW d M pc ls (.inl i :: .inr k :: st) h Q := by
  subst hv
  exact fun p l e s m args below meth c D ρ ca A C H locs la hP hS hl => va_iald C.1 C.2.1 C.2.2.2.2.2.2.2.1 hP k 0 (mmWorld_get hk) rfl hi hd (kk p l e s m args below meth c D ρ ca A C H locs la hP hS hl)
theorem MW.cald {k n : Nat} {i v : Int32} (hd : decode M.2.1 pc = .ok (.caload, 1)) (hk : mmAr k 1 n) (hi : vp_in i n) (hv : h k i.toNatClampNeg = v) (kk : MW d M (pc + 1) ls (.inl v :: st) h Q) : MW d M pc ls (.inl i :: .inr k :: st) h Q := by
  subst hv
  exact fun p l e s m args below meth c D ρ ca A C H locs la hP hS hl => va_cald C.1 C.2.1 C.2.2.2.2.2.2.2.1 hP k 1 (mmWorld_get hk) rfl hi hd (kk p l e s m args below meth c D ρ ca A C H locs la hP hS hl)
theorem MW.zald {k n : Nat} {i v : Int32} (hd : decode M.2.1 pc = .ok (.baload, 1)) (hk : mmAr k 2 n) (hi : vp_in i n) (hv : h k i.toNatClampNeg = v) (kk : MW d M (pc + 1) ls (.inl v :: st) h Q) : MW d M pc ls (.inl i :: .inr k :: st) h Q := by
  subst hv
  exact fun p l e s m args below meth c D ρ ca A C H locs la hP hS hl => va_zald C.1 C.2.1 C.2.2.2.2.2.2.2.1 hP k 2 (mmWorld_get hk) rfl hi hd (kk p l e s m args below meth c D ρ ca A C H locs la hP hS hl)
theorem MW.aald {k n j : Nat} {rs : List Nat} {i : Int32} (hd : decode M.2.1 pc = .ok (.aaload, 1)) (hk : mmLay[k]? = some (.inr (3, n, some rs))) (hi : vp_in i n) (hj : rs[i.toNatClampNeg]? = some j) (kk : MW d M (pc + 1) ls (.inr j :: st) h Q) : MW d M pc ls (.inl i :: .inr k :: st) h Q := by
  intro p l e s m args below meth c D ρ ca A C H locs la hP hS hl
  refine va_aldq C.1 C.2.1 C.2.2.2.2.2.2.2.1 hP k 3 (mmWorld_get hk) rfl hi hd ?_
  simp only [hj, Option.map_some]
  exact kk p l e s m args below meth c D ρ ca A C H locs la hP hS hl
theorem MW.alen {k ti n : Nat} {v : Int32} {ty : FieldType} (hd : decode M.2.1 pc = .ok (.arraylength, 1)) (hk : mmAr k ti n) (ht : ti = 0) (hv : Int32.ofNat n = v) (kk : MW d M (pc + 1) ls (.inl v :: st) h Q) : MW d M pc ls (.inr k :: st) h Q := by
  subst ht
  exact fun p l e s m args below meth c D ρ ca A C H locs la hP hS hl => va_alen C.1 C.2.1 C.2.2.2.2.2.2.2.1 hP k 0 (mmWorld_get hk) (ty := .int) rfl hv hd (kk p l e s m args below meth c D ρ ca A C H locs la hP hS hl)
theorem MW.iast {k n : Nat} {i v : Int32} (hd : decode M.2.1 pc = .ok (.iastore, 1)) (hk : mmAr k 0 n) (hi : vp_in i n) (kk : MW d M (pc + 1) ls st (mmSet h k i.toNatClampNeg v) Q) : MW d M pc ls (.inl v :: .inl i :: .inr k :: st) h Q := by
  intro p l e s m args below meth c D ρ ca A C H locs la hP hS hl
  refine va_iast C.1 C.2.1 C.2.2.2.2.2.2.2.1 hP (C.2.2.2.2.2.2.2.2.1 h) hS k 0 (mmWorld_get hk) rfl hi hd (fun H1 locs1 hP1 _ hS1 => ?_)
  have e1 : (mmWorld ρ ca h).set k (ρ k, .inl (ca 0, n, .inl (upd (h k) i.toNatClampNeg v))) = mmWorld ρ ca (mmSet h k i.toNatClampNeg v) := mmWorld_set hk rfl
  rw [e1] at hP1
  exact kk p l e s m args below meth c D ρ ca A C H1 locs1 la hP1 hS1 hl
theorem MW.cast {k n : Nat} {i v w : Int32} (hd : decode M.2.1 pc = .ok (.castore, 1)) (hk : mmAr k 1 n) (hi : vp_in i n) (hw : vp_nar .char v = w) (kk : MW d M (pc + 1) ls st (mmSet h k i.toNatClampNeg w) Q) : MW d M pc ls (.inl v :: .inl i :: .inr k :: st) h Q := by
  subst hw
  intro p l e s m args below meth c D ρ ca A C H locs la hP hS hl
  refine va_cast C.1 C.2.1 C.2.2.2.2.2.2.2.1 hP (C.2.2.2.2.2.2.2.2.1 h) hS k 1 (mmWorld_get hk) rfl hi hd (fun H1 locs1 hP1 _ hS1 => ?_)
  have e1 : (mmWorld ρ ca h).set k (ρ k, .inl (ca 1, n, .inl (upd (h k) i.toNatClampNeg (vp_nar .char v)))) = mmWorld ρ ca (mmSet h k i.toNatClampNeg (vp_nar .char v)) := mmWorld_set hk rfl
  rw [e1] at hP1
  exact kk p l e s m args below meth c D ρ ca A C H1 locs1 la hP1 hS1 hl
theorem MW.zast {k n : Nat} {i v w : Int32} (hd : decode M.2.1 pc = .ok (.bastore, 1)) (hk : mmAr k 2 n) (hi : vp_in i n) (hw : vp_nar .boolean v = w) (kk : MW d M (pc + 1) ls st (mmSet h k i.toNatClampNeg w) Q) : MW d M pc ls (.inl v :: .inl i :: .inr k :: st) h Q := by
  subst hw
  intro p l e s m args below meth c D ρ ca A C H locs la hP hS hl
  refine va_zast C.1 C.2.1 C.2.2.2.2.2.2.2.1 hP (C.2.2.2.2.2.2.2.2.1 h) hS k 2 (mmWorld_get hk) rfl hi hd (fun H1 locs1 hP1 _ hS1 => ?_)
  have e1 : (mmWorld ρ ca h).set k (ρ k, .inl (ca 2, n, .inl (upd (h k) i.toNatClampNeg (vp_nar .boolean v)))) = mmWorld ρ ca (mmSet h k i.toNatClampNeg (vp_nar .boolean v)) := mmWorld_set hk rfl
  rw [e1] at hP1
  exact kk p l e s m args below meth c D ρ ca A C H1 locs1 la hP1 hS1 hl
theorem MW.iret {v : Int32} {ty : FieldType} (hd : decode M.2.1 pc = .ok (.ireturn, 1)) (hr : M.2.2.2 = some ty) (hn : narrow ty (.int v) = .int v) (hq : Q v h) : MW d M pc ls (.inl v :: []) h Q := by
  intro p l e s m args below meth c D ρ ca A C H locs la hP hS hl
  have hlocks : meth.locks = false := C.2.2.2.2.2.2.1
  have hK : va_K D vwCl (mmTys ca) s := C.2.2.2.2.2.2.2.1
  refine W.zret C.1 C.2.1 (C.2.2.2.2.2.1.trans hr) hn (fun t ht hW => ?_) hS.2.2 hd
  unfold mmQc
  rw [hr]
  exact ⟨⟨v, h, rfl, hq, by unfold mmB; rw [ht]; exact ⟨hP, va_K.moved hW.alike hK⟩⟩, hS.F ht⟩
theorem MW.vret (hd : decode M.2.1 pc = .ok (.return_, 1)) (hr : M.2.2.2 = none) (hq : Q 0 h) : MW d M pc ls [] h Q := by
  intro p l e s m args below meth c D ρ ca A C H locs la hP hS hl
  have hlocks : meth.locks = false := C.2.2.2.2.2.2.1
  have hK : va_K D vwCl (mmTys ca) s := C.2.2.2.2.2.2.2.1
  refine W.vret C.1 C.2.1 (C.2.2.2.2.2.1.trans hr) (fun t ht hW => ?_) hS.2.2 hd
  unfold mmQc
  rw [hr]
  exact ⟨⟨h, rfl, hq, by unfold mmB; rw [ht]; exact ⟨hP, va_K.moved hW.alike hK⟩⟩, hS.F ht⟩
theorem MW.tableOut {dflt lo hi : Int} {offs : Array Int} {len tgt : Nat} {x : Int32} (hd : decode M.2.1 pc = .ok (.tableswitch dflt lo hi offs, len)) (hx : x.toInt < lo ∨ hi < x.toInt) (ht : (pc : Int) + dflt = (tgt : Int)) (k : MW d M tgt ls st h Q) : MW d M pc ls (.inl x :: st) h Q :=
  fun p l e s m args below meth c D ρ ca A C H locs la hP hS hl => lv_tableOut C.1 C.2.1 hd hx ht (k p l e s m args below meth c D ρ ca A C H locs la hP hS hl)
theorem MW.tableIn {dflt lo hi off : Int} {offs : Array Int} {len tgt : Nat} {x : Int32} (hd : decode M.2.1 pc = .ok (.tableswitch dflt lo hi offs, len)) (h1 : ¬ x.toInt < lo) (h2 : ¬ hi < x.toInt) (ho : offs[(x.toInt - lo).toNat]? = some off) (ht : (pc : Int) + off = (tgt : Int)) (k : MW d M tgt ls st h Q) : MW d M pc ls (.inl x :: st) h Q :=
  fun p l e s m args below meth c D ρ ca A C H locs la hP hS hl => lv_tableIn C.1 C.2.1 hd h1 h2 ho ht (k p l e s m args below meth c D ρ ca A C H locs la hP hS hl)
end MMH
