-- CONSTRUCTORS: a walk over a world of cells at addresses that makes cells; a number of the sort .inr is an address
abbrev kV : MV → Value := mmV (fun x => x)
def kTn : Nat → String := fun j => match j with
  | 0 => "EVEN_COLUMN_STEPS"
  | 1 => "ODD_COLUMN_STEPS"
  | _ => "ROW_STEPS"
def kTv : Nat → List Int32 := fun j => match j with
  | 0 => [1, 0, -1, -1, -1, 0]
  | 1 => [1, 1, 0, -1, 0, 1]
  | _ => [0, -1, -1, 0, 1, 1]
abbrev kNst : Cond := .methodLinkNest RX7 40 yX3_init RX7
/-- the three tables of the Board stand at the addresses tb, and nobody may write there; the nest's link of the Orders -/
def kTab (tb : Nat → Nat) (A : Nat → Prop) (U : State) : Prop := va_Nw kNst U ∧ va_AO RX4 U ∧ ∀ j, j < 3 → va_Z RX0 (kTn j) "[I" (.ref (tb j)) A U U.heap ∧ va_T .int (tb j) 6 (fun i => .int ((kTv j).getD i 0)) A U U.heap
theorem kTab.go {tb : Nat → Nat} {A B : Nat → Prop} {u U : State} (hn : va_Nw kNst u → va_Nw kNst U) (hvm : u.vm.Alike U.vm) (hq : ∀ a : Nat, a < u.heap.size → ¬ A a → U.heap[a]? = u.heap[a]?) (hAB : ∀ q, B q → A q) (h : kTab tb A u) : kTab tb B U := ⟨hn h.1, va_AO.moved hvm h.2.1, fun j hj =>
  ⟨va_Z.narrow (va_Z.moved hvm (va_Z.kept (h.2.2 j hj).1 hq)) hAB, va_T.narrow (va_T.moved hvm (va_T.kept (h.2.2 j hj).2 hq)) hAB⟩⟩
def kRoom (d mc ms : Nat) : Room := { frames := d, cells := mc, slots := ms, locals := 32 * d }
def kB (D : va_G) (ca : Nat → ClassId) (A : Nat → Prop) (u : va_W) (t : State) : Prop := va_P D vwCl u t.heap ∧ va_K D vwCl (mmTys ca) t ∧ va_D A u
abbrev kT : Type := (Nat → Prop) → Array Value → State → Outcome → State → Prop
def kQv (D : va_G) (ca : Nat → ClassId) (P : va_W → Prop) : kT := fun A => va_Qv P (kB D ca A) A
def kQi (D : va_G) (ca : Nat → ClassId) (P : Int32 → va_W → Prop) : kT := fun A => va_Qi P (kB D ca A) A
def kCtx (p : Program) (s : State) (m : MethodId) (args : Array Value) (meth : Method) (c : Code) (M : MMeth) (D : va_G) (ca : Nat → ClassId) (tb : Nat → Nat) (A : Nat → Prop) : Prop :=
  p.tables.exec = Jvm.exec ∧ c.code = M.2.1 ∧ c.maxLocals = M.2.2.1 ∧ s.vm.findClass M.1.cls = some m.cls ∧ (∀ w ∈ mmWall, w.before args s = true) ∧ meth.sig.returnType = M.2.2.2 ∧ meth.locks = false ∧ va_K D vwCl (mmTys ca) s ∧ kTab tb A s ∧ (∀ q, s.heap.size ≤ q → A q) ∧ meth.name = M.1.name
def KW (D : va_G) (ca : Nat → ClassId) (tb : Nat → Nat) (d mc ms : Nat) (M : MMeth) (pc : Nat) (ls : List (Option MV)) (st : List MV) (ws : va_W) (cells slots : Nat) (Qc : kT) : Prop :=
  ∀ (p : Program) (l : Launch) (e : Env) (s : State) (m : MethodId) (args : Array Value) (below : List Frame) (meth : Method) (c : Code) (A : Nat → Prop), kCtx p s m args meth c M D ca tb A →
  ∀ (H : Heap) (locs : List Loc) (la : Array Slot), va_P D vwCl ws H → va_D A ws → va_S A s.heap H locs → lv_has la M.2.2.1 (mmLv (fun x => x) ls) →
    W p l e (kRoom d mc ms) s m args below meth c H locs cells slots (MQ below (Qc A) args s mc ms A) (F0 m pc la (st.map kV))
def kPc (D : va_G) (ca : Nat → ClassId) (tb : Nat → Nat) (ws : va_W) (sz : Nat) (U : State) : Prop := U.heap.size = sz ∧ kTab tb (va_A ws sz) U ∧ va_P D vwCl ws U.heap ∧ va_K D vwCl (mmTys ca) U
def KC (D : va_G) (ca : Nat → ClassId) (tb : Nat → Nat) (d mc ms : Nat) (M : MMeth) (vs : List MV) (ws : va_W) (Qc : kT) : Prop :=
  ∀ (l : Launch) (sz : Nat), va_D (fun _ => True) ws →
    Met l M.1 (mmWs M) (kRoom d mc ms) (va_Pc (vs.map kV) (kPc D ca tb ws sz)) (Qc (va_A ws sz)) mc ms (va_A ws sz)
section KK
variable {D : va_G} {ca : Nat → ClassId} {tb : Nat → Nat} {d mc ms : Nat} {M : MMeth} {pc : Nat} {ls : List (Option MV)} {st : List MV} {ws : va_W} {cells slots : Nat} {Qc : kT}
set_option maxHeartbeats 1000000 in
theorem KC.of {vs : List MV} (hy : plainName M.1.cls = true) (hn : vs.length ≤ M.2.2.1) (k : KW D ca tb d mc ms M 0 (mmStart M.2.2.1 vs) [] ws 0 0 Qc) : KC D ca tb d mc ms M vs ws Qc := by
  intro l sz hD0
  refine Met.ofW (cc := M.2.1) (maxL := M.2.2.1) (ret := M.2.2.2) hy rfl ?_
  intro p e s m args below meth c s₁ B hml hv
  obtain ⟨rfl, hsz, hT, hP, hK⟩ := hv
  have hts : ∀ w ∈ mmWs M, w.before (vs.map kV).toArray s = true := atoms_spec (ws := mmWs M) B.pre
  have hown : s.vm.findClass M.1.cls = some m.cls := findClass_of_methodNamed B.named
  have hnm : meth.name = M.1.name := (name_of_methodNamed B.named B.method).1
  subst hsz
  have hl := lv_entry (vs.map kV) (n := M.2.2.1) (by rw [mmL_sl]; exact hn)
  rw [lg_entry_eq]
  exact k p l e s m _ below meth c _ ⟨B.exec, B.bytes, hml, hown, fun w hw => hts w (List.mem_cons_of_mem _ hw), B.returns, B.notSynchronized, hK, hT, fun q hq => Or.inr hq, hnm⟩ s.heap [] _ hP (hD0.self (sz := s.heap.size)) va_S.rf (mmL_start hl)
theorem KW.widen {k n : Nat} (h1 : cells ≤ k) (h2 : slots ≤ n) (kk : KW D ca tb d mc ms M pc ls st ws k n Qc) : KW D ca tb d mc ms M pc ls st ws cells slots Qc :=
  fun p l e s m args below meth c A C H locs la hP hD hS hl => W.widen h1 h2 (kk p l e s m args below meth c A C H locs la hP hD hS hl)
theorem KW.perm {ws' : va_W} (is : List Nat) (hn : va_nd is = true) (hs : is.map (fun i => ws[i]?) = ws'.map some) (kk : KW D ca tb d mc ms M pc ls st ws' cells slots Qc) : KW D ca tb d mc ms M pc ls st ws cells slots Qc :=
  fun p l e s m args below meth c A C H locs la hP hD hS hl => kk p l e s m args below meth c A C H locs la (fun k q hq => by
    have h1 : (is.map (fun i => ws[i]?))[k]? = some (some q) := by rw [hs, List.getElem?_map, hq]; rfl
    rw [List.getElem?_map] at h1
    cases hi : is[k]? with
    | none => rw [hi] at h1; cases h1
    | some i => rw [hi] at h1; exact hP i q (Option.some.inj h1)) (hD.sub is hn hs) hS hl
theorem KW.toW {ws' : va_W} (hs : ws = ws') (kk : KW D ca tb d mc ms M pc ls st ws' cells slots Qc) : KW D ca tb d mc ms M pc ls st ws cells slots Qc := hs ▸ kk
theorem KW.iconst {n : Int} {v : Int32} (hd : decode M.2.1 pc = .ok (.iconst n, 1)) (hv : Int32.ofInt n = v) (k : KW D ca tb d mc ms M (pc + 1) ls (.inl v :: st) ws cells slots Qc) : KW D ca tb d mc ms M pc ls st ws cells slots Qc :=
  fun p l e s m args below meth c A C H locs la hP hD hS hl => lv_iconst C.1 C.2.1 hd hv (k p l e s m args below meth c A C H locs la hP hD hS hl)
theorem KW.bipush {n : Int} {v : Int32} (hd : decode M.2.1 pc = .ok (.bipush n, 2)) (hv : (Int8.ofInt n).toInt32 = v) (k : KW D ca tb d mc ms M (pc + 2) ls (.inl v :: st) ws cells slots Qc) : KW D ca tb d mc ms M pc ls st ws cells slots Qc :=
  fun p l e s m args below meth c A C H locs la hP hD hS hl => lv_bipush C.1 C.2.1 hd hv (k p l e s m args below meth c A C H locs la hP hD hS hl)
theorem KW.sipush {n : Int} {v : Int32} (hd : decode M.2.1 pc = .ok (.sipush n, 3)) (hv : (Int16.ofInt n).toInt32 = v) (k : KW D ca tb d mc ms M (pc + 3) ls (.inl v :: st) ws cells slots Qc) : KW D ca tb d mc ms M pc ls st ws cells slots Qc :=
  fun p l e s m args below meth c A C H locs la hP hD hS hl => lv_sipush C.1 C.2.1 hd hv (k p l e s m args below meth c A C H locs la hP hD hS hl)
theorem KW.iload_n {i : Fin 4} {v : Int32} (hd : decode M.2.1 pc = .ok (.iload_n i, 1)) (hv : ls[(i : Nat)]? = some (some (.inl v))) (k : KW D ca tb d mc ms M (pc + 1) ls (.inl v :: st) ws cells slots Qc) : KW D ca tb d mc ms M pc ls st ws cells slots Qc :=
  fun p l e s m args below meth c A C H locs la hP hD hS hl => lv_iload_n C.1 C.2.1 hd rfl (mmL_get hl hv) (k p l e s m args below meth c A C H locs la hP hD hS hl)
theorem KW.iload {i : Nat} {v : Int32} (hd : decode M.2.1 pc = .ok (.iload i, 2)) (hv : ls[i]? = some (some (.inl v))) (k : KW D ca tb d mc ms M (pc + 2) ls (.inl v :: st) ws cells slots Qc) : KW D ca tb d mc ms M pc ls st ws cells slots Qc :=
  fun p l e s m args below meth c A C H locs la hP hD hS hl => lv_iload C.1 C.2.1 hd (mmL_get hl hv) (k p l e s m args below meth c A C H locs la hP hD hS hl)
theorem KW.aload_n {i : Fin 4} {v : Nat} (hd : decode M.2.1 pc = .ok (.aload_n i, 1)) (hv : ls[(i : Nat)]? = some (some (.inr v))) (k : KW D ca tb d mc ms M (pc + 1) ls (.inr v :: st) ws cells slots Qc) : KW D ca tb d mc ms M pc ls st ws cells slots Qc :=
  fun p l e s m args below meth c A C H locs la hP hD hS hl => lv_aload_n C.1 C.2.1 hd rfl (mmL_get hl hv) (k p l e s m args below meth c A C H locs la hP hD hS hl)
theorem KW.istore_n {i : Fin 4} {v : Int32} (hd : decode M.2.1 pc = .ok (.istore_n i, 1)) (hn : (i : Nat) < M.2.2.1) {ls' : List (Option MV)} (hs : ls.set i (some (.inl v)) = ls') (k : KW D ca tb d mc ms M (pc + 1) ls' st ws cells slots Qc) : KW D ca tb d mc ms M pc ls (.inl v :: st) ws cells slots Qc := by
  subst hs
  exact fun p l e s m args below meth c A C H locs la hP hD hS hl => lv_istore_n C.1 C.2.1 hd rfl hl hn rfl (fun la' hl' => k p l e s m args below meth c A C H locs la' hP hD hS (mmL_set (v := .inl v) hl'))
theorem KW.istore {i : Nat} {v : Int32} (hd : decode M.2.1 pc = .ok (.istore i, 2)) (hn : i < M.2.2.1) {ls' : List (Option MV)} (hs : ls.set i (some (.inl v)) = ls') (k : KW D ca tb d mc ms M (pc + 2) ls' st ws cells slots Qc) : KW D ca tb d mc ms M pc ls (.inl v :: st) ws cells slots Qc := by
  subst hs
  exact fun p l e s m args below meth c A C H locs la hP hD hS hl => lv_istore C.1 C.2.1 hd hl hn rfl (fun la' hl' => k p l e s m args below meth c A C H locs la' hP hD hS (mmL_set (v := .inl v) hl'))
theorem KW.astore_n {i : Fin 4} {v : Nat} (hd : decode M.2.1 pc = .ok (.astore_n i, 1)) (hn : (i : Nat) < M.2.2.1) {ls' : List (Option MV)} (hs : ls.set i (some (.inr v)) = ls') (k : KW D ca tb d mc ms M (pc + 1) ls' st ws cells slots Qc) : KW D ca tb d mc ms M pc ls (.inr v :: st) ws cells slots Qc := by
  subst hs
  exact fun p l e s m args below meth c A C H locs la hP hD hS hl => lv_astore_n C.1 C.2.1 hd rfl hl hn rfl (fun la' hl' => k p l e s m args below meth c A C H locs la' hP hD hS (mmL_set (v := .inr v) hl'))
theorem KW.iinc {i : Nat} {n : Int} {x v : Int32} (hd : decode M.2.1 pc = .ok (.iinc i n, 3)) (hv : ls[i]? = some (some (.inl x))) (hx : x + Int32.ofInt n = v) (hn : i < M.2.2.1) {ls' : List (Option MV)} (hs : ls.set i (some (.inl v)) = ls') (k : KW D ca tb d mc ms M (pc + 3) ls' st ws cells slots Qc) : KW D ca tb d mc ms M pc ls st ws cells slots Qc := by
  subst hs
  intro p l e s m args below meth c A C H locs la hP hD hS hl
  obtain ⟨j, hj⟩ := mmLv_pos (ρ := fun x => x) hv
  exact lv_iinc C.1 C.2.1 hd hl hj hx hn rfl (fun la' hl' => k p l e s m args below meth c A C H locs la' hP hD hS (mmL_set (v := .inl v) hl'))
theorem KW.iadd {x y v : Int32} (hd : decode M.2.1 pc = .ok (.iadd, 1)) (hv : x + y = v) (k : KW D ca tb d mc ms M (pc + 1) ls (.inl v :: st) ws cells slots Qc) : KW D ca tb d mc ms M pc ls (.inl y :: .inl x :: st) ws cells slots Qc := by
  subst hv
  exact fun p l e s m args below meth c A C H locs la hP hD hS hl => lv_iadd C.1 C.2.1 hd (k p l e s m args below meth c A C H locs la hP hD hS hl)
theorem KW.imul {x y v : Int32} (hd : decode M.2.1 pc = .ok (.imul, 1)) (hv : x * y = v) (k : KW D ca tb d mc ms M (pc + 1) ls (.inl v :: st) ws cells slots Qc) : KW D ca tb d mc ms M pc ls (.inl y :: .inl x :: st) ws cells slots Qc := by
  subst hv
  exact fun p l e s m args below meth c A C H locs la hP hD hS hl => lv_imul C.1 C.2.1 hd (k p l e s m args below meth c A C H locs la hP hD hS hl)
theorem KW.idiv {x y v : Int32} (hd : decode M.2.1 pc = .ok (.idiv, 1)) (hne : ¬ y = 0) (hv : x / y = v) (k : KW D ca tb d mc ms M (pc + 1) ls (.inl v :: st) ws cells slots Qc) : KW D ca tb d mc ms M pc ls (.inl y :: .inl x :: st) ws cells slots Qc := by
  subst hv
  exact fun p l e s m args below meth c A C H locs la hP hD hS hl => lv_idiv C.1 C.2.1 hd hne (k p l e s m args below meth c A C H locs la hP hD hS hl)
theorem KW.irem {x y v : Int32} (hd : decode M.2.1 pc = .ok (.irem, 1)) (hne : ¬ y = 0) (hv : x - x / y * y = v) (k : KW D ca tb d mc ms M (pc + 1) ls (.inl v :: st) ws cells slots Qc) : KW D ca tb d mc ms M pc ls (.inl y :: .inl x :: st) ws cells slots Qc := by
  subst hv
  exact fun p l e s m args below meth c A C H locs la hP hD hS hl => lv_irem C.1 C.2.1 hd hne (k p l e s m args below meth c A C H locs la hP hD hS hl)
theorem KW.dup {v : MV} (hd : decode M.2.1 pc = .ok (.dup, 1)) (k : KW D ca tb d mc ms M (pc + 1) ls (v :: v :: st) ws cells slots Qc) : KW D ca tb d mc ms M pc ls (v :: st) ws cells slots Qc :=
  fun p l e s m args below meth c A C H locs la hP hD hS hl => lv_dup C.1 C.2.1 hd (mmV_cat _ v) (k p l e s m args below meth c A C H locs la hP hD hS hl)
theorem KW.goto {off : Int} {tgt : Nat} (hd : decode M.2.1 pc = .ok (.goto off, 3)) (ht : (pc : Int) + off = (tgt : Int)) (k : KW D ca tb d mc ms M tgt ls st ws cells slots Qc) : KW D ca tb d mc ms M pc ls st ws cells slots Qc :=
  fun p l e s m args below meth c A C H locs la hP hD hS hl => lv_goto C.1 C.2.1 hd ht (k p l e s m args below meth c A C H locs la hP hD hS hl)
theorem KW.if_ne {x : Int32} {off : Int} {tgt : Nat} (hd : decode M.2.1 pc = .ok (.ifCond .ne off, 3)) (ht : (pc : Int) + off = (tgt : Int)) (kt : ¬ x = 0 → KW D ca tb d mc ms M tgt ls st ws cells slots Qc) (kf : x = 0 → KW D ca tb d mc ms M (pc + 3) ls st ws cells slots Qc) : KW D ca tb d mc ms M pc ls (.inl x :: st) ws cells slots Qc :=
  fun p l e s m args below meth c A C H locs la hP hD hS hl => lv_if_ne C.1 C.2.1 hd ht (fun hc => kt hc p l e s m args below meth c A C H locs la hP hD hS hl) (fun hc => kf hc p l e s m args below meth c A C H locs la hP hD hS hl)
theorem KW.if_eq {x : Int32} {off : Int} {tgt : Nat} (hd : decode M.2.1 pc = .ok (.ifCond .eq off, 3)) (ht : (pc : Int) + off = (tgt : Int)) (kt : x = 0 → KW D ca tb d mc ms M tgt ls st ws cells slots Qc) (kf : ¬ x = 0 → KW D ca tb d mc ms M (pc + 3) ls st ws cells slots Qc) : KW D ca tb d mc ms M pc ls (.inl x :: st) ws cells slots Qc :=
  fun p l e s m args below meth c A C H locs la hP hD hS hl => lv_if_eq C.1 C.2.1 hd ht (fun hc => kt hc p l e s m args below meth c A C H locs la hP hD hS hl) (fun hc => kf hc p l e s m args below meth c A C H locs la hP hD hS hl)
theorem KW.if_lt {x : Int32} {off : Int} {tgt : Nat} (hd : decode M.2.1 pc = .ok (.ifCond .lt off, 3)) (ht : (pc : Int) + off = (tgt : Int)) (kt : x < 0 → KW D ca tb d mc ms M tgt ls st ws cells slots Qc) (kf : ¬ x < 0 → KW D ca tb d mc ms M (pc + 3) ls st ws cells slots Qc) : KW D ca tb d mc ms M pc ls (.inl x :: st) ws cells slots Qc :=
  fun p l e s m args below meth c A C H locs la hP hD hS hl => lv_if_lt C.1 C.2.1 hd ht (fun hc => kt hc p l e s m args below meth c A C H locs la hP hD hS hl) (fun hc => kf hc p l e s m args below meth c A C H locs la hP hD hS hl)
theorem KW.icmp_ge {x y : Int32} {off : Int} {tgt : Nat} (hd : decode M.2.1 pc = .ok (.if_icmp .ge off, 3)) (ht : (pc : Int) + off = (tgt : Int)) (kt : y ≤ x → KW D ca tb d mc ms M tgt ls st ws cells slots Qc) (kf : ¬ y ≤ x → KW D ca tb d mc ms M (pc + 3) ls st ws cells slots Qc) : KW D ca tb d mc ms M pc ls (.inl y :: .inl x :: st) ws cells slots Qc :=
  fun p l e s m args below meth c A C H locs la hP hD hS hl => lv_icmp_ge C.1 C.2.1 hd ht (fun hc => kt hc p l e s m args below meth c A C H locs la hP hD hS hl) (fun hc => kf hc p l e s m args below meth c A C H locs la hP hD hS hl)
theorem kRoomL {m : MethodId} {pc : Nat} {la : Array Slot} {stk : List Value} (st : List MV) (hs : st.length ≤ 8) : 2 * (F0 m pc la stk).monitorRoom + ((st.map kV).map fun v => v.category).sum ≤ 8 := mm_room _ st hs
theorem KW.objInit {ix : Nat} {b : Nat} (hd : decode M.2.1 pc = .ok (.invokespecial ix, 3)) (h1 : Cond.methodLink M.1.cls ix Lib.objectInit ∈ mmWall) (h2 : Cond.instanceMethod Lib.objectInit ∈ mmWall) (h3 : Cond.code Lib.objectInit ⟨#[0xb1]⟩ 1 none ∈ mmWall) (hdd : 1 ≤ d) (hst : st.length ≤ 8) (k : KW D ca tb d mc ms M (pc + 3) ls st ws cells slots Qc) : KW D ca tb d mc ms M pc ls (.inr b :: st) ws cells slots Qc := by
  intro p l e s m args below meth c A C H locs la hP hD hS hl
  have hr := kRoomL (m := m) (pc := pc) (la := la) (stk := (((.inr b : MV) :: st).map kV)) st hst
  refine W.objInit (a := b) (rest := st.map kV) C.1 C.2.1 C.2.2.2.1 (C.2.2.2.2.1 _ h1) (C.2.2.2.2.1 _ h2) (C.2.2.2.2.1 _ h3) rfl (by rw [C.2.2.1]; exact hl.1) rfl hd (by show 1 ≤ d; exact hdd) (by show _ ≤ 32 * d; omega) ?_
  refine W.eq (g2 := F0 m (pc + 3) la (st.map kV)) rfl ?_
  exact k p l e s m args below meth c A C H locs la hP hD hS hl
theorem KW.newarray {atype : ArrayType} {ti N : Nat} {ty : FieldType} {n : Int32} (hd : decode M.2.1 pc = .ok (.newarray atype, 2)) (hty : newarray.typeOf atype = ty) (hw : Cond.arrayClass ty ∈ mmWall) (ht : (mmTys ca)[ti]? = some (ca ti, ty)) (hra : ∀ (U : State) (cA : ClassId), va_RA U cA ty → U.vm.findClass ("[" ++ ty.toString) = some cA) (hdf : defaultValue ty = .int 0) (hn : ¬ n < 0) (hN : n.toNatClampNeg = N) (hbytes : N * componentBytes ty ≤ 536870912) (hcells : cells + 1 ≤ mc) (hslots : slots + N ≤ ms) (kk : ∀ q : Nat, KW D ca tb d mc ms M (pc + 2) ls (.inr q :: st) (ws ++ [(q, .inl (ca ti, N, .inl (fun _ => 0)))]) (cells + 1) (slots + N) Qc) : KW D ca tb d mc ms M pc ls (.inl n :: st) ws cells slots Qc := by
  intro p l e s m args below meth c A C H locs la hP hD hS hl
  refine va_newa (N' := N) (a0 := (N, .inl (fun _ => 0))) C.1 C.2.1 (atype := atype) (by rw [hty]; exact C.2.2.2.2.1 _ hw) hty C.2.2.2.2.2.2.2.1 hP hD hS C.2.2.2.2.2.2.2.2.2.1 (fun cA => by rw [hdf]; exact vp_cell_i _ _ _) hn hN hbytes hcells hslots hd (fun q cA H1 hK1 hP1 hD1 hS1 => ?_)
  have e1 := hra s cA (hK1.2 4 (cA, ty) rfl).2
  have e2 := hra s (ca ti) (C.2.2.2.2.2.2.2.1.2 ti (ca ti, ty) ht).2
  have e3 : cA = ca ti := Option.some.inj (e1.symm.trans e2)
  subst e3
  exact kk q p l e s m args below meth c A C H1 locs la hP1 hD1 hS1 hl
theorem KW.anew {ix N : Nat} {n : Int32} (hd : decode M.2.1 pc = .ok (.anewarray ix, 3)) (hw : Cond.classLink M.1.cls ix RX4 ∈ mmWall) (hn : ¬ n < 0) (hN : n.toNatClampNeg = N) (hbytes : N * 4 ≤ 536870912) (hcells : cells + 1 ≤ mc) (hslots : slots + N ≤ ms) (kk : ∀ q : Nat, KW D ca tb d mc ms M (pc + 3) ls (.inr q :: st) (ws ++ [(q, .inl (ca 3, N, .inr (.inr (.inr (.inr (fun _ => none))))))]) (cells + 1) (slots + N) Qc) : KW D ca tb d mc ms M pc ls (.inl n :: st) ws cells slots Qc := by
  intro p l e s m args below meth c A C H locs la hP hD hS hl
  refine va_newq (N' := N) C.1 C.2.1 C.2.2.2.1 (C.2.2.2.2.1 _ hw) C.2.2.2.2.2.2.2.2.1.2.1 C.2.2.2.2.2.2.2.1 hP hD hS C.2.2.2.2.2.2.2.2.2.1 hn hN hbytes hcells hslots hd (fun q cA H1 hK1 hP1 hD1 hS1 => ?_)
  obtain ⟨_, _, _, _, _, e1⟩ := (hK1.2 4 (cA, .object RX4) rfl).2
  obtain ⟨_, _, _, _, _, e2⟩ := (C.2.2.2.2.2.2.2.1.2 3 (ca 3, .object RX4) rfl).2
  have e3 : cA = ca 3 := Option.some.inj (e1.symm.trans e2)
  subst e3
  exact kk q p l e s m args below meth c A C H1 locs la hP1 hD1 hS1 hl
/-- 'new' of the class number ci, whose fields are born as fs -/
def mmNew (own : String) (ix ci N : Nat) (fs : List Value) : Prop := ∃ (C : String) (T : u_T) (ty : Nat → FieldType), vwCl[ci]? = some (C, T, N) ∧ (∀ w ∈ u_ws C T N, w ∈ mmWall) ∧ (∀ k, k < N → parseFieldDescriptor (T k).2.2.1 = some (ty k)) ∧ Cond.classLink own ix C ∈ mmWall ∧ Cond.instantiable C N ∈ mmWall ∧ Cond.initialized C ∈ mmWall ∧ ∀ j, j < N → defaultValue (ty j) = vp_V fs j
theorem KW.new {ix ci N : Nat} {fs : List Value} (hd : decode M.2.1 pc = .ok (.new ix, 3)) (hw : mmNew M.1.cls ix ci N fs) (hcells : cells + 1 ≤ mc) (hslots : slots + N ≤ ms) (kk : ∀ q : Nat, KW D ca tb d mc ms M (pc + 3) ls (.inr q :: st) (ws ++ [(q, .inr (ci, fs))]) (cells + 1) (slots + N) Qc) : KW D ca tb d mc ms M pc ls st ws cells slots Qc := by
  intro p l e s m args below meth c A C H locs la hP hD hS hl
  obtain ⟨Cn, T, ty, h1, h2, h3, h4, h5, h6, h7⟩ := hw
  exact va_new C.1 C.2.1 C.2.2.2.2.1 h2 ty h3 C.2.2.2.1 (C.2.2.2.2.1 _ h4) (C.2.2.2.2.1 _ h5) (C.2.2.2.2.1 _ h6) C.2.2.2.2.2.2.2.1 hP hD hS C.2.2.2.2.2.2.2.2.2.1 h1 h7 hcells hslots hd (fun q H1 hP1 hD1 hS1 => kk q p l e s m args below meth c A C H1 locs la hP1 hD1 hS1 hl)
theorem KW.getR {ix ci f b v q0 : Nat} {fs : List Value} (hd : decode M.2.1 pc = .ok (.getfield ix, 3)) (hf : mmFL M.1.cls ix ci f) (he : ws[q0]? = some (b, .inr (ci, fs))) (hv : fs[f]? = some (.ref v)) (kk : KW D ca tb d mc ms M (pc + 3) ls (.inr v :: st) ws cells slots Qc) : KW D ca tb d mc ms M pc ls (.inr b :: st) ws cells slots Qc := by
  intro p l e s m args below meth c A C H locs la hP hD hS hl
  obtain ⟨Cn, T, N, h1, h2, h3, h4⟩ := hf
  exact va_get C.1 C.2.1 C.2.2.2.2.1 h3 C.2.2.2.1 C.2.2.2.2.2.2.2.1 hP q0 he h1 f h2 (C.2.2.2.2.1 _ h4) (fun _ hx => hx) hv hd (kk p l e s m args below meth c A C H locs la hP hD hS hl)
/-- the pool's entry ix names the final field f of the class number ci, a reference -/
def mmFF (own : String) (ix ci f : Nat) : Prop := ∃ (C : String) (T : u_T) (N : Nat) (ty : FieldType), vwCl[ci]? = some (C, T, N) ∧ f < N ∧ (∀ w ∈ u_ws C T N, w ∈ mmWall) ∧ Cond.fieldLink own ix (T f).1 (T f).2.1 (T f).2.2.1 ∈ mmWall ∧ (T f).2.2.2 = true ∧ (T f).1 = own ∧ parseFieldDescriptor (T f).2.2.1 = some ty ∧ (∀ x : Nat, narrow ty (.ref x) = .ref x ∧ fits ty (.ref x) = true) ∧ (∃ ty0 : Nat → FieldType, ∀ k, k < N → parseFieldDescriptor (T k).2.2.1 = some (ty0 k)) ∧ (∀ a, a < N → ∀ b, b < N → a ≠ b → (T a).2.1 ≠ (T b).2.1)
theorem KW.putF {ix ci f b v q0 : Nat} {fs : List Value} {ws' : va_W} (hd : decode M.2.1 pc = .ok (.putfield ix, 3)) (hf : mmFF M.1.cls ix ci f) (hM : M.1.name = "<init>") (he : ws[q0]? = some (b, .inr (ci, fs))) (hl0 : f < fs.length) (hs : ws.set q0 (b, .inr (ci, fs.set f (.ref v))) = ws') (kk : KW D ca tb d mc ms M (pc + 3) ls st ws' cells slots Qc) : KW D ca tb d mc ms M pc ls (.inr v :: .inr b :: st) ws cells slots Qc := by
  subst hs
  intro p l e s m args below meth c A C H locs la hP hD hS hl
  obtain ⟨Cn, T, N, ty, h1, h2, h3, h4, h5, h6, h7, h8, ⟨ty0, h9⟩, h10⟩ := hf
  exact va_putF C.1 C.2.1 C.2.2.2.2.1 h3 ty0 h9 h10 C.2.2.2.1 C.2.2.2.2.2.2.2.1 hP hD hS q0 he h1 f h2 (C.2.2.2.2.1 _ h4) (fun _ hx => hx) h5 (C.2.2.2.2.2.2.2.2.2.2.trans hM) h6 h7 (h8 v).1 (h8 v).2 hl0 hd (fun H1 locs1 hP1 hD1 hS1 => kk p l e s m args below meth c A C H1 locs1 la hP1 hD1 hS1 hl)
theorem KW.puti {ix ci f b q0 : Nat} {ty : FieldType} {v : Int32} {fs : List Value} {ws' : va_W} (hd : decode M.2.1 pc = .ok (.putfield ix, 3)) (hf : mmFP M.1.cls ix ci f ty) (hn : narrow ty (.int v) = .int v) (hfit : fits ty (.int v) = true) (he : ws[q0]? = some (b, .inr (ci, fs))) (hl0 : f < fs.length) (hs : ws.set q0 (b, .inr (ci, fs.set f (.int v))) = ws') (kk : KW D ca tb d mc ms M (pc + 3) ls st ws' cells slots Qc) : KW D ca tb d mc ms M pc ls (.inl v :: .inr b :: st) ws cells slots Qc := by
  subst hs
  intro p l e s m args below meth c A C H locs la hP hD hS hl
  obtain ⟨Cn, T, N, h1, h2, h3, h4, h7, h8, ⟨ty0, h9⟩, h10⟩ := hf
  exact va_put C.1 C.2.1 C.2.2.2.2.1 h3 ty0 h9 h10 C.2.2.2.1 C.2.2.2.2.2.2.2.1 hP hD hS q0 he h1 f h2 (C.2.2.2.2.1 _ h4) (fun _ hx => hx) h7 h8 hn hfit hl0 hd (fun H1 locs1 hP1 hD1 hS1 => kk p l e s m args below meth c A C H1 locs1 la hP1 hD1 hS1 hl)
theorem KW.alen {b q0 n : Nat} {f : Nat → Int32} {v : Int32} (hd : decode M.2.1 pc = .ok (.arraylength, 1)) (he : ws[q0]? = some (b, .inl (ca 0, n, .inl f))) (hv : Int32.ofNat n = v) (kk : KW D ca tb d mc ms M (pc + 1) ls (.inl v :: st) ws cells slots Qc) : KW D ca tb d mc ms M pc ls (.inr b :: st) ws cells slots Qc :=
  fun p l e s m args below meth c A C H locs la hP hD hS hl => va_alen C.1 C.2.1 C.2.2.2.2.2.2.2.1 hP q0 0 he (ty := .int) rfl hv hd (kk p l e s m args below meth c A C H locs la hP hD hS hl)
theorem KW.iast {b q0 n : Nat} {i v : Int32} {f : Nat → Int32} {ws' : va_W} (hd : decode M.2.1 pc = .ok (.iastore, 1)) (he : ws[q0]? = some (b, .inl (ca 0, n, .inl f))) (hi : vp_in i n) (hs : ws.set q0 (b, .inl (ca 0, n, .inl (upd f i.toNatClampNeg v))) = ws') (kk : KW D ca tb d mc ms M (pc + 1) ls st ws' cells slots Qc) : KW D ca tb d mc ms M pc ls (.inl v :: .inl i :: .inr b :: st) ws cells slots Qc := by
  subst hs
  exact fun p l e s m args below meth c A C H locs la hP hD hS hl => va_iast C.1 C.2.1 C.2.2.2.2.2.2.2.1 hP hD hS q0 0 he rfl hi hd (fun H1 locs1 hP1 hD1 hS1 => kk p l e s m args below meth c A C H1 locs1 la hP1 hD1 hS1 hl)
theorem KW.aast {b q0 qk n v : Nat} {i : Int32} {vs : List Value} {f : Nat → Option Nat} {ws' : va_W} (hd : decode M.2.1 pc = .ok (.aastore, 1)) (he : ws[q0]? = some (b, .inl (ca 3, n, .inr (.inr (.inr (.inr f)))))) (hv : ws[qk]? = some (v, .inr (4, vs))) (hi : vp_in i n) (hs : ws.set q0 (b, .inl (ca 3, n, .inr (.inr (.inr (.inr (va_up f i.toNatClampNeg (some v))))))) = ws') (kk : KW D ca tb d mc ms M (pc + 1) ls st ws' cells slots Qc) : KW D ca tb d mc ms M pc ls (.inr v :: .inl i :: .inr b :: st) ws cells slots Qc := by
  subst hs
  exact fun p l e s m args below meth c A C H locs la hP hD hS hl => va_astq (r := (RX4, TX4, 14)) C.1 C.2.1 C.2.2.2.2.2.2.2.1 hP hD hS q0 3 qk 4 he rfl hv rfl hi hd (fun H1 locs1 hP1 hD1 hS1 => kk p l e s m args below meth c A C H1 locs1 la hP1 hD1 hS1 hl)
theorem KW.gets {ix : Nat} (j : Nat) (hd : decode M.2.1 pc = .ok (.getstatic ix, 3)) (hj : j < 3) (hw : Cond.fieldLink M.1.cls ix RX0 (kTn j) "[I" ∈ mmWall) (kk : KW D ca tb d mc ms M (pc + 3) ls (.inr (tb j) :: st) ws cells slots Qc) : KW D ca tb d mc ms M pc ls st ws cells slots Qc :=
  fun p l e s m args below meth c A C H locs la hP hD hS hl => va_gets C.1 C.2.1 (C.2.2.2.2.2.2.2.2.1.2.2 j hj).1 hS C.2.2.2.1 (C.2.2.2.2.1 _ hw) (fun _ hx => hx) hd (kk p l e s m args below meth c A C H locs la hP hD hS hl)
theorem KW.tald {i v : Int32} (j : Nat) (hd : decode M.2.1 pc = .ok (.iaload, 1)) (hj : j < 3) (hi : vp_in i 6) (hv : (kTv j).getD i.toNatClampNeg 0 = v) (kk : KW D ca tb d mc ms M (pc + 1) ls (.inl v :: st) ws cells slots Qc) : KW D ca tb d mc ms M pc ls (.inl i :: .inr (tb j) :: st) ws cells slots Qc :=
  fun p l e s m args below meth c A C H locs la hP hD hS hl => va_ti C.1 C.2.1 (C.2.2.2.2.2.2.2.2.1.2.2 j hj).2 hS hi (by rw [← hv]; rfl) hd (kk p l e s m args below meth c A C H locs la hP hD hS hl)
theorem KW.vret {P : va_W → Prop} (hd : decode M.2.1 pc = .ok (.return_, 1)) (hr : M.2.2.2 = none) (hc : cells = mc ∧ slots = ms) (hp : P ws) : KW D ca tb d mc ms M pc ls [] ws cells slots (kQv D ca P) := by
  obtain ⟨rfl, rfl⟩ := hc
  exact fun p l e s m args below meth c A C H locs la hP hD hS hl => W.vret C.1 C.2.1 (C.2.2.2.2.2.1.trans hr) (fun t ht hW => ⟨⟨ws, rfl, hp, by rw [ht]; exact hP, va_K.moved hW.alike C.2.2.2.2.2.2.2.1, hD⟩, hS.F ht⟩) hS.2.2 hd C.2.2.2.2.2.2.1
theorem KW.iret {v : Int32} {P : Int32 → va_W → Prop} (hd : decode M.2.1 pc = .ok (.ireturn, 1)) (hr : M.2.2.2 = some .int) (hc : cells = mc ∧ slots = ms) (hp : P v ws) : KW D ca tb d mc ms M pc ls [.inl v] ws cells slots (kQi D ca P) := by
  obtain ⟨rfl, rfl⟩ := hc
  exact fun p l e s m args below meth c A C H locs la hP hD hS hl => W.iret C.1 C.2.1 (C.2.2.2.2.2.1.trans hr) (fun t ht hW => ⟨⟨v, ws, rfl, hp, by rw [ht]; exact hP, va_K.moved hW.alike C.2.2.2.2.2.2.2.1, hD⟩, hS.F ht⟩) hS.2.2 hd C.2.2.2.2.2.2.1
end KK
