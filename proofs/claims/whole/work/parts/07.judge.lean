-- THE JUDGEMENT: MW d M pc ls st h Q: with the machine of cells at pc of the method M, its locals ls, its stack st and the whole numbers h, in a room of d frames, the method comes to its end with an answer r and numbers h' of which Q r h' holds. MC: a method's contract.
def mmWs (M : MMeth) : List Cond := .code M.1 M.2.1 M.2.2.1 M.2.2.2 :: mmWall
def mmRoom (d : Nat) : Room := { frames := d, cells := 0, slots := 0, locals := 32 * d }
def mmB (D : va_G) (ρ : Nat → Nat) (ca : Nat → ClassId) (h : MH) (t : State) : Prop := va_P D vwCl (mmWorld ρ ca h) t.heap ∧ va_K D vwCl (mmTys ca) t
def mmQc (M : MMeth) (D : va_G) (ρ : Nat → Nat) (ca : Nat → ClassId) (A : Nat → Prop) (Q : Int32 → MH → Prop) : Array Value → State → Outcome → State → Prop :=
  match M.2.2.2 with
  | none => va_Qv (fun h' : MH => Q 0 h') (mmB D ρ ca) A
  | some _ => va_Qi Q (mmB D ρ ca) A
def mmCtx (p : Program) (s : State) (m : MethodId) (args : Array Value) (meth : Method) (c : Code) (M : MMeth) (D : va_G) (ρ : Nat → Nat) (ca : Nat → ClassId) (A : Nat → Prop) : Prop :=
  p.tables.exec = Jvm.exec ∧ c.code = M.2.1 ∧ c.maxLocals = M.2.2.1 ∧ s.vm.findClass M.1.cls = some m.cls ∧ (∀ w ∈ mmWall, w.before args s = true) ∧ meth.sig.returnType = M.2.2.2 ∧ meth.locks = false ∧ va_K D vwCl (mmTys ca) s ∧ (∀ h : MH, va_D A (mmWorld ρ ca h)) ∧ (∀ q, s.heap.size ≤ q → A q)
def MW (d : Nat) (M : MMeth) (pc : Nat) (ls : List (Option MV)) (st : List MV) (h : MH) (Q : Int32 → MH → Prop) : Prop :=
  ∀ (p : Program) (l : Launch) (e : Env) (s : State) (m : MethodId) (args : Array Value) (below : List Frame) (meth : Method) (c : Code) (D : va_G) (ρ : Nat → Nat) (ca : Nat → ClassId) (A : Nat → Prop), mmCtx p s m args meth c M D ρ ca A →
  ∀ (H : Heap) (locs : List Loc) (la : Array Slot), va_P D vwCl (mmWorld ρ ca h) H → va_S A s.heap H locs → lv_has la M.2.2.1 (mmLv ρ ls) →
    W p l e (mmRoom d) s m args below meth c H locs 0 0 (MQ below (mmQc M D ρ ca A Q) args s 0 0 A) (F0 m pc la (st.map (mmV ρ)))
def MC (d : Nat) (M : MMeth) (vs : List MV) (h : MH) (Q : Int32 → MH → Prop) : Prop :=
  ∀ (l : Launch) (D : va_G) (ρ : Nat → Nat) (ca : Nat → ClassId) (sz : Nat), va_D (fun _ => True) (mmWorld ρ ca h) →
    Met l M.1 (mmWs M) (mmRoom d) (va_Pc (vs.map (mmV ρ)) (fun U => U.heap.size = sz ∧ mmB D ρ ca h U)) (mmQc M D ρ ca (va_A (mmWorld ρ ca h) sz) Q) 0 0 (va_A (mmWorld ρ ca h) sz)
set_option maxHeartbeats 1000000 in
theorem MC.of {d : Nat} {M : MMeth} {vs : List MV} {h : MH} {Q : Int32 → MH → Prop} (hy : plainName M.1.cls = true) (hn : vs.length ≤ M.2.2.1) (k : MW d M 0 (mmStart M.2.2.1 vs) [] h Q) : MC d M vs h Q := by
  intro l D ρ ca sz hD0
  refine Met.ofW (cc := M.2.1) (maxL := M.2.2.1) (ret := M.2.2.2) hy rfl ?_
  intro p e s m args below meth c s₁ B hml hv
  obtain ⟨rfl, hsz, hP, hK⟩ := hv
  have hts : ∀ w ∈ mmWs M, w.before (vs.map (mmV ρ)).toArray s = true := atoms_spec (ws := mmWs M) B.pre
  have hown : s.vm.findClass M.1.cls = some m.cls := findClass_of_methodNamed B.named
  subst hsz
  have hl := lv_entry (vs.map (mmV ρ)) (n := M.2.2.1) (by rw [mmL_sl]; exact hn)
  rw [lg_entry_eq]
  exact k p l e s m _ below meth c D ρ ca _ ⟨B.exec, B.bytes, hml, hown, fun w hw => hts w (List.mem_cons_of_mem _ hw), B.returns, B.notSynchronized, hK, fun h' => mmWorld_D (hD0.self (sz := s.heap.size)), fun q hq => Or.inr hq⟩ s.heap [] _ hP va_S.rf (mmL_start hl)
theorem MC.mono {d : Nat} {M : MMeth} {vs : List MV} {h : MH} {Q Q' : Int32 → MH → Prop} (hc : MC d M vs h Q) (hq : ∀ r h', Q r h' → Q' r h') : MC d M vs h Q' := by
  intro l D ρ ca sz hD
  have h1 := hc l D ρ ca sz hD
  have h2 : ∀ a st o t, mmQc M D ρ ca (va_A (mmWorld ρ ca h) sz) Q a st o t → mmQc M D ρ ca (va_A (mmWorld ρ ca h) sz) Q' a st o t := by
    intro a st o t hh
    unfold mmQc at hh ⊢
    cases hM : M.2.2.2 with
    | none =>
      rw [hM] at hh
      obtain ⟨⟨u, e1, e2, e3⟩, e4⟩ := hh
      exact ⟨⟨u, e1, hq _ _ e2, e3⟩, e4⟩
    | some ty =>
      rw [hM] at hh
      obtain ⟨⟨r, u, e1, e2, e3⟩, e4⟩ := hh
      exact ⟨⟨r, u, e1, hq _ _ e2, e3⟩, e4⟩
  intro p e ha hc' hk s m args below hf hap hP hK
  obtain ⟨k, o, g1, g2, g3, g4⟩ := h1 p e ha hc' hk s m args below hf hap hP hK
  exact ⟨k, o, g1, g2, g3, h2 _ _ _ _ g4.1, g4.2⟩
section MM
variable {d : Nat} {M : MMeth} {pc : Nat} {ls : List (Option MV)} {st : List MV} {h : MH} {Q : Int32 → MH → Prop}
theorem MW.mono {Q' : Int32 → MH → Prop} (k : MW d M pc ls st h Q) (hq : ∀ r h', Q r h' → Q' r h') : MW d M pc ls st h Q' := by
  intro p l e s m args below meth c D ρ ca A C H locs la hP hS hl T hT X
  obtain ⟨t, g1, o, g2, g3, g4, g5⟩ := k p l e s m args below meth c D ρ ca A C H locs la hP hS hl T hT X
  refine ⟨t, g1, o, g2, g3, ?_, g5⟩
  unfold mmQc at g4 ⊢
  cases hM : M.2.2.2 with
  | none =>
    rw [hM] at g4
    obtain ⟨⟨u, e1, e2, e3⟩, e4⟩ := g4
    exact ⟨⟨u, e1, hq _ _ e2, e3⟩, e4⟩
  | some ty =>
    rw [hM] at g4
    obtain ⟨⟨r, u, e1, e2, e3⟩, e4⟩ := g4
    exact ⟨⟨r, u, e1, hq _ _ e2, e3⟩, e4⟩
/-- fewer locals known, or the same ones -/
theorem MW.locals {ls' : List (Option MV)} (hs : ∀ (i : Nat) (v : MV), ls'[i]? = some (some v) → ls[i]? = some (some v)) (k : MW d M pc ls' st h Q) : MW d M pc ls st h Q := by
  intro p l e s m args below meth c D ρ ca A C H locs la hP hS hl
  refine k p l e s m args below meth c D ρ ca A C H locs la hP hS ⟨hl.1, hl.2.1, fun q hq => ?_⟩
  obtain ⟨v, h1, h2⟩ := mmLv_mem.mp hq
  exact hl.2.2 q (mmLv_mem.mpr ⟨v, hs _ _ h1, h2⟩)
theorem MW.iconst {n : Int} {v : Int32} (hd : decode M.2.1 pc = .ok (.iconst n, 1)) (hv : Int32.ofInt n = v) (k : MW d M (pc + 1) ls (.inl v :: st) h Q) : MW d M pc ls st h Q :=
  fun p l e s m args below meth c D ρ ca A C H locs la hP hS hl => lv_iconst C.1 C.2.1 hd hv (k p l e s m args below meth c D ρ ca A C H locs la hP hS hl)
theorem MW.bipush {n : Int} {v : Int32} (hd : decode M.2.1 pc = .ok (.bipush n, 2)) (hv : (Int8.ofInt n).toInt32 = v) (k : MW d M (pc + 2) ls (.inl v :: st) h Q) : MW d M pc ls st h Q :=
  fun p l e s m args below meth c D ρ ca A C H locs la hP hS hl => lv_bipush C.1 C.2.1 hd hv (k p l e s m args below meth c D ρ ca A C H locs la hP hS hl)
theorem MW.sipush {n : Int} {v : Int32} (hd : decode M.2.1 pc = .ok (.sipush n, 3)) (hv : (Int16.ofInt n).toInt32 = v) (k : MW d M (pc + 3) ls (.inl v :: st) h Q) : MW d M pc ls st h Q :=
  fun p l e s m args below meth c D ρ ca A C H locs la hP hS hl => lv_sipush C.1 C.2.1 hd hv (k p l e s m args below meth c D ρ ca A C H locs la hP hS hl)
theorem MW.ldcw {ix : Nat} {v : Int32} (hd : decode M.2.1 pc = .ok (.ldc_w ix, 3)) (hw : Cond.constant M.1.cls ix v ∈ mmWall) (k : MW d M (pc + 3) ls (.inl v :: st) h Q) : MW d M pc ls st h Q :=
  fun p l e s m args below meth c D ρ ca A C H locs la hP hS hl => lv_ldcw C.1 C.2.1 C.2.2.2.1 (C.2.2.2.2.1 _ hw) hd (k p l e s m args below meth c D ρ ca A C H locs la hP hS hl)
theorem MW.iload_n {i : Fin 4} {v : Int32} (hd : decode M.2.1 pc = .ok (.iload_n i, 1)) (hv : ls[(i : Nat)]? = some (some (.inl v))) (k : MW d M (pc + 1) ls (.inl v :: st) h Q) : MW d M pc ls st h Q :=
  fun p l e s m args below meth c D ρ ca A C H locs la hP hS hl => lv_iload_n C.1 C.2.1 hd rfl (mmL_get hl hv) (k p l e s m args below meth c D ρ ca A C H locs la hP hS hl)
theorem MW.iload {i : Nat} {v : Int32} (hd : decode M.2.1 pc = .ok (.iload i, 2)) (hv : ls[i]? = some (some (.inl v))) (k : MW d M (pc + 2) ls (.inl v :: st) h Q) : MW d M pc ls st h Q :=
  fun p l e s m args below meth c D ρ ca A C H locs la hP hS hl => lv_iload C.1 C.2.1 hd (mmL_get hl hv) (k p l e s m args below meth c D ρ ca A C H locs la hP hS hl)
theorem MW.aload_n {i : Fin 4} {v : Nat} (hd : decode M.2.1 pc = .ok (.aload_n i, 1)) (hv : ls[(i : Nat)]? = some (some (.inr v))) (k : MW d M (pc + 1) ls (.inr v :: st) h Q) : MW d M pc ls st h Q :=
  fun p l e s m args below meth c D ρ ca A C H locs la hP hS hl => lv_aload_n C.1 C.2.1 hd rfl (mmL_get hl hv) (k p l e s m args below meth c D ρ ca A C H locs la hP hS hl)
theorem MW.istore_n {i : Fin 4} {v : Int32} (hd : decode M.2.1 pc = .ok (.istore_n i, 1)) (hn : (i : Nat) < M.2.2.1) {ls' : List (Option MV)} (hs : ls.set i (some (.inl v)) = ls') (k : MW d M (pc + 1) ls' st h Q) : MW d M pc ls (.inl v :: st) h Q := by
  subst hs
  exact fun p l e s m args below meth c D ρ ca A C H locs la hP hS hl => lv_istore_n C.1 C.2.1 hd rfl hl hn rfl (fun la' hl' => k p l e s m args below meth c D ρ ca A C H locs la' hP hS (mmL_set (v := .inl v) hl'))
theorem MW.istore {i : Nat} {v : Int32} (hd : decode M.2.1 pc = .ok (.istore i, 2)) (hn : i < M.2.2.1) {ls' : List (Option MV)} (hs : ls.set i (some (.inl v)) = ls') (k : MW d M (pc + 2) ls' st h Q) : MW d M pc ls (.inl v :: st) h Q := by
  subst hs
  exact fun p l e s m args below meth c D ρ ca A C H locs la hP hS hl => lv_istore C.1 C.2.1 hd hl hn rfl (fun la' hl' => k p l e s m args below meth c D ρ ca A C H locs la' hP hS (mmL_set (v := .inl v) hl'))
theorem mmLv_pos {ρ : Nat → Nat} {i : Nat} {v : MV} (hv : ls[i]? = some (some v)) : ∃ k : Nat, (mmLv ρ ls)[k]? = some (i, mmV ρ v) := List.getElem?_of_mem (mmLv_mem.mpr ⟨v, hv, rfl⟩)
theorem MW.iinc {i : Nat} {n : Int} {x v : Int32} (hd : decode M.2.1 pc = .ok (.iinc i n, 3)) (hv : ls[i]? = some (some (.inl x))) (hx : x + Int32.ofInt n = v) (hn : i < M.2.2.1) {ls' : List (Option MV)} (hs : ls.set i (some (.inl v)) = ls') (k : MW d M (pc + 3) ls' st h Q) : MW d M pc ls st h Q := by
  subst hs
  intro p l e s m args below meth c D ρ ca A C H locs la hP hS hl
  obtain ⟨j, hj⟩ := mmLv_pos (ρ := ρ) hv
  exact lv_iinc C.1 C.2.1 hd hl hj hx hn rfl (fun la' hl' => k p l e s m args below meth c D ρ ca A C H locs la' hP hS (mmL_set (v := .inl v) hl'))
theorem MW.iadd {x y v : Int32} (hd : decode M.2.1 pc = .ok (.iadd, 1)) (hv : x + y = v) (k : MW d M (pc + 1) ls (.inl v :: st) h Q) : MW d M pc ls (.inl y :: .inl x :: st) h Q := by
  subst hv
  exact fun p l e s m args below meth c D ρ ca A C H locs la hP hS hl => lv_iadd C.1 C.2.1 hd (k p l e s m args below meth c D ρ ca A C H locs la hP hS hl)
theorem MW.isub {x y v : Int32} (hd : decode M.2.1 pc = .ok (.isub, 1)) (hv : x - y = v) (k : MW d M (pc + 1) ls (.inl v :: st) h Q) : MW d M pc ls (.inl y :: .inl x :: st) h Q := by
  subst hv
  exact fun p l e s m args below meth c D ρ ca A C H locs la hP hS hl => lv_isub C.1 C.2.1 hd (k p l e s m args below meth c D ρ ca A C H locs la hP hS hl)
theorem MW.imul {x y v : Int32} (hd : decode M.2.1 pc = .ok (.imul, 1)) (hv : x * y = v) (k : MW d M (pc + 1) ls (.inl v :: st) h Q) : MW d M pc ls (.inl y :: .inl x :: st) h Q := by
  subst hv
  exact fun p l e s m args below meth c D ρ ca A C H locs la hP hS hl => lv_imul C.1 C.2.1 hd (k p l e s m args below meth c D ρ ca A C H locs la hP hS hl)
theorem MW.iand {x y v : Int32} (hd : decode M.2.1 pc = .ok (.iand, 1)) (hv : x &&& y = v) (k : MW d M (pc + 1) ls (.inl v :: st) h Q) : MW d M pc ls (.inl y :: .inl x :: st) h Q := by
  subst hv
  exact fun p l e s m args below meth c D ρ ca A C H locs la hP hS hl => lv_iand C.1 C.2.1 hd (k p l e s m args below meth c D ρ ca A C H locs la hP hS hl)
theorem MW.ixor {x y v : Int32} (hd : decode M.2.1 pc = .ok (.ixor, 1)) (hv : x ^^^ y = v) (k : MW d M (pc + 1) ls (.inl v :: st) h Q) : MW d M pc ls (.inl y :: .inl x :: st) h Q := by
  subst hv
  exact fun p l e s m args below meth c D ρ ca A C H locs la hP hS hl => lv_ixor C.1 C.2.1 hd (k p l e s m args below meth c D ρ ca A C H locs la hP hS hl)
theorem MW.idiv {x y v : Int32} (hd : decode M.2.1 pc = .ok (.idiv, 1)) (hne : ¬ y = 0) (hv : x / y = v) (k : MW d M (pc + 1) ls (.inl v :: st) h Q) : MW d M pc ls (.inl y :: .inl x :: st) h Q := by
  subst hv
  exact fun p l e s m args below meth c D ρ ca A C H locs la hP hS hl => lv_idiv C.1 C.2.1 hd hne (k p l e s m args below meth c D ρ ca A C H locs la hP hS hl)
theorem MW.irem {x y v : Int32} (hd : decode M.2.1 pc = .ok (.irem, 1)) (hne : ¬ y = 0) (hv : x - x / y * y = v) (k : MW d M (pc + 1) ls (.inl v :: st) h Q) : MW d M pc ls (.inl y :: .inl x :: st) h Q := by
  subst hv
  exact fun p l e s m args below meth c D ρ ca A C H locs la hP hS hl => lv_irem C.1 C.2.1 hd hne (k p l e s m args below meth c D ρ ca A C H locs la hP hS hl)
theorem MW.ineg {x v : Int32} (hd : decode M.2.1 pc = .ok (.ineg, 1)) (hv : -x = v) (k : MW d M (pc + 1) ls (.inl v :: st) h Q) : MW d M pc ls (.inl x :: st) h Q := by
  subst hv
  exact fun p l e s m args below meth c D ρ ca A C H locs la hP hS hl => lv_ineg C.1 C.2.1 hd (k p l e s m args below meth c D ρ ca A C H locs la hP hS hl)
theorem MW.ishl {x y v : Int32} (hd : decode M.2.1 pc = .ok (.ishl, 1)) (hv : x <<< (y &&& 31) = v) (k : MW d M (pc + 1) ls (.inl v :: st) h Q) : MW d M pc ls (.inl y :: .inl x :: st) h Q := by
  subst hv
  exact fun p l e s m args below meth c D ρ ca A C H locs la hP hS hl => lv_ishl C.1 C.2.1 hd (k p l e s m args below meth c D ρ ca A C H locs la hP hS hl)
theorem MW.ishr {x y v : Int32} (hd : decode M.2.1 pc = .ok (.ishr, 1)) (hv : x >>> (y &&& 31) = v) (k : MW d M (pc + 1) ls (.inl v :: st) h Q) : MW d M pc ls (.inl y :: .inl x :: st) h Q := by
  subst hv
  exact fun p l e s m args below meth c D ρ ca A C H locs la hP hS hl => lv_ishr C.1 C.2.1 hd (k p l e s m args below meth c D ρ ca A C H locs la hP hS hl)
theorem MW.iushr {x y v : Int32} (hd : decode M.2.1 pc = .ok (.iushr, 1)) (hv : (x.toUInt32 >>> (y.toUInt32 &&& Int32.toUInt32 31)).toInt32 = v) (k : MW d M (pc + 1) ls (.inl v :: st) h Q) : MW d M pc ls (.inl y :: .inl x :: st) h Q :=
  fun p l e s m args below meth c D ρ ca A C H locs la hP hS hl => lv_iushr C.1 C.2.1 hd hv (k p l e s m args below meth c D ρ ca A C H locs la hP hS hl)
theorem MW.i2c {x v : Int32} (hd : decode M.2.1 pc = .ok (.i2c, 1)) (hv : (x.toUInt32 % 65536).toInt32 = v) (k : MW d M (pc + 1) ls (.inl v :: st) h Q) : MW d M pc ls (.inl x :: st) h Q :=
  fun p l e s m args below meth c D ρ ca A C H locs la hP hS hl => lv_i2c C.1 C.2.1 hd hv (k p l e s m args below meth c D ρ ca A C H locs la hP hS hl)
theorem MW.dup {v : MV} (hd : decode M.2.1 pc = .ok (.dup, 1)) (k : MW d M (pc + 1) ls (v :: v :: st) h Q) : MW d M pc ls (v :: st) h Q :=
  fun p l e s m args below meth c D ρ ca A C H locs la hP hS hl => lv_dup C.1 C.2.1 hd (mmV_cat ρ v) (k p l e s m args below meth c D ρ ca A C H locs la hP hS hl)
theorem MW.dup2 {v w : MV} (hd : decode M.2.1 pc = .ok (.dup2, 1)) (k : MW d M (pc + 1) ls (v :: w :: v :: w :: st) h Q) : MW d M pc ls (v :: w :: st) h Q :=
  fun p l e s m args below meth c D ρ ca A C H locs la hP hS hl => lv_dup2_11 C.1 C.2.1 hd (mmV_cat ρ v) (mmV_cat ρ w) (k p l e s m args below meth c D ρ ca A C H locs la hP hS hl)
theorem MW.pop {v : MV} (hd : decode M.2.1 pc = .ok (.pop, 1)) (k : MW d M (pc + 1) ls st h Q) : MW d M pc ls (v :: st) h Q :=
  fun p l e s m args below meth c D ρ ca A C H locs la hP hS hl => lv_pop C.1 C.2.1 hd (mmV_cat ρ v) (k p l e s m args below meth c D ρ ca A C H locs la hP hS hl)
theorem MW.goto {off : Int} {tgt : Nat} (hd : decode M.2.1 pc = .ok (.goto off, 3)) (ht : (pc : Int) + off = (tgt : Int)) (k : MW d M tgt ls st h Q) : MW d M pc ls st h Q :=
  fun p l e s m args below meth c D ρ ca A C H locs la hP hS hl => lv_goto C.1 C.2.1 hd ht (k p l e s m args below meth c D ρ ca A C H locs la hP hS hl)
end MM
