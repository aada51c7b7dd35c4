-- calls
/-- the pool's entry ix of the class own calls the method M2 with n arguments: a static one -/
def mmCS (own : String) (ix : Nat) (M2 : MMeth) (n : Nat) : Prop := Cond.methodLink own ix M2.1 ∈ mmWall ∧ Cond.initialized M2.1.cls ∈ mmWall ∧ Cond.code M2.1 M2.2.1 M2.2.2.1 M2.2.2.2 ∈ mmWall ∧ (M2.1.cls ≠ "java/lang/invoke/MethodHandle" ∧ M2.1.cls ≠ "java/lang/invoke/VarHandle") ∧ (parseMethodDescriptor M2.1.desc).map (fun z => z.parameters.length) = some n ∧ M2.2.2.1 ≤ 13 ∧ Cond.static M2.1 ∈ mmWall
/-- one of an object, of the class number ci -/
def mmCV (own : String) (ix : Nat) (M2 : MMeth) (n ci : Nat) : Prop := Cond.methodLink own ix M2.1 ∈ mmWall ∧ Cond.initialized M2.1.cls ∈ mmWall ∧ Cond.code M2.1 M2.2.1 M2.2.2.1 M2.2.2.2 ∈ mmWall ∧ (M2.1.cls ≠ "java/lang/invoke/MethodHandle" ∧ M2.1.cls ≠ "java/lang/invoke/VarHandle") ∧ (parseMethodDescriptor M2.1.desc).map (fun z => z.parameters.length) = some n ∧ M2.2.2.1 ≤ 13 ∧ Cond.instanceMethod M2.1 ∈ mmWall ∧ Cond.selects M2.1.cls M2.1 M2.1 ∈ mmWall ∧ ∃ (T : u_T) (N : Nat), vwCl[ci]? = some (M2.1.cls, T, N)
section MMC
variable {d : Nat} {M : MMeth} {pc : Nat} {ls : List (Option MV)} {st : List MV} {h : MH} {Q : Int32 → MH → Prop}
theorem mm_callB {d2 n : Nat} {own : String} {ix : Nat} {M2 : MMeth} {s : State} {args : Array Value} (hts : ∀ w ∈ mmWall, w.before args s = true) (h1 : Cond.methodLink own ix M2.1 ∈ mmWall) (h2 : Cond.initialized M2.1.cls ∈ mmWall) (h3 : Cond.code M2.1 M2.2.1 M2.2.2.1 M2.2.2.2 ∈ mmWall) (h4 : M2.1.cls ≠ "java/lang/invoke/MethodHandle" ∧ M2.1.cls ≠ "java/lang/invoke/VarHandle") (h5 : (parseMethodDescriptor M2.1.desc).map (fun z => z.parameters.length) = some n) (h6 : M2.2.2.1 ≤ 13) (hdd : d2 + 1 ≤ d) :
    CallB (mmRoom d) s args own ix M2.1 M2.2.1 M2.2.2.1 M2.2.2.2 (mmWs M2) (mmRoom d2) 0 0 n := by
  refine ⟨rfl, rfl, hdd, ?_, ?_, List.mem_cons_self, hts _ h3, hts _ h2, h4, fun sig h => ?_, hts _ h1⟩
  · show 8 + (M2.2.2.1 + 11) + 32 * d2 ≤ 32 * d
    omega
  · intro w hw a' U hW
    have hwm : w ∈ mmWall := by
      rcases List.mem_cons.mp hw with rfl | hw
      · exact h3
      · exact hw
    exact word_at hW (mmW_good hwm) (hts w hwm)
  · rw [h] at h5
    exact (Option.some.inj h5).symm
theorem mm_pc {vs : List MV} {ρ : Nat → Nat} {D : va_G} {ca : Nat → ClassId} {sz : Nat} : FrameBlind (va_Pc (vs.map (mmV ρ)) (fun U => U.heap.size = sz ∧ mmB D ρ ca h U)) := by
  intro a U g mk q
  obtain ⟨q1, q2, q3, q4⟩ := q
  exact ⟨q1, q2, q3, va_K.moved (u := U) (U := U.calling g mk a) (Vm.Alike.refl U.vm) q4⟩
theorem mm_pre {vs : List MV} {ρ : Nat → Nat} {D : va_G} {ca : Nat → ClassId} {s : State} {H : Heap} (hP : va_P D vwCl (mmWorld ρ ca h) H) (hK : va_K D vwCl (mmTys ca) s) : PreS s H (va_Pc (vs.map (mmV ρ)) (fun U => U.heap.size = H.size ∧ mmB D ρ ca h U)) (vs.map (mmV ρ)) :=
  ⟨mm_pc, fun U hU hW => ⟨rfl, by rw [hU], by unfold mmB; rw [hU]; exact ⟨hP, va_K.moved hW.alike hK⟩⟩⟩
theorem mm_free {ρ : Nat → Nat} {ca : Nat → ClassId} {A : Nat → Prop} {H0 H : Heap} {locs : List Loc} (hD : va_D A (mmWorld ρ ca h)) (hS : va_S A H0 H locs) (hA : ∀ q, H0.size ≤ q → A q) : ∀ q, va_A (mmWorld ρ ca h) H.size q → A q := by
  intro q hq
  rcases hq with ⟨k, e, hk⟩ | hq
  · exact hD.2 k (q, e) hk
  · exact hA q (Nat.le_trans hS.1 hq)
theorem mm_sum (ρ : Nat → Nat) (st : List MV) : ((st.map (mmV ρ)).map fun v => v.category).sum = st.length := by
  induction st with
  | nil => rfl
  | cons a t ih =>
    simp only [List.map_cons, List.sum_cons, List.length_cons, mmV_cat, ih]
    omega
theorem mm_room {m : MethodId} {pc : Nat} {la : Array Slot} {stk : List Value} (ρ : Nat → Nat) (st : List MV) (hs : st.length ≤ 8) : 2 * (F0 m pc la stk).monitorRoom + ((st.map (mmV ρ)).map fun v => v.category).sum ≤ 8 :=
  lv_room (by rw [mm_sum]; exact hs)
theorem MW.callS {d2 ix : Nat} {M2 : MMeth} {as : List MV} {st0 : List MV} {Q2 : Int32 → MH → Prop} {ty : FieldType} (hd : decode M.2.1 pc = .ok (.invokestatic ix, 3)) (hl2 : mmCS M.1.cls ix M2 as.length) (hr2 : M2.2.2.2 = some ty) (hdd : d2 + 1 ≤ d) (hst : st.length ≤ 8) (hs : st0 = as.reverse ++ st) (hc : MC d2 M2 as h Q2) (kk : ∀ r h', Q2 r h' → MW d M (pc + 3) ls (.inl r :: st) h' Q) : MW d M pc ls st0 h Q := by
  subst hs
  intro p l e s m args below meth c D ρ ca A C H locs la hP hS hl
  obtain ⟨c1, c2, c3, c4, c5, c6, c7⟩ := hl2
  have hM := hc l D ρ ca H.size ((C.2.2.2.2.2.2.2.2.1 h).weaken (fun _ _ _ _ => trivial))
  have hF := mm_free (C.2.2.2.2.2.2.2.2.1 h) hS C.2.2.2.2.2.2.2.2.2
  have hrun := va_runS (H := H) (locs := locs) (cells := 0) (slots := 0) (e := e) (below := below) (meth := meth) (rest := st.map (mmV ρ)) (g := F0 m pc la ((as.reverse ++ st).map (mmV ρ))) ⟨C.1, C.2.1, C.2.2.1, C.2.2.2.1, C.2.2.2.2.1⟩ hM ⟨mm_callB C.2.2.2.2.1 c1 c2 c3 c4 c5 c6 hdd, C.2.2.2.2.1 _ c7⟩ (mm_pre hP C.2.2.2.2.2.2.2.1) rfl (by simp) hl.1 (by simp) (mm_room ρ st hst) hd ⟨Nat.zero_le _, Nat.zero_le _⟩
  unfold mmQc at hrun
  rw [hr2] at hrun
  exact va_calli hrun hS (fun q _ hq => hF q hq) hF (fun r u t H1 locs1 ht hvm hw hB hz1 hk1 hS1 => kk r u hw p l e s m args below meth c D ρ ca A C H1 locs1 la (ht ▸ hB.1) hS1 hl)
theorem MW.callSv {d2 ix : Nat} {M2 : MMeth} {as : List MV} {st0 : List MV} {Q2 : Int32 → MH → Prop} (hd : decode M.2.1 pc = .ok (.invokestatic ix, 3)) (hl2 : mmCS M.1.cls ix M2 as.length) (hr2 : M2.2.2.2 = none) (hdd : d2 + 1 ≤ d) (hst : st.length ≤ 8) (hs : st0 = as.reverse ++ st) (hc : MC d2 M2 as h Q2) (kk : ∀ h', Q2 0 h' → MW d M (pc + 3) ls st h' Q) : MW d M pc ls st0 h Q := by
  subst hs
  intro p l e s m args below meth c D ρ ca A C H locs la hP hS hl
  obtain ⟨c1, c2, c3, c4, c5, c6, c7⟩ := hl2
  have hM := hc l D ρ ca H.size ((C.2.2.2.2.2.2.2.2.1 h).weaken (fun _ _ _ _ => trivial))
  have hF := mm_free (C.2.2.2.2.2.2.2.2.1 h) hS C.2.2.2.2.2.2.2.2.2
  have hrun := va_runS (H := H) (locs := locs) (cells := 0) (slots := 0) (e := e) (below := below) (meth := meth) (rest := st.map (mmV ρ)) (g := F0 m pc la ((as.reverse ++ st).map (mmV ρ))) ⟨C.1, C.2.1, C.2.2.1, C.2.2.2.1, C.2.2.2.2.1⟩ hM ⟨mm_callB C.2.2.2.2.1 c1 c2 c3 c4 c5 c6 hdd, C.2.2.2.2.1 _ c7⟩ (mm_pre hP C.2.2.2.2.2.2.2.1) rfl (by simp) hl.1 (by simp) (mm_room ρ st hst) hd ⟨Nat.zero_le _, Nat.zero_le _⟩
  unfold mmQc at hrun
  rw [hr2] at hrun
  exact va_callv hrun hS (fun q _ hq => hF q hq) hF (fun u t H1 locs1 ht hvm hw hB hz1 hk1 hS1 => kk u hw p l e s m args below meth c D ρ ca A C H1 locs1 la (ht ▸ hB.1) hS1 hl)
theorem MW.callV {d2 ix k ci : Nat} {M2 : MMeth} {as : List MV} {st0 : List MV} {Q2 : Int32 → MH → Prop} {ty : FieldType} (hd : decode M.2.1 pc = .ok (.invokevirtual ix, 3)) (hl2 : mmCV M.1.cls ix M2 as.length ci) (hk : mmIsObj k ci) (hr2 : M2.2.2.2 = some ty) (hdd : d2 + 1 ≤ d) (hst : st.length ≤ 8) (hs : st0 = as.reverse ++ .inr k :: st) (hc : MC d2 M2 (.inr k :: as) h Q2) (kk : ∀ r h', Q2 r h' → MW d M (pc + 3) ls (.inl r :: st) h' Q) : MW d M pc ls st0 h Q := by
  subst hs
  intro p l e s m args below meth c D ρ ca A C H locs la hP hS hl
  obtain ⟨c1, c2, c3, c4, c5, c6, c7, c8, T, N, c9⟩ := hl2
  obtain ⟨fk, hk⟩ := hk
  have hM := hc l D ρ ca H.size ((C.2.2.2.2.2.2.2.2.1 h).weaken (fun _ _ _ _ => trivial))
  have hF := mm_free (C.2.2.2.2.2.2.2.2.1 h) hS C.2.2.2.2.2.2.2.2.2
  have hpre := mm_pre (vs := .inr k :: as) hP C.2.2.2.2.2.2.2.1
  have hrun := va_runV (H := H) (locs := locs) (cells := 0) (slots := 0) (e := e) (below := below) (meth := meth) (As := as.map (mmV ρ)) (b := ρ k) (C := M2.1.cls) (rest := st.map (mmV ρ)) (g := F0 m pc la ((as.reverse ++ .inr k :: st).map (mmV ρ))) ⟨C.1, C.2.1, C.2.2.1, C.2.2.2.1, C.2.2.2.2.1⟩ hM ⟨mm_callB C.2.2.2.2.1 c1 c2 c3 c4 c5 c6 hdd, C.2.2.2.2.1 _ c7, C.2.2.2.2.1 _ c8⟩ ⟨hpre.1, va_recv C.2.2.2.2.2.2.2.1 hP c9 (mmWorld_get hk), hpre.2⟩ rfl (by simp) hl.1 (by simp [mmV]) (mm_room ρ st hst) hd ⟨Nat.zero_le _, Nat.zero_le _⟩
  unfold mmQc at hrun
  rw [hr2] at hrun
  exact va_calli hrun hS (fun q _ hq => hF q hq) hF (fun r u t H1 locs1 ht hvm hw hB hz1 hk1 hS1 => kk r u hw p l e s m args below meth c D ρ ca A C H1 locs1 la (ht ▸ hB.1) hS1 hl)
theorem MW.callVv {d2 ix k ci : Nat} {M2 : MMeth} {as : List MV} {st0 : List MV} {Q2 : Int32 → MH → Prop} (hd : decode M.2.1 pc = .ok (.invokevirtual ix, 3)) (hl2 : mmCV M.1.cls ix M2 as.length ci) (hk : mmIsObj k ci) (hr2 : M2.2.2.2 = none) (hdd : d2 + 1 ≤ d) (hst : st.length ≤ 8) (hs : st0 = as.reverse ++ .inr k :: st) (hc : MC d2 M2 (.inr k :: as) h Q2) (kk : ∀ h', Q2 0 h' → MW d M (pc + 3) ls st h' Q) : MW d M pc ls st0 h Q := by
  subst hs
  intro p l e s m args below meth c D ρ ca A C H locs la hP hS hl
  obtain ⟨c1, c2, c3, c4, c5, c6, c7, c8, T, N, c9⟩ := hl2
  obtain ⟨fk, hk⟩ := hk
  have hM := hc l D ρ ca H.size ((C.2.2.2.2.2.2.2.2.1 h).weaken (fun _ _ _ _ => trivial))
  have hF := mm_free (C.2.2.2.2.2.2.2.2.1 h) hS C.2.2.2.2.2.2.2.2.2
  have hpre := mm_pre (vs := .inr k :: as) hP C.2.2.2.2.2.2.2.1
  have hrun := va_runV (H := H) (locs := locs) (cells := 0) (slots := 0) (e := e) (below := below) (meth := meth) (As := as.map (mmV ρ)) (b := ρ k) (C := M2.1.cls) (rest := st.map (mmV ρ)) (g := F0 m pc la ((as.reverse ++ .inr k :: st).map (mmV ρ))) ⟨C.1, C.2.1, C.2.2.1, C.2.2.2.1, C.2.2.2.2.1⟩ hM ⟨mm_callB C.2.2.2.2.1 c1 c2 c3 c4 c5 c6 hdd, C.2.2.2.2.1 _ c7, C.2.2.2.2.1 _ c8⟩ ⟨hpre.1, va_recv C.2.2.2.2.2.2.2.1 hP c9 (mmWorld_get hk), hpre.2⟩ rfl (by simp) hl.1 (by simp [mmV]) (mm_room ρ st hst) hd ⟨Nat.zero_le _, Nat.zero_le _⟩
  unfold mmQc at hrun
  rw [hr2] at hrun
  exact va_callv hrun hS (fun q _ hq => hF q hq) hF (fun u t H1 locs1 ht hvm hw hB hz1 hk1 hS1 => kk u hw p l e s m args below meth c D ρ ca A C H1 locs1 la (ht ▸ hB.1) hS1 hl)
/-- System.arraycopy over rows of ints -/
theorem MW.copy {ix k0 k1 n0 n1 : Nat} {sp dp n : Int32} (hd : decode M.2.1 pc = .ok (.invokestatic ix, 3)) (h1 : Cond.methodLink M.1.cls ix arraycopyName ∈ mmWall) (h2 : Cond.native arraycopyName ∈ mmWall) (h3 : Cond.static arraycopyName ∈ mmWall) (h4 : Cond.initialized "java/lang/System" ∈ mmWall) (hk0 : mmAr k0 0 n0) (hk1 : mmAr k1 0 n1) (g1 : ¬ sp < 0) (g2 : ¬ dp < 0) (g3 : ¬ n < 0) (g4 : sp.toNatClampNeg + n.toNatClampNeg ≤ n0) (g5 : dp.toNatClampNeg + n.toNatClampNeg ≤ n1) (hdd : 2 ≤ d) (hst : st.length ≤ 8) (kk : MW d M (pc + 3) ls st (mmUp h k1 (va_cpy (h k0) (h k1) sp.toNatClampNeg dp.toNatClampNeg n.toNatClampNeg)) Q) : MW d M pc ls (.inl n :: .inl dp :: .inr k1 :: .inl sp :: .inr k0 :: st) h Q := by
  intro p l e s m args below meth c D ρ ca A C H locs la hP hS hl
  refine va_copyi C.1 C.2.1 (C.2.2.1.trans hl.1.symm) C.2.2.2.1 (C.2.2.2.2.1 _ h1) (C.2.2.2.2.1 _ h2) (C.2.2.2.2.1 _ h3) (C.2.2.2.2.1 _ h4) C.2.2.2.2.2.2.2.1 hP (C.2.2.2.2.2.2.2.2.1 h) hS k0 k1 0 0 (mmWorld_get hk0) (mmWorld_get hk1) rfl rfl rfl g1 g2 g3 g4 g5 (fun _ _ => rfl) (by show 1 ≤ d; omega) ?_ hd (fun H1 locs1 hP1 _ hS1 => ?_)
  · rw [mm_sum]
    have e1 : nativeFrameWords "java/lang/System" "arraycopy" 5 ≤ 40 := by decide
    show st.length + (nativeFrameWords "java/lang/System" "arraycopy" 5 + 11) ≤ 32 * d
    omega
  · have e1 : (mmWorld ρ ca h).set k1 (ρ k1, .inl (ca 0, n1, .inl (va_cpy (h k0) (h k1) sp.toNatClampNeg dp.toNatClampNeg n.toNatClampNeg))) = mmWorld ρ ca (mmUp h k1 (va_cpy (h k0) (h k1) sp.toNatClampNeg dp.toNatClampNeg n.toNatClampNeg)) := mmWorld_set hk1 rfl
    rw [e1] at hP1
    exact kk p l e s m args below meth c D ρ ca A C H1 locs1 la hP1 hS1 hl
theorem MW.mmax {ix : Nat} {x y v : Int32} (hd : decode M.2.1 pc = .ok (.invokestatic ix, 3)) (h1 : Cond.methodLink M.1.cls ix Lib.Math.max.name ∈ mmWall) (h2 : Cond.static Lib.Math.max.name ∈ mmWall) (h3 : Cond.initialized "java/lang/Math" ∈ mmWall) (h4 : Cond.code Lib.Math.max.name Lib.Math.max.code 2 (some .int) ∈ mmWall) (hdd : 1 ≤ d) (hst : st.length ≤ 8) (hv : (if x < y then y else x) = v) (kk : MW d M (pc + 3) ls (.inl v :: st) h Q) : MW d M pc ls (.inl y :: .inl x :: st) h Q := by
  subst hv
  intro p l e s m args below meth c D ρ ca A C H locs la hP hS hl
  exact va_mmax C.1 C.2.1 (C.2.2.1.trans hl.1.symm) C.2.2.2.1 (C.2.2.2.2.1 _ h1) (C.2.2.2.2.1 _ h2) (C.2.2.2.2.1 _ h3) (C.2.2.2.2.1 _ h4) (by show 1 ≤ d; omega) (by rw [mm_sum]; show st.length + 13 ≤ 32 * d; omega) (Nat.zero_le _) (Nat.zero_le _) hd (kk p l e s m args below meth c D ρ ca A C H locs la hP hS hl)
theorem MW.mmin {ix : Nat} {x y v : Int32} (hd : decode M.2.1 pc = .ok (.invokestatic ix, 3)) (h1 : Cond.methodLink M.1.cls ix Lib.Math.min.name ∈ mmWall) (h2 : Cond.static Lib.Math.min.name ∈ mmWall) (h3 : Cond.initialized "java/lang/Math" ∈ mmWall) (h4 : Cond.code Lib.Math.min.name Lib.Math.min.code 2 (some .int) ∈ mmWall) (hdd : 1 ≤ d) (hst : st.length ≤ 8) (hv : (if y < x then y else x) = v) (kk : MW d M (pc + 3) ls (.inl v :: st) h Q) : MW d M pc ls (.inl y :: .inl x :: st) h Q := by
  subst hv
  intro p l e s m args below meth c D ρ ca A C H locs la hP hS hl
  exact va_mmin C.1 C.2.1 (C.2.2.1.trans hl.1.symm) C.2.2.2.1 (C.2.2.2.2.1 _ h1) (C.2.2.2.2.1 _ h2) (C.2.2.2.2.1 _ h3) (C.2.2.2.2.1 _ h4) (by show 1 ≤ d; omega) (by rw [mm_sum]; show st.length + 13 ≤ 32 * d; omega) (Nat.zero_le _) (Nat.zero_le _) hd (kk p l e s m args below meth c D ρ ca A C H locs la hP hS hl)
theorem MW.mabs {ix : Nat} {x v : Int32} (hd : decode M.2.1 pc = .ok (.invokestatic ix, 3)) (h1 : Cond.methodLink M.1.cls ix Lib.Math.abs.name ∈ mmWall) (h2 : Cond.static Lib.Math.abs.name ∈ mmWall) (h3 : Cond.initialized "java/lang/Math" ∈ mmWall) (h4 : Cond.code Lib.Math.abs.name Lib.Math.abs.code 1 (some .int) ∈ mmWall) (hdd : 1 ≤ d) (hst : st.length ≤ 8) (hv : (if 0 ≤ x then x else 0 - x) = v) (kk : MW d M (pc + 3) ls (.inl v :: st) h Q) : MW d M pc ls (.inl x :: st) h Q := by
  subst hv
  intro p l e s m args below meth c D ρ ca A C H locs la hP hS hl
  exact va_mabs C.1 C.2.1 (C.2.2.1.trans hl.1.symm) C.2.2.2.1 (C.2.2.2.2.1 _ h1) (C.2.2.2.2.1 _ h2) (C.2.2.2.2.1 _ h3) (C.2.2.2.2.1 _ h4) (by show 1 ≤ d; omega) (by rw [mm_sum]; show st.length + 13 ≤ 32 * d; omega) (Nat.zero_le _) (Nat.zero_le _) hd (kk p l e s m args below meth c D ρ ca A C H locs la hP hS hl)
end MMC
