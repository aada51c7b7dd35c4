-- THE LAW: the skeleton's words
/-! THE CLAIM OUT OF ONE WALK OF THE LAW'S BODY. Your part is whole_start (and what it stands on); all else here is the same for every law, but numbers. -/
def R_law : String := "RiverCampaignLaw"
def lw_P (b : Addr) (xs : List Int32) (args : Array Value) (s : State) : Prop := args = #[.ref b] ∧ s.IntsAt b xs ∧ xs.length ≤ 2048 ∧ (Jvm.Cond.and given_1 narrow_1).before args s = true
def lw_Q (_ : Array Value) (s : State) (o : Outcome) (t : State) : Prop := o = .returned (some (.int 1)) ∧ Framed s o t [] 600000 7302250
def lw_Z (below : List Frame) (a : Array Value) (s : State) : State → Prop := fun t => ∃ o, t.status = .running ∧ Ended t below o ∧ lw_Q a s o t
/-- the law's own end, with 1 on the stack, nothing written that was there before, its room as the claim has it -/
theorem lw_ret {p : Program} {l : Launch} {e : Env} {s : State} {m : MethodId} {below : List Frame} {meth : Method} {c : Code} {b : Nat} (hx : p.tables.exec = Jvm.exec) (hb : c.code = code) (hr : meth.sig.returnType = ret) (hlocks : meth.locks = false) {pc : Nat} {H : Heap} {ls : Array Slot} (hdg : decode code pc = .ok (.ireturn, 1)) : W p l e room_1 s m #[Value.ref b] below meth c H [] 600000 7302250 (lw_Z below #[Value.ref b] s) (F0 m pc ls [.int 1]) := by
  intro T hT X
  obtain ⟨fs, hret, hrun, hended, hW, hframe⟩ := X.leave (v := some (.int 1)) (hlocks := hlocks) (fun h => by rw [hr] at h; cases h)
  have hmeth' : T.vm.method? m = some meth := X.method'
  refine ⟨T.setFrames fs, ?_, .returned (some (.int 1)), hrun, hended, rfl, ⟨_, rfl⟩, hW, hframe⟩
  jvm_step X.here [X.here.top, hx, hb, hdg, hmeth', hr, ret, narrow_b1]
  (try refine ⟨rfl, ?_⟩); (try refine ⟨rfl, ?_⟩)
  first | (intro acts; rw [hret _ acts rfl rfl rfl]) | rw [hret _ _ rfl rfl rfl]
  exact Steps.refl _
/-- what holds at the law's entry: the machine, the code, the tables' words (any of lw_tbl by 'hts w (by decide +kernel)'), the script of L ints xs at the cell b, what the Statement gives of the start (any of its parts by flat_of_before) -/
def lw_At (p : Program) (s : State) (m : MethodId) (meth : Method) (c : Code) (b L : Nat) (xs : Nat → Int32) : Prop :=
  p.tables.exec = Jvm.exec ∧ c.code = code ∧ meth.sig.returnType = ret ∧ c.maxLocals = 4 ∧ s.vm.findClass R_law = some m.cls ∧ (∀ w ∈ lw_tbl, w.before #[Value.ref b] s = true) ∧ va_X b L xs s s.heap ∧ b < s.heap.size ∧ meth.locks = false ∧ (Jvm.Cond.and given_1 narrow_1).before #[Value.ref b] s = true
-- the law walks over the cells: x is the cell 0, m the cell 100, i the third local
def lCtx (p : Program) (s : State) (m : MethodId) (meth : Method) (c : Code) (b L : Nat) (xs : Nat → Int32) (D : va_G) (ρ : Nat → Nat) (ca : Nat → ClassId) : Prop := lw_At p s m meth c b L xs ∧ va_K D vwCl (mmTys ca) s ∧ (∀ h : MH, va_D (fun q : Nat => s.heap.size ≤ q) (mmWorld ρ ca h)) ∧ L ≤ 2048
def LW (p : Program) (l : Launch) (e : Env) (s : State) (m : MethodId) (below : List Frame) (meth : Method) (c : Code) (b : Nat) (D : va_G) (ρ : Nat → Nat) (ca : Nat → ClassId) (pc : Nat) (i : Int) (st : List ZV) (g : ZH) : Prop :=
  ∀ (H : Heap) (locs : List Loc) (la : Array Slot), va_P D vwCl (mmWorld ρ ca (zH g)) H → va_S (fun q : Nat => s.heap.size ≤ q) s.heap H locs → lv_has la 4 [(3, .int (iI i)), (0, .ref b), (1, .ref (ρ 0)), (2, .ref (ρ 100))] →
    W p l e room_1 s m #[Value.ref b] below meth c H locs 112 5768 (lw_Z below #[Value.ref b] s) (F0 m pc la (st.map (fun v => mmV ρ (zV v))))
def scV (xs : Nat → Int32) (k : Int) : Int := (xs k.toNat).toInt
def chF (z : Int) : Int := ((iI z).toUInt32 % 65536).toInt32.toInt
theorem chF_R (z : Int) : 0 ≤ chF z ∧ chF z < 65536 := by
  unfold chF
  have h : ((iI z).toUInt32 % 65536).toNat < 65536 := by
    rw [UInt32.toNat_mod]
    exact Nat.mod_lt _ (by decide)
  have h2 : ((iI z).toUInt32 % 65536).toInt32.toInt = (((iI z).toUInt32 % 65536).toNat : Int) := by
    rw [← Int32.toInt_toBitVec, BitVec.toInt_eq_toNat_cond]
    have e : ((iI z).toUInt32 % 65536).toInt32.toBitVec.toNat = ((iI z).toUInt32 % 65536).toNat := rfl
    rw [e]
    split
    · rfl
    · next q => omega
  rw [h2]
  omega
theorem and31 (x : Int32) : ∃ w : Int, 0 ≤ w ∧ w < 32 ∧ x &&& 31 = iI w := by
  have h1 : (x &&& 31).toBitVec = x.toBitVec &&& (31 : Int32).toBitVec := rfl
  have h2 : (x &&& 31).toBitVec.toNat ≤ 31 := by
    rw [h1, BitVec.toNat_and]
    exact Nat.and_le_right
  refine ⟨(x &&& 31).toInt, ?_, ?_, (iI_self _).symm⟩
  · rw [← Int32.toInt_toBitVec, BitVec.toInt_eq_toNat_cond]
    split <;> omega
  · rw [← Int32.toInt_toBitVec, BitVec.toInt_eq_toNat_cond]
    split <;> omega
section LL
variable {p : Program} {l : Launch} {e : Env} {s : State} {m : MethodId} {below : List Frame} {meth : Method} {c : Code} {b L : Nat} {xs : Nat → Int32} {D : va_G} {ρ : Nat → Nat} {ca : Nat → ClassId} {pc : Nat} {i : Int} {st : List ZV} {g : ZH}
theorem LW.ax (C : lCtx p s m meth c b L xs D ρ ca) (hd : decode code pc = .ok (.aload_n 1, 1)) (k : LW p l e s m below meth c b D ρ ca (pc + 1) i (.inr 0 :: st) g) : LW p l e s m below meth c b D ρ ca pc i st g :=
  fun H locs la hP hS hl => lv_aload_n C.1.1 C.1.2.1 hd rfl (lv_at hl 2 rfl) (k H locs la hP hS hl)
theorem LW.am (C : lCtx p s m meth c b L xs D ρ ca) (hd : decode code pc = .ok (.aload_n 2, 1)) (k : LW p l e s m below meth c b D ρ ca (pc + 1) i (.inr 100 :: st) g) : LW p l e s m below meth c b D ρ ca pc i st g :=
  fun H locs la hP hS hl => lv_aload_n C.1.1 C.1.2.1 hd rfl (lv_at hl 3 rfl) (k H locs la hP hS hl)
theorem lw_bA {s : State} {b : Nat} (h : b < s.heap.size) : ¬ (fun q : Nat => s.heap.size ≤ q) b := Nat.not_le.mpr h
/-- script[i + j] -/
theorem LW.sc (C : lCtx p s m meth c b L xs D ρ ca) {j : Int} (d0 : decode code pc = .ok (.aload_n 0, 1)) (d1 : decode code (pc + 1) = .ok (.iload_n 3, 1)) (d2 : decode code (pc + 2) = .ok (.iconst j, 1)) (d3 : decode code (pc + 3) = .ok (.iadd, 1)) (d4 : decode code (pc + 4) = .ok (.iaload, 1)) (hi : 0 ≤ i ∧ 0 ≤ j) (hL : i + j < L) (k : LW p l e s m below meth c b D ρ ca (pc + 5) i (.inl (scV xs (i + j)) :: st) g) : LW p l e s m below meth c b D ρ ca pc i st g := by
  intro H locs la hP hS hl
  obtain ⟨C1, -, -, hLL⟩ := C
  obtain ⟨hx, hb, -, -, -, -, hX, hbl, -, -⟩ := C1
  refine lv_aload_n hx hb d0 rfl (lv_at hl 1 rfl) ?_
  refine lv_iload_n hx hb d1 rfl (lv_at hl 0 rfl) ?_
  refine lv_iconst (v := iI j) hx hb d2 rfl ?_
  refine lv_iadd hx hb d3 ?_
  rw [iI_add]
  refine va_sld hx hb hX hbl (lw_bA hbl) hS (iI_ix (by omega) hL (by omega)) d4 ?_
  rw [iI_cl (by omega) (by omega)]
  have h := k H locs la hP hS hl
  have e1 : iI (scV xs (i + j)) = xs (i + j).toNat := iI_self _
  rw [← e1]
  exact h
/-- script[i] & 31 -/
theorem LW.sw (C : lCtx p s m meth c b L xs D ρ ca) (d0 : decode code pc = .ok (.aload_n 0, 1)) (d1 : decode code (pc + 1) = .ok (.iload_n 3, 1)) (d2 : decode code (pc + 2) = .ok (.iaload, 1)) (d3 : decode code (pc + 3) = .ok (.bipush 31, 2)) (d4 : decode code (pc + 5) = .ok (.iand, 1)) (hi : 0 ≤ i) (hL : i < L) (k : ∀ w : Int, 0 ≤ w → w < 32 → LW p l e s m below meth c b D ρ ca (pc + 6) i (.inl w :: st) g) : LW p l e s m below meth c b D ρ ca pc i st g := by
  intro H locs la hP hS hl
  obtain ⟨C1, -, -, hLL⟩ := C
  obtain ⟨hx, hb, -, -, -, -, hX, hbl, -, -⟩ := C1
  refine lv_aload_n hx hb d0 rfl (lv_at hl 1 rfl) ?_
  refine lv_iload_n hx hb d1 rfl (lv_at hl 0 rfl) ?_
  refine va_sld hx hb hX hbl (lw_bA hbl) hS (iI_ix hi hL (by omega)) d2 ?_
  refine lv_bipush (v := 31) hx hb d3 rfl ?_
  refine lv_iand hx hb d4 ?_
  obtain ⟨w, w0, w1, ew⟩ := and31 (xs (iI i).toNatClampNeg)
  rw [ew]
  exact k w w0 w1 H locs la hP hS hl
theorem LW.tin (C : lCtx p s m meth c b L xs D ρ ca) {dflt lo hi off : Int} {offs : Array Int} {len tgt : Nat} {x : Int} (hd : decode code pc = .ok (.tableswitch dflt lo hi offs, len)) (hr : zR x) (hx : lo ≤ x ∧ x ≤ hi) (ho : offs[(x - lo).toNat]? = some off) (ht : (pc : Int) + off = (tgt : Int)) (k : LW p l e s m below meth c b D ρ ca tgt i st g) : LW p l e s m below meth c b D ρ ca pc i (.inl x :: st) g :=
  fun H locs la hP hS hl => lv_tableIn (x := iI x) C.1.1 C.1.2.1 hd (by rw [iI_toInt hr]; omega) (by rw [iI_toInt hr]; omega) (by rw [iI_toInt hr]; exact ho) ht (k H locs la hP hS hl)
theorem LW.tout (C : lCtx p s m meth c b L xs D ρ ca) {dflt lo hi : Int} {offs : Array Int} {len tgt : Nat} {x : Int} (hd : decode code pc = .ok (.tableswitch dflt lo hi offs, len)) (hr : zR x) (hx : x < lo ∨ hi < x) (ht : (pc : Int) + dflt = (tgt : Int)) (k : LW p l e s m below meth c b D ρ ca tgt i st g) : LW p l e s m below meth c b D ρ ca pc i (.inl x :: st) g :=
  fun H locs la hP hS hl => lv_tableOut (x := iI x) C.1.1 C.1.2.1 hd (by rw [iI_toInt hr]; exact hx) ht (k H locs la hP hS hl)
/-- z != 0 -/
theorem LW.nz (C : lCtx p s m meth c b L xs D ρ ca) {z : Int} (hz : zR z) (d0 : decode code pc = .ok (.ifCond .eq 7, 3)) (d1 : decode code (pc + 3) = .ok (.iconst 1, 1)) (d2 : decode code (pc + 4) = .ok (.goto 4, 3)) (d3 : decode code (pc + 7) = .ok (.iconst 0, 1)) (k : LW p l e s m below meth c b D ρ ca (pc + 8) i (.inl (if z = 0 then 0 else 1) :: st) g) : LW p l e s m below meth c b D ρ ca pc i (.inl z :: st) g := by
  intro H locs la hP hS hl
  refine lv_if_eq (x := iI z) (tgt := pc + 7) C.1.1 C.1.2.1 d0 (by omega) (fun q => ?_) (fun q => ?_)
  · have hz0 : z = 0 := (iI_inj hz zR_0).mp q
    rw [if_pos hz0] at k
    refine lv_iconst (v := 0) C.1.1 C.1.2.1 d3 rfl ?_
    exact k H locs la hP hS hl
  · have hz0 : ¬ z = 0 := fun y => q ((iI_inj hz zR_0).mpr y)
    rw [if_neg hz0] at k
    refine lv_iconst (v := 1) C.1.1 C.1.2.1 d1 rfl ?_
    refine lv_goto (tgt := pc + 8) C.1.1 C.1.2.1 d2 (by omega) ?_
    exact k H locs la hP hS hl
theorem LW.i2c (C : lCtx p s m meth c b L xs D ρ ca) {z : Int} (hd : decode code pc = .ok (.i2c, 1)) (k : LW p l e s m below meth c b D ρ ca (pc + 1) i (.inl (chF z) :: st) g) : LW p l e s m below meth c b D ρ ca pc i (.inl z :: st) g :=
  fun H locs la hP hS hl => lv_i2c (x := iI z) C.1.1 C.1.2.1 hd (show ((iI z).toUInt32 % 65536).toInt32 = iI (chF z) from (iI_self _).symm) (k H locs la hP hS hl)
theorem LW.eq (C : lCtx p s m meth c b L xs D ρ ca) {V : Int} {off : Int} {tgt : Nat} (hd : decode code pc = .ok (.if_icmp .eq off, 3)) (ht : (pc : Int) + off = (tgt : Int)) (k : LW p l e s m below meth c b D ρ ca tgt i st g) : LW p l e s m below meth c b D ρ ca pc i (.inl V :: .inl V :: st) g :=
  fun H locs la hP hS hl => lv_icmp_eq (x := iI V) (y := iI V) C.1.1 C.1.2.1 hd ht (fun _ => k H locs la hP hS hl) (fun q => absurd rfl q)
theorem LW.callV {d2 ix k ci : Nat} {M2 : MMeth} {as : List ZV} {st0 : List ZV} {Q2 : Int → ZH → Prop} {ty : FieldType} (C : lCtx p s m meth c b L xs D ρ ca) (hd : decode code pc = .ok (.invokevirtual ix, 3)) (hl2 : mmCV RL ix M2 as.length ci) (hk : mmIsObj k ci) (hr2 : M2.2.2.2 = some ty) (hdd : d2 ≤ 12) (hst : st.length ≤ 8) (hs : st0 = as.reverse ++ .inr k :: st) (hc : ZC d2 M2 (.inr k :: as) g Q2) (kk : ∀ r g', Q2 r g' → LW p l e s m below meth c b D ρ ca (pc + 3) i (.inl r :: st) g') : LW p l e s m below meth c b D ρ ca pc i st0 g := by
  subst hs
  intro H locs la hP hS hl
  obtain ⟨C1, hK, hDD, hLL⟩ := C
  obtain ⟨hx, hb, hr, hml, hown, hts, hX, hbl, hlocks, hgv⟩ := C1
  obtain ⟨c1, c2, c3, c4, c5, c6, c7, c8, T, N, c9⟩ := hl2
  obtain ⟨fk, hk⟩ := hk
  have hw : ∀ w ∈ mmWall, w.before #[Value.ref b] s = true := fun w h => hts w (mmW_tbl h)
  have hM := hc l D ρ ca H.size ((hDD (zH g)).weaken (fun _ _ _ _ => trivial))
  have hF := mm_free (hDD (zH g)) hS (fun q h => h)
  have hpre := mm_pre (vs := zV (.inr k) :: as.map zV) hP hK
  have hB : CallB room_1 s #[Value.ref b] RL ix M2.1 M2.2.1 M2.2.2.1 M2.2.2.2 (mmWs M2) (mmRoom d2) 0 0 as.length := by
    refine ⟨rfl, rfl, by show d2 + 1 ≤ 13; omega, ?_, ?_, List.mem_cons_self, hw _ c3, hw _ c2, c4, fun sig h => ?_, hw _ c1⟩
    · show 8 + (M2.2.2.1 + 11) + 32 * d2 ≤ 512
      omega
    · intro w hww a' U hW
      have hwm : w ∈ mmWall := by
        rcases List.mem_cons.mp hww with rfl | hww
        · exact c3
        · exact hww
      exact word_at hW (mmW_good hwm) (hw w hwm)
    · rw [h] at c5
      exact (Option.some.inj c5).symm
  have hrun := va_runV (H := H) (locs := locs) (cells := 112) (slots := 5768) (e := e) (below := below) (meth := meth) (As := (as.map zV).map (mmV ρ)) (b := ρ k) (C := M2.1.cls) (rest := st.map (fun v => mmV ρ (zV v))) (g := F0 m pc la ((as.reverse ++ .inr k :: st).map (fun v => mmV ρ (zV v)))) ⟨hx, hb, hml, hown, hw⟩ hM ⟨hB, hw _ c7, hw _ c8⟩ ⟨hpre.1, va_recv hK hP c9 (mmWorld_get hk), hpre.2⟩ rfl (by simp) hl.1 (by simp [mmV, zV]) (by
    have h9 := mm_room (m := m) (pc := pc) (la := la) (stk := (as.reverse ++ .inr k :: st).map (fun v => mmV ρ (zV v))) ρ (st.map zV) (by rw [List.length_map]; exact hst)
    have e9 : (st.map zV).map (mmV ρ) = st.map (fun v => mmV ρ (zV v)) := List.map_map
    rw [e9] at h9
    exact h9) hd ⟨Nat.le_of_ble_eq_true rfl, Nat.le_of_ble_eq_true rfl⟩
  unfold mmQc at hrun
  rw [hr2] at hrun
  refine va_calli hrun hS (fun q _ hq => hF q hq) hF (fun r u t H1 locs1 ht hvm hw hB hz1 hk1 hS1 => ?_)
  obtain ⟨r', g', e1, e2, e3⟩ := hw
  subst e1
  subst e2
  exact kk r' g' e3 H1 locs1 la (ht ▸ hB.1) hS1 hl
/-- i <= script.length - 4 -/
theorem lw_test (C : lCtx p s m meth c b L xs D ρ ca) (hi : 0 ≤ i ∧ i ≤ L + 4) (kt : L - 4 < i → LW p l e s m below meth c b D ρ ca 766 i [] g) (kf : ¬ (L : Int) - 4 < i → LW p l e s m below meth c b D ρ ca 26 i [] g) : LW p l e s m below meth c b D ρ ca 18 i [] g := by
  intro H locs la hP hS hl
  obtain ⟨C1, -, -, hLL⟩ := C
  obtain ⟨hx, hb, -, -, -, -, hX, hbl, -, -⟩ := C1
  refine lv_iload_n hx hb dL_law_18 rfl (lv_at hl 0 rfl) ?_
  refine lv_aload_n hx hb dL_law_19 rfl (lv_at hl 1 rfl) ?_
  refine va_slen hx hb hX hbl (lw_bA hbl) hS dL_law_20 ?_
  refine lv_iconst (v := iI 4) hx hb dL_law_21 rfl ?_
  refine lv_isub hx hb dL_law_22 ?_
  rw [show Int32.ofNat L - iI 4 = iI ((L : Int) - 4) from iI_sub L 4]
  refine lv_icmp_gt (x := iI i) (y := iI ((L : Int) - 4)) (tgt := 766) hx hb dL_law_23 (by decide) (fun q => ?_) (fun q => ?_)
  · exact kt ((iI_lt ⟨by omega, by omega⟩ ⟨by omega, by omega⟩).mp q) H locs la hP hS hl
  · exact kf (fun y => q ((iI_lt ⟨by omega, by omega⟩ ⟨by omega, by omega⟩).mpr y)) H locs la hP hS hl
theorem lw_end (C : lCtx p s m meth c b L xs D ρ ca) (hi : 0 ≤ i) (hq : (L : Int) - 4 < i) (hi2 : i ≤ L + 4) : LW p l e s m below meth c b D ρ ca 18 i [] g := by
  refine lw_test C ⟨hi, hi2⟩ (fun _ => ?_) (fun q => absurd hq q)
  intro H locs la hP hS hl
  obtain ⟨C1, -, -, hLL⟩ := C
  obtain ⟨hx, hb, hr, -, -, -, hX, hbl, hlocks, -⟩ := C1
  refine lv_iconst (v := 1) hx hb dL_law_766 rfl ?_
  refine va_forget hS.2.2 ?_
  refine W.widen (k := 600000) (n := 7302250) (Nat.le_of_ble_eq_true rfl) (Nat.le_of_ble_eq_true rfl) ?_
  exact lw_ret hx hb hr hlocks dL_law_767
theorem lw_head (C : lCtx p s m meth c b L xs D ρ ca) (hi : 0 ≤ i) (hq : i ≤ (L : Int) - 4) (k : LW p l e s m below meth c b D ρ ca 26 i [] g) : LW p l e s m below meth c b D ρ ca 18 i [] g :=
  lw_test C ⟨hi, by omega⟩ (fun q => absurd q (by omega)) (fun _ => k)
theorem lw_next (C : lCtx p s m meth c b L xs D ρ ca) (hi : 0 ≤ i) (hq : i ≤ (L : Int)) (k : LW p l e s m below meth c b D ρ ca 18 (i + 4) [] g) : LW p l e s m below meth c b D ρ ca 760 i [] g := by
  intro H locs la hP hS hl
  obtain ⟨C1, -, -, hLL⟩ := C
  obtain ⟨hx, hb, -⟩ := C1
  refine lv_iinc (v := iI (i + 4)) (lv' := [(3, .int (iI (i + 4))), (0, .ref b), (1, .ref (ρ 0)), (2, .ref (ρ 100))]) hx hb dL_law_760 hl (k := 0) rfl (iI_add i 4) (by decide) rfl (fun la' hl' => ?_)
  refine lv_goto (tgt := 18) hx hb dL_law_763 (by decide) ?_
  exact k H locs la' hP hS hl'
end LL
