-- Arrays.fill over a row anywhere; the Board's table
theorem k_fill {D : va_G} {ca : Nat → ClassId} {tb : Nat → Nat} (q n : Nat) (v : Int32) (f : Nat → Int32) (hn : n < 1000) : KC D ca tb 0 0 0 mJ7_fill_53178 [.inr q, .inl v] [(q, .inl (ca 0, n, .inl f))] (kQv D ca (fun u => ∃ f' : Nat → Int32, u = [(q, .inl (ca 0, n, .inl f'))] ∧ ∀ i, i < n → f' i = v)) := by
  refine KC.of (by decide +kernel) (Nat.le_of_ble_eq_true rfl) ?_
  have loop : ∀ (k i : Nat) (f : Nat → Int32), i + k = n → (∀ j, j < i → f j = v) → KW D ca tb 0 0 0 mJ7_fill_53178 5 [some (.inr q), some (.inl v), some (.inl (iI i)), some (.inl (iI n))] [] [(q, .inl (ca 0, n, .inl f))] 0 0 (kQv D ca (fun u => ∃ f' : Nat → Int32, u = [(q, .inl (ca 0, n, .inl f'))] ∧ ∀ i, i < n → f' i = v)) := by
    intro k
    induction k with
    | zero =>
      intro i f hi hf
      refine KW.iload_n dJ7_fill_53178_5 rfl ?_
      refine KW.iload_n dJ7_fill_53178_6 rfl ?_
      refine KW.icmp_ge (tgt := 20) dJ7_fill_53178_7 (by decide) (fun _ => ?_) (fun c => absurd ((iI_le ⟨by omega, by omega⟩ ⟨by omega, by omega⟩).mpr (by omega)) c)
      exact KW.vret dJ7_fill_53178_20 rfl ⟨rfl, rfl⟩ ⟨f, rfl, fun j hj => hf j (by omega)⟩
    | succ k ih =>
      intro i f hi hf
      have hcl : (iI (i : Int)).toNatClampNeg = i := by rw [iI_cl (by omega) (by omega)]; omega
      refine KW.iload_n dJ7_fill_53178_5 rfl ?_
      refine KW.iload_n dJ7_fill_53178_6 rfl ?_
      refine KW.icmp_ge (tgt := 20) dJ7_fill_53178_7 (by decide) (fun c => absurd ((iI_le ⟨by omega, by omega⟩ ⟨by omega, by omega⟩).mp c) (by omega)) (fun _ => ?_)
      refine KW.aload_n dJ7_fill_53178_10 rfl ?_
      refine KW.iload_n dJ7_fill_53178_11 rfl ?_
      refine KW.iload_n dJ7_fill_53178_12 rfl ?_
      refine KW.iast (q0 := 0) (ws' := [(q, .inl (ca 0, n, .inl (upd f i v)))]) dJ7_fill_53178_13 rfl (iI_ix (by omega) (by omega) (by omega)) (by rw [hcl]; rfl) ?_
      refine KW.iinc (v := iI ((i + 1 : Nat) : Int)) dJ7_fill_53178_14 rfl (by rw [show ((i + 1 : Nat) : Int) = (i : Int) + 1 by omega]; exact iI_add i 1) (by decide) rfl ?_
      refine KW.goto (tgt := 5) dJ7_fill_53178_17 (by decide) ?_
      refine ih (i + 1) (upd f i v) (by omega) (fun j hj => ?_)
      unfold upd
      by_cases q : j = i
      · rw [if_pos q]
      · rw [if_neg q]; exact hf j (by omega)
  refine KW.iconst (v := iI ((0 : Nat) : Int)) dJ7_fill_53178_0 rfl ?_
  refine KW.istore_n dJ7_fill_53178_1 (by decide) rfl ?_
  refine KW.aload_n dJ7_fill_53178_2 rfl ?_
  refine KW.alen (q0 := 0) (v := iI n) dJ7_fill_53178_3 rfl rfl ?_
  refine KW.istore_n dJ7_fill_53178_4 (by decide) rfl ?_
  exact loop n 0 f (by omega) (fun j hj => absurd hj (by omega))
def sfT (e : Nat) (d : Int) : Int32 := (kTv e).getD d.toNat 0
def sfN (x d : Int) : Int32 := iI (x / 9) + sfT 2 d
def sfC (e : Nat) (x d : Int) : Int32 := iI (x % 9) + sfT e d
def sfV (e : Nat) (x d : Int) : Int32 := if sfN x d < 0 then -1 else if 7 ≤ sfN x d then -1 else if sfC e x d < 0 then -1 else if 9 ≤ sfC e x d then -1 else sfN x d * 9 + sfC e x d
theorem sf_all : nAll 63 (fun x => nAll 6 (fun d => decide ((iI (x / 9 % 2) = 0 → sfV 0 x d = iI (nbF x d)) ∧ (¬ iI (x / 9 % 2) = 0 → sfV 1 x d = iI (nbF x d))))) = true := by decide +kernel
theorem k_stepFrom {D : va_G} {ca : Nat → ClassId} {tb : Nat → Nat} {x d : Int} (hx : 0 ≤ x ∧ x < 63) (hd : 0 ≤ d ∧ d < 6) : KC D ca tb 0 0 0 mX0_stepFrom [.inl (iI x), .inl (iI d)] [] (kQi D ca (fun r u => r = iI (nbF x d) ∧ u = [])) := by
  have hall := of_decide_eq_true (nAll_at (nAll_at sf_all hx.1 hx.2) hd.1 hd.2)
  have hcl : (iI d).toNatClampNeg = d.toNat := iI_cl hd.1 (by omega)
  have hin : vp_in (iI d) 6 := iI_ix hd.1 (by omega) (by decide)
  refine KC.of (by decide +kernel) (Nat.le_of_ble_eq_true rfl) ?_
  have tail : ∀ e, e < 2 → sfV e x d = iI (nbF x d) → KW D ca tb 0 0 0 mX0_stepFrom 20 [some (.inl (iI x)), some (.inl (iI d)), some (.inl (iI (x / 9))), none, none, none, none] [.inr (tb e)] [] 0 0 (kQi D ca (fun r u => r = iI (nbF x d) ∧ u = [])) := by
    intro e he hv
    have no : sfV e x d = -1 → KW D ca tb 0 0 0 mX0_stepFrom 68 [some (.inl (iI x)), some (.inl (iI d)), some (.inl (iI (x / 9))), some (.inr (tb e)), some (.inl (sfN x d)), some (.inl (sfC e x d)), none] [] [] 0 0 (kQi D ca (fun r u => r = iI (nbF x d) ∧ u = [])) := by
      intro h1
      refine KW.iconst (v := 0) dX0_stepFrom_68 rfl ?_
      refine KW.istore dX0_stepFrom_69 (by decide) rfl ?_
      refine KW.iload dX0_stepFrom_71 rfl ?_
      refine KW.if_eq (tgt := 87) dX0_stepFrom_73 (by decide) (fun _ => ?_) (fun c => absurd rfl c)
      refine KW.iconst (v := -1) dX0_stepFrom_87 rfl ?_
      exact KW.iret dX0_stepFrom_88 rfl ⟨rfl, rfl⟩ ⟨h1.symm.trans hv, rfl⟩
    refine KW.astore_n dX0_stepFrom_20 (by decide) rfl ?_
    refine KW.iload_n dX0_stepFrom_21 rfl ?_
    refine KW.gets 2 dX0_stepFrom_22 (by decide) (mmW_1 35 rfl rfl) ?_
    refine KW.iload_n dX0_stepFrom_25 rfl ?_
    refine KW.tald (v := sfT 2 d) 2 dX0_stepFrom_26 (by decide) hin (by rw [hcl]; rfl) ?_
    refine KW.iadd (v := sfN x d) dX0_stepFrom_27 rfl ?_
    refine KW.istore dX0_stepFrom_28 (by decide) rfl ?_
    refine KW.iload_n dX0_stepFrom_30 rfl ?_
    refine KW.bipush (v := iI 9) dX0_stepFrom_31 rfl ?_
    refine KW.irem (v := iI (x % 9)) dX0_stepFrom_33 (by decide) (iI_rem hx.1 (by omega) (by decide) (by decide)) ?_
    refine KW.aload_n dX0_stepFrom_34 rfl ?_
    refine KW.iload_n dX0_stepFrom_35 rfl ?_
    refine KW.tald (v := sfT e d) e dX0_stepFrom_36 (by omega) hin (by rw [hcl]; rfl) ?_
    refine KW.iadd (v := sfC e x d) dX0_stepFrom_37 rfl ?_
    refine KW.istore dX0_stepFrom_38 (by decide) rfl ?_
    refine KW.iload dX0_stepFrom_40 rfl ?_
    refine KW.if_lt (tgt := 68) dX0_stepFrom_42 (by decide) (fun c1 => no (by unfold sfV; rw [if_pos c1])) (fun c1 => ?_)
    refine KW.iload dX0_stepFrom_45 rfl ?_
    refine KW.bipush (v := 7) dX0_stepFrom_47 rfl ?_
    refine KW.icmp_ge (tgt := 68) dX0_stepFrom_49 (by decide) (fun c2 => no (by unfold sfV; rw [if_neg c1, if_pos c2])) (fun c2 => ?_)
    refine KW.iload dX0_stepFrom_52 rfl ?_
    refine KW.if_lt (tgt := 68) dX0_stepFrom_54 (by decide) (fun c3 => no (by unfold sfV; rw [if_neg c1, if_neg c2, if_pos c3])) (fun c3 => ?_)
    refine KW.iload dX0_stepFrom_57 rfl ?_
    refine KW.bipush (v := 9) dX0_stepFrom_59 rfl ?_
    refine KW.icmp_ge (tgt := 68) dX0_stepFrom_61 (by decide) (fun c4 => no (by unfold sfV; rw [if_neg c1, if_neg c2, if_neg c3, if_pos c4])) (fun c4 => ?_)
    refine KW.iconst (v := 1) dX0_stepFrom_64 rfl ?_
    refine KW.goto (tgt := 69) dX0_stepFrom_65 (by decide) ?_
    refine KW.istore dX0_stepFrom_69 (by decide) rfl ?_
    refine KW.iload dX0_stepFrom_71 rfl ?_
    refine KW.if_eq (tgt := 87) dX0_stepFrom_73 (by decide) (fun c5 => absurd c5 (by decide)) (fun _ => ?_)
    refine KW.iload dX0_stepFrom_76 rfl ?_
    refine KW.bipush (v := 9) dX0_stepFrom_78 rfl ?_
    refine KW.imul dX0_stepFrom_80 rfl ?_
    refine KW.iload dX0_stepFrom_81 rfl ?_
    refine KW.iadd dX0_stepFrom_83 rfl ?_
    refine KW.goto (tgt := 88) dX0_stepFrom_84 (by decide) ?_
    refine KW.iret dX0_stepFrom_88 rfl ⟨rfl, rfl⟩ ⟨?_, rfl⟩
    rw [← hv]
    unfold sfV
    rw [if_neg c1, if_neg c2, if_neg c3, if_neg c4]
  refine KW.iload_n dX0_stepFrom_0 rfl ?_
  refine KW.bipush (v := iI 9) dX0_stepFrom_1 rfl ?_
  refine KW.idiv (v := iI (x / 9)) dX0_stepFrom_3 (by decide) (iI_div hx.1 (by omega) (by decide) (by decide)) ?_
  refine KW.istore_n dX0_stepFrom_4 (by decide) rfl ?_
  refine KW.iload_n dX0_stepFrom_5 rfl ?_
  refine KW.iconst (v := iI 2) dX0_stepFrom_6 rfl ?_
  refine KW.irem (v := iI (x / 9 % 2)) dX0_stepFrom_7 (by decide) (iI_rem (by omega) (by omega) (by decide) (by decide)) ?_
  refine KW.if_ne (tgt := 17) dX0_stepFrom_8 (by decide) (fun c => ?_) (fun c => ?_)
  · refine KW.gets 1 dX0_stepFrom_17 (by decide) (mmW_1 33 rfl rfl) ?_
    exact tail 1 (by decide) (hall.2 c)
  · refine KW.gets 0 dX0_stepFrom_11 (by decide) (mmW_1 31 rfl rfl) ?_
    refine KW.goto (tgt := 20) dX0_stepFrom_14 (by decide) ?_
    exact tail 0 (by decide) (hall.1 c)
def bdI (f : Nat → Int32) (x d : Int) : Prop := ∀ y e : Int, 0 ≤ y → 0 ≤ e → e < 6 → (y < x ∨ (y = x ∧ e < d)) → f (y * 6 + e).toNat = iI (nbF y e)
theorem bdI_up {f : Nat → Int32} {x d : Int} (hx : 0 ≤ x) (hd : 0 ≤ d ∧ d < 6) (h : bdI f x d) : bdI (upd f (x * 6 + d).toNat (iI (nbF x d))) x (d + 1) := by
  intro y e y0 e0 e1 hh
  unfold upd
  by_cases q : (y * 6 + e).toNat = (x * 6 + d).toNat
  · rw [if_pos q]
    have hy : y = x := by omega
    have he : e = d := by omega
    rw [hy, he]
  · rw [if_neg q]
    refine h y e y0 e0 e1 ?_
    rcases hh with hh | ⟨h1, h2⟩
    · exact Or.inl hh
    · refine Or.inr ⟨h1, ?_⟩
      by_cases he : e = d
      · exact absurd (by rw [h1, he]) q
      · omega
def kBd (ca : Nat → ClassId) (h0 : Nat) (u : va_W) : Prop := ∃ (q : Nat) (f : Nat → Int32), u = [(h0, .inr (0, [.ref q])), (q, .inl (ca 0, 378, .inl f))] ∧ bdI f 63 0
theorem k_X0_init {D : va_G} {ca : Nat → ClassId} {tb : Nat → Nat} (h0 : Nat) : KC D ca tb 1 1 378 mX0_init [.inr h0] [(h0, .inr (0, [.null]))] (kQv D ca (kBd ca h0)) := by
  refine KC.of (by decide +kernel) (Nat.le_of_ble_eq_true rfl) ?_
  refine KW.aload_n dX0_init_0 rfl ?_
  refine KW.objInit dX0_init_1 (mmW_1 27 rfl rfl) (mmW_1 20 rfl rfl) (mmW_1 21 rfl rfl) (by decide) (Nat.le_of_ble_eq_true rfl) ?_
  refine KW.aload_n dX0_init_4 rfl ?_
  refine KW.sipush (v := 378) dX0_init_5 rfl ?_
  refine KW.newarray (ti := 0) (N := 378) dX0_init_8 rfl (mmW_1 45 rfl rfl) rfl (fun _ _ h => h) rfl (by decide) (by decide) (Nat.le_of_ble_eq_true rfl) (Nat.le_of_ble_eq_true rfl) (Nat.le_of_ble_eq_true rfl) (fun q => ?_)
  refine KW.putF (q0 := 0) (ws' := [(h0, .inr (0, [.ref q])), (q, .inl (ca 0, 378, .inl (fun _ => 0)))]) dX0_init_10 ff_X0_9 rfl rfl (by decide) rfl ?_
  have outer : ∀ (n : Nat) (x : Int) (f : Nat → Int32) (o2 : Option MV), 0 ≤ x → x + n = 63 → bdI f x 0 → KW D ca tb 1 1 378 mX0_init 15 [some (.inr h0), some (.inl (iI x)), o2] [] [(h0, .inr (0, [.ref q])), (q, .inl (ca 0, 378, .inl f))] 1 378 (kQv D ca (kBd ca h0)) := by
    intro n
    induction n with
    | zero =>
      intro x f o2 x0 hn hI
      refine KW.iload_n dX0_init_15 rfl ?_
      refine KW.bipush (v := iI 63) dX0_init_16 rfl ?_
      refine KW.icmp_ge (tgt := 57) dX0_init_18 (by decide) (fun _ => ?_) (fun c => absurd ((iI_le ⟨by omega, by omega⟩ ⟨by omega, by omega⟩).mpr (by omega)) c)
      have hx : x = 63 := by omega
      exact KW.vret dX0_init_57 rfl ⟨rfl, rfl⟩ ⟨q, f, rfl, hx ▸ hI⟩
    | succ n ih =>
      intro x f o2 x0 hn hI
      refine KW.iload_n dX0_init_15 rfl ?_
      refine KW.bipush (v := iI 63) dX0_init_16 rfl ?_
      refine KW.icmp_ge (tgt := 57) dX0_init_18 (by decide) (fun c => absurd ((iI_le ⟨by omega, by omega⟩ ⟨by omega, by omega⟩).mp c) (by omega)) (fun _ => ?_)
      refine KW.iconst (v := iI 0) dX0_init_21 rfl ?_
      refine KW.istore_n dX0_init_22 (by decide) rfl ?_
      have inner : ∀ (k : Nat) (d : Int) (f : Nat → Int32), 0 ≤ d → d + k = 6 → bdI f x d → KW D ca tb 1 1 378 mX0_init 23 [some (.inr h0), some (.inl (iI x)), some (.inl (iI d))] [] [(h0, .inr (0, [.ref q])), (q, .inl (ca 0, 378, .inl f))] 1 378 (kQv D ca (kBd ca h0)) := by
        intro k
        induction k with
        | zero =>
          intro d f d0 hk hI
          refine KW.iload_n dX0_init_23 rfl ?_
          refine KW.bipush (v := iI 6) dX0_init_24 rfl ?_
          refine KW.icmp_ge (tgt := 51) dX0_init_26 (by decide) (fun _ => ?_) (fun c => absurd ((iI_le ⟨by omega, by omega⟩ ⟨by omega, by omega⟩).mpr (by omega)) c)
          refine KW.iinc (v := iI (x + 1)) dX0_init_51 rfl (iI_add x 1) (by decide) rfl ?_
          refine KW.goto (tgt := 15) dX0_init_54 (by decide) ?_
          refine ih (x + 1) f _ (by omega) (by omega) (fun y e y0 e0 e1 hh => hI y e y0 e0 e1 ?_)
          omega
        | succ k ihk =>
          intro d f d0 hk hI
          have hcl : (iI (x * 6 + d)).toNatClampNeg = (x * 6 + d).toNat := iI_cl (by omega) (by omega)
          refine KW.iload_n dX0_init_23 rfl ?_
          refine KW.bipush (v := iI 6) dX0_init_24 rfl ?_
          refine KW.icmp_ge (tgt := 51) dX0_init_26 (by decide) (fun c => absurd ((iI_le ⟨by omega, by omega⟩ ⟨by omega, by omega⟩).mp c) (by omega)) (fun _ => ?_)
          refine KW.aload_n dX0_init_29 rfl ?_
          refine KW.getR (q0 := 0) (v := q) dX0_init_30 fl_X0_9 rfl rfl ?_
          refine KW.iload_n dX0_init_33 rfl ?_
          refine KW.bipush (v := iI 6) dX0_init_34 rfl ?_
          refine KW.imul (v := iI (x * 6)) dX0_init_36 (iI_mul x 6) ?_
          refine KW.iload_n dX0_init_37 rfl ?_
          refine KW.iadd (v := iI (x * 6 + d)) dX0_init_38 (iI_add (x * 6) d) ?_
          refine KW.iload_n dX0_init_39 rfl ?_
          refine KW.iload_n dX0_init_40 rfl ?_
          refine KW.callSi (as := [_, _]) (P := fun r => r = iI (nbF x d)) dX0_init_41 cs_X0_13 rfl (by decide) (Nat.le_of_ble_eq_true rfl) rfl (k_stepFrom ⟨x0, by omega⟩ ⟨d0, by omega⟩) ⟨Nat.le_of_ble_eq_true rfl, Nat.le_of_ble_eq_true rfl⟩ (fun r hr => ?_)
          subst hr
          refine KW.iast (q0 := 1) (ws' := [(h0, .inr (0, [.ref q])), (q, .inl (ca 0, 378, .inl (upd f (x * 6 + d).toNat (iI (nbF x d)))))]) dX0_init_44 rfl (iI_ix (by omega) (by omega) (by omega)) (by rw [hcl]; rfl) ?_
          refine KW.iinc (v := iI (d + 1)) dX0_init_45 rfl (iI_add d 1) (by decide) rfl ?_
          refine KW.goto (tgt := 23) dX0_init_48 (by decide) ?_
          exact ihk (d + 1) _ (by omega) (by omega) (bdI_up x0 ⟨d0, by omega⟩ hI)
      exact inner 6 0 f (by omega) (by omega) hI
  refine KW.iconst (v := iI 0) dX0_init_13 rfl ?_
  refine KW.istore_n dX0_init_14 (by decide) rfl ?_
  exact outer 63 0 _ _ (by omega) (by omega) (fun y e y0 e0 e1 hh => by omega)
