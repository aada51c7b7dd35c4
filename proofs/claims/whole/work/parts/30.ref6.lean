-- the reference: the end of a turn, the history
theorem zCpy_0 (f f2 : Int → Int) (dp : Int) : zCpy f f2 0 dp 0 = f2 := by
  funext i
  unfold zCpy
  rw [if_neg (by omega)]
theorem zCpy_up (f f2 : Int → Int) (dp : Int) {n : Int} (hn : 0 ≤ n) : zUp (zCpy f f2 0 dp n) (dp + n) (f n) = zCpy f f2 0 dp (n + 1) := by
  funext i
  by_cases q : i = dp + n
  · rw [q, zUp_same]
    unfold zCpy
    rw [if_pos (by omega)]
    congr 1
    omega
  · rw [zUp_ne _ _ q]
    unfold zCpy
    by_cases q2 : dp ≤ i ∧ i < dp + n
    · rw [if_pos q2, if_pos (by omega)]
    · rw [if_neg q2, if_neg (by omega)]
/-- the number i of the state that was recorded k states ago -/
def hN (g : ZH) (k i : Int) : Int := g 103 (289 * (g 100 4 - 1 - k) + i)
def recP (g g' : ZH) : Prop := zFr [100, 103] g g' ∧ (∀ i, i ≠ 4 → g' 100 i = g 100 i) ∧ g' 100 4 = (if g 100 4 = 4 then 4 else g 100 4 + 1) ∧ (∀ i, 0 ≤ i → i < 289 → hN g' 0 i = g 101 i) ∧ ∀ k, 0 ≤ k → k + 1 < g' 100 4 → ∀ i, 0 ≤ i → i < 289 → hN g' (k + 1) i = hN g k i
theorem c_X8_records (g : ZH) (hn : 0 ≤ g 100 4 ∧ g 100 4 ≤ 4) : ZC 0 mX8_records [.inr 100] g (fun _ g' => recP g g') := by
  refine ZC.of (by decide +kernel) (Nat.le_of_ble_eq_true rfl) ?_
  have loop2 : ∀ (n : Nat) (x m : Int) (g1 : ZH), 0 ≤ x → x + n = 289 → g1 100 4 = m → 0 ≤ m → m < 4 → recP g (zSet (zRow g1 103 (zCpy (g1 101) (g1 103) 0 (289 * m) 289)) 100 4 (m + 1)) → ZW 0 mX8_records 51 [some (.inr 100), some (.inl x)] [] (zRow g1 103 (zCpy (g1 101) (g1 103) 0 (289 * m) x)) (fun _ g' => recP g g') := by
    intro n
    induction n with
    | zero =>
      intro x m g1 h0 hn hm m0 m1 hq
      have hx : x = 289 := by omega
      subst hx
      have e4 : (zRow g1 103 (zCpy (g1 101) (g1 103) 0 (289 * m) 289)) 100 4 = m := by rw [zRow_ne _ _ (by decide)]; exact hm
      refine ZW.iload_n dX8_records_51 rfl ?_
      refine ZW.sipush dX8_records_52 rfl ?_
      refine ZW.icmp_ge (tgt := 85) dX8_records_55 (by decide) (by omega) (by omega) (fun c55 => ?_) (fun c55 => ?_)
      · refine ZW.aload_n dX8_records_85 rfl ?_
        refine ZW.dup dX8_records_86 ?_
        refine ZW.getI (fz := 4) dX8_records_87 fl_X8_56 ⟨_, rfl, rfl⟩ rfl rfl ?_
        refine ZW.iconst dX8_records_90 ?_
        rw [e4]
        refine ZW.iadd dX8_records_91 ?_
        refine ZW.puti (fz := 4) dX8_records_92 fp_X8_56 ⟨_, rfl, rfl⟩ rfl ?_
        refine ZW.vret dX8_records_95 rfl ?_
        exact hq
      · exact absurd c55 (by omega)
    | succ n ih =>
      intro x m g1 h0 hn hm m0 m1 hq
      have e4 : (zRow g1 103 (zCpy (g1 101) (g1 103) 0 (289 * m) x)) 100 4 = m := by rw [zRow_ne _ _ (by decide)]; exact hm
      refine ZW.iload_n dX8_records_51 rfl ?_
      refine ZW.sipush dX8_records_52 rfl ?_
      refine ZW.icmp_ge (tgt := 85) dX8_records_55 (by decide) (by omega) (by omega) (fun c55 => ?_) (fun c55 => ?_)
      · exact absurd c55 (by omega)
      · refine ZW.aload_n dX8_records_58 rfl ?_
        refine ZW.getR dX8_records_59 fl_X8_16 ⟨_, rfl, rfl⟩ ?_
        refine ZW.sipush dX8_records_62 rfl ?_
        refine ZW.aload_n dX8_records_65 rfl ?_
        refine ZW.getI (fz := 4) dX8_records_66 fl_X8_56 ⟨_, rfl, rfl⟩ rfl rfl ?_
        rw [e4]
        refine ZW.imul dX8_records_69 ?_
        refine ZW.iload_n dX8_records_70 rfl ?_
        refine ZW.iadd dX8_records_71 ?_
        refine ZW.aload_n dX8_records_72 rfl ?_
        refine ZW.getR dX8_records_73 fl_X8_7 ⟨_, rfl, rfl⟩ ?_
        refine ZW.iload_n dX8_records_76 rfl ?_
        refine ZW.iald dX8_records_77 rfl (by decide) (by omega) rfl ?_
        refine ZW.iast dX8_records_78 rfl (by decide) (by omega) ?_
        refine ZW.iinc dX8_records_79 rfl (by decide) rfl ?_
        refine ZW.goto (tgt := 51) dX8_records_82 (by decide) ?_
        rw [zRow_ne _ _ (show (101 : Nat) ≠ 103 by decide), zSet_up, zCpy_up _ _ _ h0]
        exact ih (x + 1) m g1 (by omega) (by omega) hm m0 m1 hq
  have loop1 : ∀ (n : Nat) (x : Int), 0 ≤ x → x + n = 867 → g 100 4 = 4 → ZW 0 mX8_records 10 [some (.inr 100), some (.inl x)] [] (zRow g 103 (zPart (fun i => g 103 (i + 289)) (g 103) x)) (fun _ g' => recP g g') := by
    intro n
    induction n with
    | zero =>
      intro x h0 hn h4
      have hx : x = 867 := by omega
      subst hx
      refine ZW.iload_n dX8_records_10 rfl ?_
      refine ZW.sipush dX8_records_11 rfl ?_
      refine ZW.icmp_ge (tgt := 39) dX8_records_14 (by decide) (by omega) (by omega) (fun c14 => ?_) (fun c14 => ?_)
      · refine ZW.aload_n dX8_records_39 rfl ?_
        refine ZW.dup dX8_records_40 ?_
        refine ZW.getI (fz := 4) dX8_records_41 fl_X8_56 ⟨_, rfl, rfl⟩ rfl rfl ?_
        refine ZW.iconst dX8_records_44 ?_
        rw [zRow_ne _ _ (show (100 : Nat) ≠ 103 by decide), h4]
        refine ZW.isub dX8_records_45 ?_
        refine ZW.puti (fz := 4) dX8_records_46 fp_X8_56 ⟨_, rfl, rfl⟩ rfl ?_
        refine ZW.iconst dX8_records_49 ?_
        refine ZW.istore_n dX8_records_50 (by decide) rfl ?_
        obtain ⟨g1, hg1⟩ : ∃ z, z = zSet (zRow g 103 (zPart (fun i => g 103 (i + 289)) (g 103) 867)) 100 4 (4 - 1) := ⟨_, rfl⟩
        rw [← hg1]
        have a1 : g1 101 = g 101 := by rw [hg1, zSet_ne _ _ _ (by decide), zRow_ne _ _ (by decide)]
        have a2 : g1 103 = zPart (fun i => g 103 (i + 289)) (g 103) 867 := by rw [hg1, zSet_ne _ _ _ (by decide), zRow_same]
        have a3 : g1 100 = zUp (g 100) 4 3 := by rw [hg1, zSet_same, zRow_ne _ _ (by decide)]; rfl
        have h1 := loop2 289 0 3 g1 (by omega) (by omega) (by rw [a3, zUp_same]) (by decide) (by decide) ?_
        · rw [zCpy_0, zRow_self] at h1
          exact h1
        · refine ⟨fun k hk => ?_, fun i hi => ?_, ?_, fun i i0 i1 => ?_, fun k k0 k1 i i0 i1 => ?_⟩
          · have k1 : k ≠ 100 := fun q => hk (by rw [q]; decide)
            have k2 : k ≠ 103 := fun q => hk (by rw [q]; decide)
            rw [zSet_ne _ _ _ k1, zRow_ne _ _ k2, hg1, zSet_ne _ _ _ k1, zRow_ne _ _ k2]
          · rw [zSet_same, zUp_ne _ _ hi, zRow_ne _ _ (by decide), a3, zUp_ne _ _ hi]
          · rw [zSet_same, zUp_same, if_pos h4]; rfl
          · unfold hN
            rw [zSet_ne _ _ _ (show (103 : Nat) ≠ 100 by decide), zRow_same, zSet_same, zUp_same, a1]
            unfold zCpy
            rw [if_pos (by omega)]
            congr 1
            omega
          · rw [zSet_same, zUp_same] at k1
            unfold hN
            rw [zSet_ne _ _ _ (show (103 : Nat) ≠ 100 by decide), zRow_same, zSet_same, zUp_same, a1, a2, h4]
            unfold zCpy zPart
            rw [if_neg (by omega), if_pos (by omega)]
            show g 103 _ = g 103 _
            congr 1
            omega
      · exact absurd c14 (by omega)
    | succ n ih =>
      intro x h0 hn h4
      refine ZW.iload_n dX8_records_10 rfl ?_
      refine ZW.sipush dX8_records_11 rfl ?_
      refine ZW.icmp_ge (tgt := 39) dX8_records_14 (by decide) (by omega) (by omega) (fun c14 => ?_) (fun c14 => ?_)
      · exact absurd c14 (by omega)
      · refine ZW.aload_n dX8_records_17 rfl ?_
        refine ZW.getR dX8_records_18 fl_X8_16 ⟨_, rfl, rfl⟩ ?_
        refine ZW.iload_n dX8_records_21 rfl ?_
        refine ZW.aload_n dX8_records_22 rfl ?_
        refine ZW.getR dX8_records_23 fl_X8_16 ⟨_, rfl, rfl⟩ ?_
        refine ZW.iload_n dX8_records_26 rfl ?_
        refine ZW.sipush dX8_records_27 rfl ?_
        refine ZW.iadd dX8_records_30 ?_
        refine ZW.iald dX8_records_31 rfl (by decide) (by omega) rfl ?_
        rw [zRow_same, show zPart (fun i => g 103 (i + 289)) (g 103) x (x + 289) = (fun i => g 103 (i + 289)) x by unfold zPart; rw [if_neg (by omega)]]
        refine ZW.iast dX8_records_32 rfl (by decide) (by omega) ?_
        refine ZW.iinc dX8_records_33 rfl (by decide) rfl ?_
        refine ZW.goto (tgt := 10) dX8_records_36 (by decide) ?_
        rw [zSet_up, zPart_up _ _ h0]
        exact ih (x + 1) (by omega) (by omega) h4
  refine ZW.aload_n dX8_records_0 rfl ?_
  refine ZW.getI (fz := 4) dX8_records_1 fl_X8_56 ⟨_, rfl, rfl⟩ rfl rfl ?_
  refine ZW.iconst dX8_records_4 ?_
  refine ZW.icmp_ne (tgt := 49) dX8_records_5 (by decide) (by omega) (by omega) (fun c5 => ?_) (fun c5 => ?_)
  · refine ZW.iconst dX8_records_49 ?_
    refine ZW.istore_n dX8_records_50 (by decide) rfl ?_
    have h1 := loop2 289 0 (g 100 4) g (by omega) (by omega) rfl hn.1 (by omega) ?_
    · rw [zCpy_0, zRow_self] at h1
      exact h1
    · refine ⟨fun k hk => ?_, fun i hi => ?_, ?_, fun i i0 i1 => ?_, fun k k0 k1 i i0 i1 => ?_⟩
      · have k1 : k ≠ 100 := fun q => hk (by rw [q]; decide)
        have k2 : k ≠ 103 := fun q => hk (by rw [q]; decide)
        rw [zSet_ne _ _ _ k1, zRow_ne _ _ k2]
      · rw [zSet_same, zUp_ne _ _ hi, zRow_ne _ _ (by decide)]
      · rw [zSet_same, zUp_same, if_neg c5]
      · unfold hN
        rw [zSet_ne _ _ _ (show (103 : Nat) ≠ 100 by decide), zRow_same, zSet_same, zUp_same]
        unfold zCpy
        rw [if_pos (by omega)]
        congr 1
        omega
      · rw [zSet_same, zUp_same] at k1
        unfold hN
        rw [zSet_ne _ _ _ (show (103 : Nat) ≠ 100 by decide), zRow_same, zSet_same, zUp_same]
        unfold zCpy
        rw [if_neg (by omega)]
        congr 1
        omega
  · refine ZW.iconst dX8_records_8 ?_
    refine ZW.istore_n dX8_records_9 (by decide) rfl ?_
    have h1 := loop1 867 0 (by omega) (by omega) c5
    rw [zPart_0, zRow_self] at h1
    exact h1
-- the end of a turn
noncomputable def ownB (r : Int → Int) (u : Int) : Bool := decide (0 < ofF r u 1 ∧ ofF r u 0 = r 191 % 2)
noncomputable def strvB (r : Int → Int) (u : Int) : Bool := ownB r u && !supB r u
noncomputable def e5F (r : Int → Int) (u : Int) : Int := if strvB r u then ofF r u 5 + 1 else 0
noncomputable def e1F (r : Int → Int) (u : Int) : Int := if 1 < e5F r u then ofF r u 1 - 1 else ofF r u 1
noncomputable def eN (r : Int → Int) (u w : Int) : Int :=
  if ownB r u then (if w = 5 then e5F r u else if w = 1 then e1F r u else ofF r u w)
  else if ofF r u 0 = r 191 % 2 then ofF r u w else (if w = 3 then 4 else if w = 4 then 1 else ofF r u w)
noncomputable def endsG (r : Int → Int) (k : Int) : Int → Int := fun i => if 193 ≤ i ∧ i < 193 + 6 * k then eN r ((i - 193) / 6) ((i - 193) % 6) else r i
noncomputable def endsF (r : Int → Int) : Int → Int := zUp (endsG r (r 192)) 191 (r 191 + 1)
noncomputable def goneF (r : Int → Int) (n : Nat) (i : Int) : Int := cntF (fun u => zB (ownB r u && decide (e1F r u = 0))) n i
noncomputable def endsR (r : Int → Int) : Int := goneF r (r 192).toNat 0
theorem endsG_at {r : Int → Int} {k u w : Int} (hu : 0 ≤ u) (hw : 0 ≤ w ∧ w < 6) : ofF (endsG r k) u w = if u < k then eN r u w else ofF r u w := by
  unfold ofF endsG
  by_cases q : u < k
  · rw [if_pos (by omega), if_pos q]
    rw [show (193 + 6 * u + w - 193) / 6 = u by omega, show (193 + 6 * u + w - 193) % 6 = w by omega]
  · rw [if_neg (by omega), if_neg q]
theorem endsG_lo {r : Int → Int} {k i : Int} (hi : i < 193) : endsG r k i = r i := by
  unfold endsG
  rw [if_neg (by omega)]
theorem endsG_up {r f : Int → Int} {k : Int} (hk : 0 ≤ k) (h1 : ∀ i, (i < 193 + 6 * k ∨ 193 + 6 * k + 6 ≤ i) → f i = endsG r k i) (h2 : ∀ w, 0 ≤ w → w < 6 → ofF f k w = eN r k w) : f = endsG r (k + 1) := by
  funext i
  by_cases q : i < 193 + 6 * k ∨ 193 + 6 * k + 6 ≤ i
  · rw [h1 i q]
    unfold endsG
    by_cases q2 : 193 ≤ i ∧ i < 193 + 6 * k
    · rw [if_pos q2, if_pos (by omega)]
    · rw [if_neg q2, if_neg (by omega)]
  · have h3 := h2 (i - 193 - 6 * k) (by omega) (by omega)
    unfold ofF at h3
    rw [show 193 + 6 * k + (i - 193 - 6 * k) = i by omega] at h3
    rw [h3]
    unfold endsG
    rw [if_pos (by omega), show (i - 193) / 6 = k by omega, show (i - 193) % 6 = i - 193 - 6 * k by omega]
theorem layF_off {r : Int → Int} {u w v i : Int} (hw : 0 ≤ w ∧ w < 6) (hi : i < 193 + 6 * u ∨ 193 + 6 * u + 6 ≤ i) : layF r u w v i = r i := zUp_ne _ _ (by omega)
theorem e5F_R {r : Int → Int} (hk : okB r) {u : Int} (hu : 0 ≤ u ∧ u < 16) : 0 ≤ e5F r u ∧ e5F r u ≤ 1000 := by
  have h1 := ofF_R hk hu (w := 5) (by omega)
  unfold e5F
  split <;> omega
set_option maxHeartbeats 1000000 in
theorem c_X8_ends (g : ZH) (hk : okB (g 101)) (hU : okU (g 101)) : ZC 7 mX8_ends [.inr 100] g (fun r g' => r = endsR (g 101) ∧ zFr [108, 109, 110] (zRow g 101 (endsF (g 101))) g') := by
  have h192 := hk.1 192 (by decide) (by decide)
  have h191 := hk.1 191 (by decide) (by decide)
  have h16 := hk.2
  refine ZC.of (by decide +kernel) (Nat.le_of_ble_eq_true rfl) ?_
  have loop2 : ∀ (n : Nat) (u acc : Int) (g1 : ZH), 0 ≤ u → u + n = g 101 192 → zFr [108, 109, 110] (zRow g 101 (endsG (g 101) u)) g1 → (∀ v, 0 ≤ v → v < g 101 192 → g1 110 v = zB (strvB (g 101) v)) → ZW 7 mX8_ends 73 [some (.inr 100), some (.inl (g 101 191 % 2)), some (.inl acc), some (.inl u)] [] g1 (fun r g' => r = acc + goneF (g 101) n u ∧ zFr [108, 109, 110] (zRow g 101 (endsF (g 101))) g') := by
    intro n
    induction n with
    | zero =>
      intro u acc g1 h0 hn hf hz
      have e1 : g1 101 = endsG (g 101) u := by rw [hf 101 (by decide), zRow_same]
      have e2 : g1 101 192 = g 101 192 := by rw [e1, endsG_lo (by decide)]
      have e3 : g1 101 191 = g 101 191 := by rw [e1, endsG_lo (by decide)]
      refine ZW.iload_n dX8_ends_73 rfl ?_
      refine ZW.aload_n dX8_ends_74 rfl ?_
      refine ZW.getR dX8_ends_75 fl_X8_7 ⟨_, rfl, rfl⟩ ?_
      refine ZW.sipush dX8_ends_78 rfl ?_
      refine ZW.iald dX8_ends_81 rfl (by decide) (by omega) rfl ?_
      refine ZW.icmp_ge (tgt := 214) dX8_ends_82 (by decide) (by (try rw [e2]); omega) (by (try rw [e2]); omega) (fun c82 => ?_) (fun c82 => ?_)
      · refine ZW.aload_n dX8_ends_214 rfl ?_
        refine ZW.getR dX8_ends_215 fl_X8_7 ⟨_, rfl, rfl⟩ ?_
        refine ZW.sipush dX8_ends_218 rfl ?_
        refine ZW.dup2 dX8_ends_221 ?_
        refine ZW.iald dX8_ends_222 rfl (by decide) (by omega) rfl ?_
        refine ZW.iconst dX8_ends_223 ?_
        refine ZW.iadd dX8_ends_224 ?_
        refine ZW.iast dX8_ends_225 rfl (by decide) (by omega) ?_
        refine ZW.iload_n dX8_ends_226 rfl ?_
        refine ZW.ireti dX8_ends_227 rfl ?_
        refine ⟨by simp [goneF, cntF], ?_⟩
        have hu : u = g 101 192 := by omega
        have h1 := hf.lay (endsF (g 101))
        rw [zSet_row, e3, e1, hu]
        exact h1
      · rw [e2] at c82; exact absurd c82 (by omega)
    | succ n ih =>
      intro u acc g1 h0 hn hf hz
      have hu16 : u < 16 := by omega
      have e1 : g1 101 = endsG (g 101) u := by rw [hf 101 (by decide), zRow_same]
      have e2 : g1 101 192 = g 101 192 := by rw [e1, endsG_lo (by decide)]
      have eo : ∀ w, 0 ≤ w → w < 6 → ofF (g1 101) u w = ofF (g 101) u w := fun w w0 w1 => by
        rw [e1, endsG_at h0 ⟨w0, w1⟩, if_neg (by omega)]
      have hr : ∀ w, 0 ≤ w → w < 6 → zR (ofF (g 101) u w) := fun w w0 w1 => ofU_R hk ⟨h0, hu16⟩ ⟨w0, w1⟩
      have e5r := e5F_R hk (u := u) ⟨h0, hu16⟩
      have hgone : ∀ (b : Bool) (v : Int), (ownB (g 101) u && decide (e1F (g 101) u = 0)) = b → v = acc + zB b → ∀ g2 : ZH, zFr [108, 109, 110] (zRow g 101 (endsG (g 101) (u + 1))) g2 → (∀ v, 0 ≤ v → v < g 101 192 → g2 110 v = zB (strvB (g 101) v)) → ZW 7 mX8_ends 73 [some (.inr 100), some (.inl (g 101 191 % 2)), some (.inl v), some (.inl (u + 1))] [] g2 (fun r g' => r = acc + goneF (g 101) (n + 1) u ∧ zFr [108, 109, 110] (zRow g 101 (endsF (g 101))) g') := by
        intro b v hb hv g2 hf2 hz2
        refine ZW.mono (ih (u + 1) v g2 (by omega) (by omega) hf2 hz2) (fun r g' hh => ⟨?_, hh.2⟩)
        rw [hh.1, hv, Int.add_assoc, ← hb]
        rfl
      have other : ¬ (0 < ofF (g 101) u 1 ∧ ofF (g 101) u 0 = g 101 191 % 2) → ZW 7 mX8_ends 184 [some (.inr 100), some (.inl (g 101 191 % 2)), some (.inl acc), some (.inl u)] [] g1 (fun r g' => r = acc + goneF (g 101) (n + 1) u ∧ zFr [108, 109, 110] (zRow g 101 (endsF (g 101))) g') := by
        intro hno
        have hown : ownB (g 101) u = false := decide_eq_false hno
        have h00 := hr 0 (by decide) (by decide)
        refine ZW.aload_n dX8_ends_184 rfl ?_
        refine ZW.iload_n dX8_ends_185 rfl ?_
        refine ZW.iconst dX8_ends_186 ?_
        refine ZW.callV (as := [_, _]) dX8_ends_187 cv_X8_52 ⟨_, rfl⟩ rfl (by decide) (Nat.le_of_ble_eq_true rfl) rfl (c_X8_of _ ⟨h0, hu16⟩ (by omega)) (fun v1 g2 ⟨q1, q2⟩ => ?_)
        subst q1; subst q2
        rw [eo 0 (by decide) (by decide)]
        refine ZW.iload_n dX8_ends_190 rfl ?_
        refine ZW.icmp_eq (tgt := 208) dX8_ends_191 (by decide) (by omega) (by omega) (fun c191 => ?_) (fun c191 => ?_)
        · refine ZW.iinc dX8_ends_208 rfl (by decide) rfl ?_
          refine ZW.goto (tgt := 73) dX8_ends_211 (by decide) ?_
          refine hgone false acc (by rw [hown]; rfl) (by simp [zB]) _ ?_ hz
          rw [← endsG_up h0 (f := endsG (g 101) u) (fun i hi => rfl) (fun w w0 w1 => ?_)]
          · exact hf
          · rw [endsG_at h0 ⟨w0, w1⟩, if_neg (by omega)]
            unfold eN
            rw [hown, if_pos c191]
            simp
        · refine ZW.aload_n dX8_ends_194 rfl ?_
          refine ZW.iload_n dX8_ends_195 rfl ?_
          refine ZW.iconst dX8_ends_196 ?_
          refine ZW.iconst dX8_ends_197 ?_
          refine ZW.callVv (as := [_, _, _]) dX8_ends_198 cv_X8_73 ⟨_, rfl⟩ rfl (by decide) (Nat.le_of_ble_eq_true rfl) rfl (fun _ _ hz _ => hz) (c_X8_layR _ ⟨h0, hu16⟩ (by omega)) (fun g3 q1 => ?_)
          subst q1
          refine ZW.aload_n dX8_ends_201 rfl ?_
          refine ZW.iload_n dX8_ends_202 rfl ?_
          refine ZW.iconst dX8_ends_203 ?_
          refine ZW.iconst dX8_ends_204 ?_
          refine ZW.callVv (as := [_, _, _]) dX8_ends_205 cv_X8_73 ⟨_, rfl⟩ rfl (by decide) (Nat.le_of_ble_eq_true rfl) rfl (fun _ _ hz _ => hz) (c_X8_layR _ ⟨h0, hu16⟩ (by omega)) (fun g4 q1 => ?_)
          subst q1
          rw [zRow_same, zRow_row]
          refine ZW.iinc dX8_ends_208 rfl (by decide) rfl ?_
          refine ZW.goto (tgt := 73) dX8_ends_211 (by decide) ?_
          refine hgone false acc (by rw [hown]; rfl) (by simp [zB]) _ ?_ (fun v v0 v1 => by rw [zRow_ne _ _ (by decide)]; exact hz v v0 v1)
          rw [← endsG_up h0 (f := layF (layF (g2 101) u 3 4) u 4 1) (fun i hi => ?_) (fun w w0 w1 => ?_)]
          · exact hf.lay _
          · rw [layF_off (by decide) hi, layF_off (by decide) hi, e1]
          · unfold eN
            rw [hown, if_neg c191]
            by_cases w4 : w = 4
            · subst w4; rw [layF_same]; rfl
            · rw [layF_ne (by decide) ⟨w0, w1⟩ (Or.inr w4)]
              by_cases w3 : w = 3
              · subst w3; rw [layF_same]; rfl
              · rw [layF_ne (by decide) ⟨w0, w1⟩ (Or.inr w3), eo w w0 w1]
                simp [w3, w4]
      refine ZW.iload_n dX8_ends_73 rfl ?_
      refine ZW.aload_n dX8_ends_74 rfl ?_
      refine ZW.getR dX8_ends_75 fl_X8_7 ⟨_, rfl, rfl⟩ ?_
      refine ZW.sipush dX8_ends_78 rfl ?_
      refine ZW.iald dX8_ends_81 rfl (by decide) (by omega) rfl ?_
      refine ZW.icmp_ge (tgt := 214) dX8_ends_82 (by decide) (by (try rw [e2]); omega) (by (try rw [e2]); omega) (fun c82 => ?_) (fun c82 => ?_)
      · rw [e2] at c82; exact absurd c82 (by omega)
      · have h00 := hr 0 (by decide) (by decide)
        have h01 := hr 1 (by decide) (by decide)
        have h05 := ofF_R hk (u := u) ⟨h0, hu16⟩ (w := 5) (by decide)
        refine ZW.aload_n dX8_ends_85 rfl ?_
        refine ZW.iload_n dX8_ends_86 rfl ?_
        refine ZW.iconst dX8_ends_87 ?_
        refine ZW.callV (as := [_, _]) dX8_ends_88 cv_X8_52 ⟨_, rfl⟩ rfl (by decide) (Nat.le_of_ble_eq_true rfl) rfl (c_X8_of _ ⟨h0, hu16⟩ (by omega)) (fun v1 g2 ⟨q1, q2⟩ => ?_)
        subst q1; subst q2
        rw [eo 1 (by decide) (by decide)]
        refine ZW.if_le (tgt := 184) dX8_ends_91 (by decide) (by omega) (fun c91 => ?_) (fun c91 => ?_)
        · exact other (by omega)
        · refine ZW.aload_n dX8_ends_94 rfl ?_
          refine ZW.iload_n dX8_ends_95 rfl ?_
          refine ZW.iconst dX8_ends_96 ?_
          refine ZW.callV (as := [_, _]) dX8_ends_97 cv_X8_52 ⟨_, rfl⟩ rfl (by decide) (Nat.le_of_ble_eq_true rfl) rfl (c_X8_of _ ⟨h0, hu16⟩ (by omega)) (fun v1 g3 ⟨q1, q2⟩ => ?_)
          subst q1; subst q2
          rw [eo 0 (by decide) (by decide)]
          refine ZW.iload_n dX8_ends_100 rfl ?_
          refine ZW.icmp_ne (tgt := 184) dX8_ends_101 (by decide) (by omega) (by omega) (fun c101 => ?_) (fun c101 => ?_)
          · exact other (fun q => c101 q.2)
          · have hown : ownB (g 101) u = true := decide_eq_true ⟨c91, c101⟩
            have lay5 : ZW 7 mX8_ends 128 [some (.inr 100), some (.inl (g 101 191 % 2)), some (.inl acc), some (.inl u)] [.inl (e5F (g 101) u), .inl 5, .inl u, .inr 100] g3 (fun r g' => r = acc + goneF (g 101) (n + 1) u ∧ zFr [108, 109, 110] (zRow g 101 (endsF (g 101))) g') := by
              refine ZW.callVv (as := [_, _, _]) dX8_ends_128 cv_X8_73 ⟨_, rfl⟩ rfl (by decide) (Nat.le_of_ble_eq_true rfl) rfl (fun _ _ hz _ => hz) (c_X8_layR _ ⟨h0, hu16⟩ (by omega)) (fun g4 q1 => ?_)
              subst q1
              have fin : ∀ v : Int, v = e1F (g 101) u → ZW 7 mX8_ends 161 [some (.inr 100), some (.inl (g 101 191 % 2)), some (.inl acc), some (.inl u)] [.inl v, .inl 1, .inl u, .inr 100] (zRow g3 101 (layF (g3 101) u 5 (e5F (g 101) u))) (fun r g' => r = acc + goneF (g 101) (n + 1) u ∧ zFr [108, 109, 110] (zRow g 101 (endsF (g 101))) g') := by
                intro v hv
                subst hv
                have hb1 : -1 ≤ e1F (g 101) u ∧ e1F (g 101) u < 1000 := by
                  have := ofF_R hk (u := u) ⟨h0, hu16⟩ (w := 1) (by decide)
                  unfold e1F; split <;> omega
                have row : layF (layF (g3 101) u 5 (e5F (g 101) u)) u 1 (e1F (g 101) u) = endsG (g 101) (u + 1) := by
                  refine endsG_up h0 (fun i hi => ?_) (fun w w0 w1 => ?_)
                  · rw [layF_off (by decide) hi, layF_off (by decide) hi, e1]
                  · unfold eN
                    rw [hown]
                    by_cases q1 : w = 1
                    · subst q1; rw [layF_same]; rfl
                    · rw [layF_ne (by decide) ⟨w0, w1⟩ (Or.inr q1)]
                      by_cases q5 : w = 5
                      · subst q5; rw [layF_same]; rfl
                      · rw [layF_ne (by decide) ⟨w0, w1⟩ (Or.inr q5), eo w w0 w1]
                        simp [q1, q5]
                refine ZW.callVv (as := [_, _, _]) dX8_ends_161 cv_X8_73 ⟨_, rfl⟩ rfl (by decide) (Nat.le_of_ble_eq_true rfl) rfl (fun _ _ hz _ => hz) (c_X8_layR _ ⟨h0, hu16⟩ (by omega)) (fun g5 q1 => ?_)
                subst q1
                rw [zRow_same, zRow_row, row]
                refine ZW.iload_n dX8_ends_164 rfl ?_
                refine ZW.aload_n dX8_ends_165 rfl ?_
                refine ZW.iload_n dX8_ends_166 rfl ?_
                refine ZW.iconst dX8_ends_167 ?_
                refine ZW.callV (as := [_, _]) dX8_ends_168 cv_X8_52 ⟨_, rfl⟩ rfl (by decide) (Nat.le_of_ble_eq_true rfl) rfl (c_X8_of _ ⟨h0, hu16⟩ (by omega)) (fun v1 g6 ⟨q1, q2⟩ => ?_)
                subst q1; subst q2
                rw [zRow_same, endsG_at h0 (by decide), if_pos (by omega)]
                have hen : eN (g 101) u 1 = e1F (g 101) u := by unfold eN; rw [hown]; rfl
                rw [hen]
                refine ZW.if_ne (tgt := 178) dX8_ends_171 (by decide) (by omega) (fun c171 => ?_) (fun c171 => ?_)
                · refine ZW.iconst dX8_ends_178 ?_
                  refine ZW.iadd dX8_ends_179 ?_
                  refine ZW.istore_n dX8_ends_180 (by decide) rfl ?_
                  refine ZW.goto (tgt := 208) dX8_ends_181 (by decide) ?_
                  refine ZW.iinc dX8_ends_208 rfl (by decide) rfl ?_
                  refine ZW.goto (tgt := 73) dX8_ends_211 (by decide) ?_
                  refine hgone false _ (by rw [hown]; simp [c171]) (by simp [zB]) _ (hf.lay _) (fun v v0 v1 => by rw [zRow_ne _ _ (by decide)]; exact hz v v0 v1)
                · refine ZW.iconst dX8_ends_174 ?_
                  refine ZW.goto (tgt := 179) dX8_ends_175 (by decide) ?_
                  refine ZW.iadd dX8_ends_179 ?_
                  refine ZW.istore_n dX8_ends_180 (by decide) rfl ?_
                  refine ZW.goto (tgt := 208) dX8_ends_181 (by decide) ?_
                  refine ZW.iinc dX8_ends_208 rfl (by decide) rfl ?_
                  refine ZW.goto (tgt := 73) dX8_ends_211 (by decide) ?_
                  refine hgone true _ (by rw [hown]; simp [c171]) (by simp [zB]) _ (hf.lay _) (fun v v0 v1 => by rw [zRow_ne _ _ (by decide)]; exact hz v v0 v1)
              refine ZW.aload_n dX8_ends_131 rfl ?_
              refine ZW.iload_n dX8_ends_132 rfl ?_
              refine ZW.iconst dX8_ends_133 ?_
              refine ZW.aload_n dX8_ends_134 rfl ?_
              refine ZW.iload_n dX8_ends_135 rfl ?_
              refine ZW.iconst dX8_ends_136 ?_
              refine ZW.callV (as := [_, _]) dX8_ends_137 cv_X8_52 ⟨_, rfl⟩ rfl (by decide) (Nat.le_of_ble_eq_true rfl) rfl (c_X8_of _ ⟨h0, hu16⟩ (by omega)) (fun v1 g5 ⟨q1, q2⟩ => ?_)
              subst q1; subst q2
              rw [zRow_same, layF_same]
              refine ZW.iconst dX8_ends_140 ?_
              refine ZW.icmp_le (tgt := 155) dX8_ends_141 (by decide) (by omega) (by omega) (fun c141 => ?_) (fun c141 => ?_)
              · refine ZW.aload_n dX8_ends_155 rfl ?_
                refine ZW.iload_n dX8_ends_156 rfl ?_
                refine ZW.iconst dX8_ends_157 ?_
                refine ZW.callV (as := [_, _]) dX8_ends_158 cv_X8_52 ⟨_, rfl⟩ rfl (by decide) (Nat.le_of_ble_eq_true rfl) rfl (c_X8_of _ ⟨h0, hu16⟩ (by omega)) (fun v1 g6 ⟨q1, q2⟩ => ?_)
                subst q1; subst q2
                rw [zRow_same, layF_ne (by decide) (by decide) (Or.inr (by decide)), eo 1 (by decide) (by decide)]
                exact fin _ (by unfold e1F; rw [if_neg (by omega)])
              · refine ZW.aload_n dX8_ends_144 rfl ?_
                refine ZW.iload_n dX8_ends_145 rfl ?_
                refine ZW.iconst dX8_ends_146 ?_
                refine ZW.callV (as := [_, _]) dX8_ends_147 cv_X8_52 ⟨_, rfl⟩ rfl (by decide) (Nat.le_of_ble_eq_true rfl) rfl (c_X8_of _ ⟨h0, hu16⟩ (by omega)) (fun v1 g6 ⟨q1, q2⟩ => ?_)
                subst q1; subst q2
                rw [zRow_same, layF_ne (by decide) (by decide) (Or.inr (by decide)), eo 1 (by decide) (by decide)]
                refine ZW.iconst dX8_ends_150 ?_
                refine ZW.isub dX8_ends_151 ?_
                refine ZW.goto (tgt := 161) dX8_ends_152 (by decide) ?_
                exact fin _ (by unfold e1F; rw [if_pos (by omega)])
            have hst := hz u h0 (by omega)
            refine ZW.aload_n dX8_ends_104 rfl ?_
            refine ZW.iload_n dX8_ends_105 rfl ?_
            refine ZW.iconst dX8_ends_106 ?_
            refine ZW.aload_n dX8_ends_107 rfl ?_
            refine ZW.getR dX8_ends_108 fl_X8_38 ⟨_, rfl, rfl⟩ ?_
            refine ZW.iload_n dX8_ends_111 rfl ?_
            refine ZW.zald dX8_ends_112 rfl (by decide) (by omega) rfl ?_
            refine ZW.if_eq (tgt := 127) dX8_ends_113 (by decide) (by rw [hst]; exact zB_R _) (fun c113 => ?_) (fun c113 => ?_)
            · rw [hst] at c113
              have e := zB_eq c113
              refine ZW.iconst dX8_ends_127 ?_
              have h1 := lay5
              rw [show e5F (g 101) u = 0 by unfold e5F; rw [e]; rfl] at h1
              exact h1
            · rw [hst] at c113
              have e := zB_ne c113
              refine ZW.aload_n dX8_ends_116 rfl ?_
              refine ZW.iload_n dX8_ends_117 rfl ?_
              refine ZW.iconst dX8_ends_118 ?_
              refine ZW.callV (as := [_, _]) dX8_ends_119 cv_X8_52 ⟨_, rfl⟩ rfl (by decide) (Nat.le_of_ble_eq_true rfl) rfl (c_X8_of _ ⟨h0, hu16⟩ (by omega)) (fun v1 g4 ⟨q1, q2⟩ => ?_)
              subst q1; subst q2
              rw [eo 5 (by decide) (by decide)]
              refine ZW.iconst dX8_ends_122 ?_
              refine ZW.iadd dX8_ends_123 ?_
              refine ZW.goto (tgt := 128) dX8_ends_124 (by decide) ?_
              have h1 := lay5
              rw [show e5F (g 101) u = ofF (g 101) u 5 + 1 by unfold e5F; rw [e]; rfl] at h1
              exact h1
  have loop1 : ∀ (n : Nat) (u : Int) (g1 : ZH), 0 ≤ u → u + n = g 101 192 → zFr [108, 109, 110] g g1 → (∀ v, 0 ≤ v → v < u → g1 110 v = zB (strvB (g 101) v)) → ZW 7 mX8_ends 15 [some (.inr 100), some (.inl (g 101 191 % 2)), some (.inl 0), some (.inl u)] [] g1 (fun r g' => r = endsR (g 101) ∧ zFr [108, 109, 110] (zRow g 101 (endsF (g 101))) g') := by
    intro n
    induction n with
    | zero =>
      intro u g1 h0 hn hf hz
      have e1 : g1 101 = g 101 := hf 101 (by decide)
      refine ZW.iload_n dX8_ends_15 rfl ?_
      refine ZW.aload_n dX8_ends_16 rfl ?_
      refine ZW.getR dX8_ends_17 fl_X8_7 ⟨_, rfl, rfl⟩ ?_
      refine ZW.sipush dX8_ends_20 rfl ?_
      refine ZW.iald dX8_ends_23 rfl (by decide) (by omega) rfl ?_
      refine ZW.icmp_ge (tgt := 71) dX8_ends_24 (by decide) (by (try rw [e1]); omega) (by (try rw [e1]); omega) (fun c24 => ?_) (fun c24 => ?_)
      · refine ZW.iconst dX8_ends_71 ?_
        refine ZW.istore_n dX8_ends_72 (by decide) rfl ?_
        have h1 := hf.st 101
        have hg0 : endsG (g 101) 0 = g 101 := by
          funext i
          unfold endsG
          rw [if_neg (by omega)]
        refine ZW.mono (loop2 (g 101 192).toNat 0 0 g1 (by omega) (by omega) (by rw [hg0]; exact h1) (fun v v0 v1 => hz v v0 (by omega))) (fun r g' hh => ⟨?_, hh.2⟩)
        rw [hh.1, Int.zero_add]; rfl
      · rw [e1] at c24; exact absurd c24 (by omega)
    | succ n ih =>
      intro u g1 h0 hn hf hz
      have hu16 : u < 16 := by omega
      have e1 : g1 101 = g 101 := hf 101 (by decide)
      have hr : ∀ w, 0 ≤ w → w < 6 → zR (ofF (g 101) u w) := fun w w0 w1 => ofU_R hk ⟨h0, hu16⟩ ⟨w0, w1⟩
      have h00 := hr 0 (by decide) (by decide)
      have h01 := hr 1 (by decide) (by decide)
      have fin : ∀ (b : Bool) (g2 : ZH), b = strvB (g 101) u → zFr [108, 109, 110] g g2 → (∀ v, 0 ≤ v → v < u → g2 110 v = zB (strvB (g 101) v)) → ZW 7 mX8_ends 64 [some (.inr 100), some (.inl (g 101 191 % 2)), some (.inl 0), some (.inl u)] [.inl (zB b), .inl u, .inr 110] g2 (fun r g' => r = endsR (g 101) ∧ zFr [108, 109, 110] (zRow g 101 (endsF (g 101))) g') := by
        intro b g2 hb hf2 hz2
        refine ZW.zast dX8_ends_64 rfl (by decide) (by omega) (by exact zB_1 _) ?_
        refine ZW.iinc dX8_ends_65 rfl (by decide) rfl ?_
        refine ZW.goto (tgt := 15) dX8_ends_68 (by decide) ?_
        refine ih (u + 1) _ (by omega) (by omega) (hf2.set (by decide) _ _) (fun v v0 v1 => ?_)
        rw [zSet_same]
        by_cases q : v = u
        · rw [q, zUp_same, hb]
        · rw [zUp_ne _ _ q]; exact hz2 v v0 (by omega)
      refine ZW.iload_n dX8_ends_15 rfl ?_
      refine ZW.aload_n dX8_ends_16 rfl ?_
      refine ZW.getR dX8_ends_17 fl_X8_7 ⟨_, rfl, rfl⟩ ?_
      refine ZW.sipush dX8_ends_20 rfl ?_
      refine ZW.iald dX8_ends_23 rfl (by decide) (by omega) rfl ?_
      refine ZW.icmp_ge (tgt := 71) dX8_ends_24 (by decide) (by (try rw [e1]); omega) (by (try rw [e1]); omega) (fun c24 => ?_) (fun c24 => ?_)
      · rw [e1] at c24; exact absurd c24 (by omega)
      · refine ZW.aload_n dX8_ends_27 rfl ?_
        refine ZW.getR dX8_ends_28 fl_X8_38 ⟨_, rfl, rfl⟩ ?_
        refine ZW.iload_n dX8_ends_31 rfl ?_
        refine ZW.aload_n dX8_ends_32 rfl ?_
        refine ZW.iload_n dX8_ends_33 rfl ?_
        refine ZW.iconst dX8_ends_34 ?_
        refine ZW.callV (as := [_, _]) dX8_ends_35 cv_X8_52 ⟨_, rfl⟩ rfl (by decide) (Nat.le_of_ble_eq_true rfl) rfl (c_X8_of _ ⟨h0, hu16⟩ (by omega)) (fun v1 g2 ⟨q1, q2⟩ => ?_)
        subst q1; subst q2
        rw [e1]
        refine ZW.if_le (tgt := 63) dX8_ends_38 (by decide) (by omega) (fun c38 => ?_) (fun c38 => ?_)
        · refine ZW.iconst dX8_ends_63 ?_
          exact fin false _ (by unfold strvB ownB; simp; intro q; omega) hf hz
        · refine ZW.aload_n dX8_ends_41 rfl ?_
          refine ZW.iload_n dX8_ends_42 rfl ?_
          refine ZW.iconst dX8_ends_43 ?_
          refine ZW.callV (as := [_, _]) dX8_ends_44 cv_X8_52 ⟨_, rfl⟩ rfl (by decide) (Nat.le_of_ble_eq_true rfl) rfl (c_X8_of _ ⟨h0, hu16⟩ (by omega)) (fun v1 g3 ⟨q1, q2⟩ => ?_)
          subst q1; subst q2
          rw [e1]
          refine ZW.iload_n dX8_ends_47 rfl ?_
          refine ZW.icmp_ne (tgt := 63) dX8_ends_48 (by decide) (by omega) (by omega) (fun c48 => ?_) (fun c48 => ?_)
          · refine ZW.iconst dX8_ends_63 ?_
            exact fin false _ (by unfold strvB ownB; simp [c48]) hf hz
          · refine ZW.aload_n dX8_ends_51 rfl ?_
            refine ZW.iload_n dX8_ends_52 rfl ?_
            refine ZW.callV (as := [_]) dX8_ends_53 cv_X8_104 ⟨_, rfl⟩ rfl (by decide) (Nat.le_of_ble_eq_true rfl) rfl (c_X8_isSupplied _ (e1 ▸ hk) (e1 ▸ hU) ⟨h0, hu16⟩) (fun v1 g4 ⟨q1, f4⟩ => ?_)
            subst q1
            rw [e1]
            have hf4 := hf.tr (f4.up (by decide))
            have hz4 : ∀ v, 0 ≤ v → v < u → g4 110 v = zB (strvB (g 101) v) := fun v v0 v1 => by rw [f4 110 (by decide)]; exact hz v v0 v1
            refine ZW.if_ne (tgt := 63) dX8_ends_56 (by decide) (by exact zB_R _) (fun c56 => ?_) (fun c56 => ?_)
            · have e := zB_ne c56
              refine ZW.iconst dX8_ends_63 ?_
              exact fin false _ (by unfold strvB; rw [e]; simp) hf4 hz4
            · have e := zB_eq c56
              refine ZW.iconst dX8_ends_59 ?_
              refine ZW.goto (tgt := 64) dX8_ends_60 (by decide) ?_
              exact fin true _ (by unfold strvB ownB; rw [e]; simp [c38, c48]) hf4 hz4
  refine ZW.aload_n dX8_ends_0 rfl ?_
  refine ZW.getR dX8_ends_1 fl_X8_7 ⟨_, rfl, rfl⟩ ?_
  refine ZW.sipush dX8_ends_4 rfl ?_
  refine ZW.iald dX8_ends_7 rfl (by decide) (by omega) rfl ?_
  refine ZW.iconst dX8_ends_8 ?_
  refine ZW.irem dX8_ends_9 (by omega) ?_
  refine ZW.istore_n dX8_ends_10 (by decide) rfl ?_
  refine ZW.iconst dX8_ends_11 ?_
  refine ZW.istore_n dX8_ends_12 (by decide) rfl ?_
  refine ZW.iconst dX8_ends_13 ?_
  refine ZW.istore_n dX8_ends_14 (by decide) rfl ?_
  exact loop1 (g 101 192).toNat 0 g (by omega) (by omega) (zFr.rf _ _) (fun v v0 v1 => by omega)
