-- THE LAW FROM ITS ENTRY
theorem lw_t1 (i : Nat) {w : Cond} (h : tables_1_1[i]? = some w) : w ∈ lw_tbl := List.mem_append_right (k2_sels lw_privs) (show w ∈ tables_1 from List.mem_append_left _ (List.mem_of_getElem? h))
abbrev lwA (s : State) : Nat → Prop := fun q => s.heap.size ≤ q
theorem lw_tab {s : State} {args : Array Value} {n : String} {v : List Int32} (hs : ∀ c ∈ flatC (Jvm.Cond.and given_1 narrow_1), c.before args s = true) (m1 : Cond.arrayOf (.static RX0 n "[I") .int ∈ flatC (Jvm.Cond.and given_1 narrow_1)) (m2 : Cond.eq (.length (.static RX0 n "[I")) (.int 6) ∈ flatC (Jvm.Cond.and given_1 narrow_1)) (m3 : ∀ j, j < 6 → Cond.eq (.elem (.static RX0 n "[I") (.int (Int32.ofNat j))) (.int (v.getD j 0)) ∈ flatC (Jvm.Cond.and given_1 narrow_1)) (hl : (Cond.laysStatic RX0 n "[I").before args s = true) (hini : (Cond.initialized RX0).before args s = true) : ∃ t : Nat, va_Z RX0 n "[I" (.ref t) (lwA s) s s.heap ∧ va_T .int t 6 (fun i => .int (v.getD i 0)) (lwA s) s s.heap := by
  have hA : ∀ a : Nat, a < s.heap.size → ¬ lwA s a := fun a h => Nat.not_le.mpr h
  obtain ⟨t, h1, h2⟩ := va_Tof (N := 6) (f := fun i => .int (v.getD i 0)) (by decide) (hs _ m1) (va_eqt (hs _ m2)) (fun j hj => va_eqt (hs _ (m3 j hj))) hA
  exact ⟨t, va_Zref hl hini h1 hA, h2⟩
set_option maxRecDepth 20000 in
theorem lw_tabs {s : State} {args : Array Value} (hs : ∀ c ∈ flatC (Jvm.Cond.and given_1 narrow_1), c.before args s = true) (hts : ∀ w ∈ lw_tbl, w.before args s = true) : ∃ tb : Nat → Nat, kTab tb (lwA s) s := by
  have hini : (Cond.initialized RX0).before args s = true := hts _ (lw_t1 2 rfl)
  obtain ⟨t0, a0⟩ := lw_tab (n := "EVEN_COLUMN_STEPS") (v := [1, 0, -1, -1, -1, 0]) hs (by decide +kernel) (by decide +kernel) (fun j hj => match j, hj with
    | 0, _ => by decide +kernel
    | 1, _ => by decide +kernel
    | 2, _ => by decide +kernel
    | 3, _ => by decide +kernel
    | 4, _ => by decide +kernel
    | 5, _ => by decide +kernel
    | _ + 6, hj => absurd hj (by omega)) (hts _ (lw_t1 32 rfl)) hini
  obtain ⟨t1, a1⟩ := lw_tab (n := "ODD_COLUMN_STEPS") (v := [1, 1, 0, -1, 0, 1]) hs (by decide +kernel) (by decide +kernel) (fun j hj => match j, hj with
    | 0, _ => by decide +kernel
    | 1, _ => by decide +kernel
    | 2, _ => by decide +kernel
    | 3, _ => by decide +kernel
    | 4, _ => by decide +kernel
    | 5, _ => by decide +kernel
    | _ + 6, hj => absurd hj (by omega)) (hts _ (lw_t1 34 rfl)) hini
  obtain ⟨t2, a2⟩ := lw_tab (n := "ROW_STEPS") (v := [0, -1, -1, 0, 1, 1]) hs (by decide +kernel) (by decide +kernel) (fun j hj => match j, hj with
    | 0, _ => by decide +kernel
    | 1, _ => by decide +kernel
    | 2, _ => by decide +kernel
    | 3, _ => by decide +kernel
    | 4, _ => by decide +kernel
    | 5, _ => by decide +kernel
    | _ + 6, hj => absurd hj (by omega)) (hts _ (lw_t1 36 rfl)) hini
  refine ⟨fun j => match j with
    | 0 => t0
    | 1 => t1
    | _ => t2, va_Nw.of rfl (hts _ (lw_t1 143 rfl)), va_AO.of (hts _ (lw_t1 128 rfl)), fun j hj => ?_⟩
  match j, hj with
  | 0, _ => exact a0
  | 1, _ => exact a1
  | 2, _ => exact a2
  | _ + 3, hj => exact absurd hj (by omega)
theorem lw_cls {s : State} {args : Array Value} (hw : ∀ w ∈ mmWall, w.before args s = true) : ∃ D : va_G, ∀ (k : Nat) (q : vw_C), vwCl[k]? = some q → u_Kn s q.1 q.2.1 q.2.2 (D.1 k) (D.2 k) := by
  obtain ⟨c0, j0, k0⟩ := u_known (C := RX0) (T := TX0) (N := 1) (n := 1) hw inX0 (hw _ (mmW_1 23 rfl rfl))
  obtain ⟨c1, j1, k1⟩ := u_known (C := RX1) (T := TX1) (N := 6) (n := 6) hw inX1 (hw _ (mmW_1 214 rfl rfl))
  obtain ⟨c2, j2, k2⟩ := u_known (C := RX2) (T := TX2) (N := 3) (n := 3) hw inX2 (hw _ (mmW_1 122 rfl rfl))
  obtain ⟨c3, j3, k3⟩ := u_known (C := RX3) (T := TX3) (N := 9) (n := 9) hw inX3 (hw _ (mmW_1 142 rfl rfl))
  obtain ⟨c4, j4, k4⟩ := u_known (C := RX4) (T := TX4) (N := 14) (n := 14) hw inX4 (hw _ (mmW_1 47 rfl rfl))
  obtain ⟨c5, j5, k5⟩ := u_known (C := RX5) (T := TX5) (N := 3) (n := 3) hw inX5 (hw _ (mmW_1 196 rfl rfl))
  obtain ⟨c6, j6, k6⟩ := u_known (C := RX6) (T := TX6) (N := 2) (n := 2) hw inX6 (hw _ (mmW_1 182 rfl rfl))
  obtain ⟨c7, j7, k7⟩ := u_known (C := RX7) (T := TX7) (N := 10) (n := 10) hw inX7 (hw _ (mmW_1 15 rfl rfl))
  obtain ⟨c8, j8, k8⟩ := u_known (C := RX8) (T := TX8) (N := 18) (n := 18) hw inX8 (hw _ (mmW_3 161 rfl rfl))
  refine ⟨(fun k => match k with
    | 0 => c0
    | 1 => c1
    | 2 => c2
    | 3 => c3
    | 4 => c4
    | 5 => c5
    | 6 => c6
    | 7 => c7
    | _ => c8, fun k => match k with
    | 0 => j0
    | 1 => j1
    | 2 => j2
    | 3 => j3
    | 4 => j4
    | 5 => j5
    | 6 => j6
    | 7 => j7
    | _ => j8), ?_⟩
  intro k q hq
  match k, hq with
  | 0, hq => cases hq; exact k0
  | 1, hq => cases hq; exact k1
  | 2, hq => cases hq; exact k2
  | 3, hq => cases hq; exact k3
  | 4, hq => cases hq; exact k4
  | 5, hq => cases hq; exact k5
  | 6, hq => cases hq; exact k6
  | 7, hq => cases hq; exact k7
  | 8, hq => cases hq; exact k8
  | k + 9, hq => simp [vwCl] at hq
theorem lw_arrs {s : State} {args : Array Value} (hts : ∀ w ∈ lw_tbl, w.before args s = true) : ∃ ca : Nat → ClassId, ∀ (k : Nat) (q : ClassId × FieldType), (mmTys ca)[k]? = some q → ArrOfT s q.1 q.2 ∧ va_RA s q.1 q.2 := by
  obtain ⟨c0, k0, p0, e0, f0, g0⟩ := Cond.arrayClass_spec (hts _ (lw_t1 45 rfl) : (Cond.arrayClass .int).before args s = true)
  obtain ⟨c1, k1, p1, e1, f1, g1⟩ := Cond.arrayClass_spec (hts _ (lw_t1 180 rfl) : (Cond.arrayClass .char).before args s = true)
  obtain ⟨c2, k2, p2, e2, f2, g2⟩ := Cond.arrayClass_spec (hts _ (lw_t1 212 rfl) : (Cond.arrayClass .boolean).before args s = true)
  obtain ⟨p3, c3, k3, e3, -, f3, g3, h3⟩ := Cond.arrayOver_spec (hts _ (lw_t1 128 rfl) : (Cond.arrayOver (.object RX4)).before args s = true)
  refine ⟨fun k => match k with
    | 0 => c0
    | 1 => c1
    | 2 => c2
    | _ => c3, ?_⟩
  intro k q hq
  match k, hq with
  | 0, hq => cases hq; exact ⟨fun n z => ⟨fun k h => (by cases h), k0, f0, p0, g0⟩, e0⟩
  | 1, hq => cases hq; exact ⟨fun n z => ⟨fun k h => (by cases h), k1, f1, p1, g1⟩, e1⟩
  | 2, hq => cases hq; exact ⟨fun n z => ⟨fun k h => (by cases h), k2, f2, p2, g2⟩, e2⟩
  | 3, hq => cases hq; exact ⟨fun n z => ⟨fun k h => (by cases h), k3, f3, p3, g3⟩, k3, p3, f3, g3, e3, h3⟩
  | k + 4, hq => simp [mmTys] at hq
section START
variable {p : Program} {l : Launch} {e : Env} {s : State} {m : MethodId} {below : List Frame} {meth : Method} {c : Code} {b L : Nat} {xs : Nat → Int32} {D : va_G} {ca : Nat → ClassId} {tb : Nat → Nat}
/-- new, dup, its constructor -/
theorem lw_make {pc ix ix2 ci N d2 mc2 ms2 : Nat} {fs : List Value} {M2 : MMeth} {P : Nat → va_W → Prop} {ws : va_W} {H : Heap} {locs : List Loc} {la : Array Slot} {cells slots : Nat} (C0 : lw_At p s m meth c b L xs) (hK : va_K D vwCl (mmTys ca) s) (hT : kTab tb (lwA s) s) (hP : va_P D vwCl ws H) (hD : va_D (lwA s) ws) (hS : va_S (lwA s) s.heap H locs) (hls : la.size = 4) (d0 : decode code pc = .ok (.new ix, 3)) (d1 : decode code (pc + 3) = .ok (.dup, 1)) (d3 : decode code (pc + 4) = .ok (.invokespecial ix2, 3)) (hw0 : mmNew RL ix ci N fs) (hc2 : kCI RL ix2 M2 0) (hdd : d2 ≤ 12) (hc : ∀ q : Nat, KC D ca tb d2 mc2 ms2 M2 [.inr q] [(q, .inr (ci, fs))] (kQv D ca (P q))) (hcells : cells + 1 + mc2 ≤ 600000) (hslots : slots + N + ms2 ≤ 7302250)
    (kk : ∀ (q : Nat) (w1 : va_W) (H1 : Heap) (locs1 : List Loc), P q w1 → va_P D vwCl (ws ++ w1) H1 → va_D (lwA s) (ws ++ w1) → va_S (lwA s) s.heap H1 locs1 → W p l e room_1 s m #[Value.ref b] below meth c H1 locs1 (cells + 1 + mc2) (slots + N + ms2) (lw_Z below #[Value.ref b] s) (F0 m (pc + 7) la [.ref q])) : W p l e room_1 s m #[Value.ref b] below meth c H locs cells slots (lw_Z below #[Value.ref b] s) (F0 m pc la []) := by
  obtain ⟨hx, hb, hr, hml, hown, hts, hX, hbl, hlocks, hgv⟩ := C0
  have hw : ∀ w ∈ mmWall, w.before #[Value.ref b] s = true := fun w h => hts w (mmW_tbl h)
  obtain ⟨Cn, T, ty, h1, h2, h3, h4, h5, h6, h7⟩ := hw0
  obtain ⟨c1, c2, c3, c4, c5, c6, c7, c8, c9⟩ := hc2
  have hA : ∀ q : Nat, s.heap.size ≤ q → lwA s q := fun q h => h
  refine va_new hx hb hw h2 ty h3 hown (hw _ h4) (hw _ h5) (hw _ h6) hK hP hD hS hA h1 h7 (by show cells + 1 ≤ 600000; omega) (by show slots + N ≤ 7302250; omega) d0 (fun q H hP hD hS => ?_)
  refine lv_dup hx hb d1 rfl ?_
  have hC := kLast (wr := ws) (w2 := [(q, (.inr (ci, fs) : va_E))]) rfl
  have hFc := va_free (wc := [(q, .inr (ci, fs))]) hD hS hA [ws.length] hC
  have hPb : va_P D vwCl [(q, .inr (ci, fs))] H := hP.sub [ws.length] (by simp)
  have hDb : va_D (lwA s) [(q, .inr (ci, fs))] := hD.sub [ws.length] rfl hC
  have hM := hc q l H.size (hDb.weaken (fun _ _ _ _ => trivial))
  have hB : CallB room_1 s #[Value.ref b] RL ix2 M2.1 M2.2.1 M2.2.2.1 M2.2.2.2 (mmWs M2) (kRoom d2 mc2 ms2) mc2 ms2 0 := by
    refine ⟨rfl, rfl, by show d2 + 1 ≤ 13; omega, ?_, ?_, List.mem_cons_self, hw _ c3, hw _ c2, c4, fun sig h => ?_, hw _ c1⟩
    · show 8 + (M2.2.2.1 + 11) + 32 * d2 ≤ 512
      omega
    · intro w hww a' U hW
      have hwm : w ∈ mmWall := by
        rcases List.mem_cons.mp hww with rfl | hww
        · exact c3
        · exact hww
      exact word_at hW (mmW_good hwm) (hw w hwm)
    · rw [h] at c5
      exact (Option.some.inj c5).symm
  have hrun := va_runI (H := H) (locs := locs) (cells := cells + 1) (slots := slots + N) (e := e) (below := below) (meth := meth) (As := []) (b := q) (rest := [.ref q]) (g := F0 m (pc + 4) la [.ref q, .ref q]) ⟨hx, hb, hml, hown, hw⟩ hM ⟨c9 ▸ hB, c8, hw _ c7⟩ (k_pre (vs := [.inr q]) hT hS hFc hPb hK) rfl rfl hls rfl (lv_room (Nat.le_of_ble_eq_true rfl)) d3 ⟨by show cells + 1 + mc2 ≤ 600000; exact hcells, by show slots + N + ms2 ≤ 7302250; exact hslots⟩
  refine va_callv hrun hS (fun q _ h => hFc q h) hFc (fun u t H1 locs1 ht hvm hw1 hB1 hz1 hk1 hS1 => ?_)
  obtain ⟨hP1, hK1, hD1⟩ := hB1
  rw [ht] at hP1
  obtain ⟨hP2, hD2⟩ := va_join hP hD [ws.length] (List.range ws.length) hC (kRange ws _) (va_nd_range _) kNo hk1 hFc hP1 hD1
  exact kk q u H1 locs1 hw1 hP2 hD2 hS1
end START
/-- YOUR PART: from the entry, for every script of at most 2048 ints, the law comes to its end with true -/
theorem whole_start {p : Program} {e : Env} {s : State} {m : MethodId} {below : List Frame} {meth : Method} {c : Code} (l : Launch) (hflags : l.flags = flags0) {b L : Nat} {xs : Nat → Int32} (hL : L ≤ 2048) (C0 : lw_At p s m meth c b L xs) : W p l e room_1 s m #[Value.ref b] below meth c s.heap [] 0 0 (lw_Z below #[Value.ref b] s) (entryFrame m ([Value.ref b] : List Value).toArray 4) := by
  obtain ⟨hx, hb, hr, hml, hown, hts, hX, hbl, hlocks, hgv⟩ := id C0
  have hw : ∀ w ∈ mmWall, w.before #[Value.ref b] s = true := fun w h => hts w (mmW_tbl h)
  obtain ⟨D, hKc⟩ := lw_cls hw
  obtain ⟨ca, hca⟩ := lw_arrs hts
  have hK : va_K D vwCl (mmTys ca) s := ⟨hKc, hca⟩
  obtain ⟨tb, hT⟩ := lw_tabs (flat_of_before _ hgv) hts
  have hS : va_S (lwA s) s.heap s.heap [] := va_S.rf
  have hP : va_P D vwCl [] s.heap := fun k q h => by simp at h
  have hD : va_D (lwA s) [] := ⟨fun i j p q h => by simp at h, fun k q h => by simp at h⟩
  have hl := lv_entry ([.ref b]) (n := 4) (Nat.le_of_ble_eq_true rfl)
  rw [lg_entry_eq]
  generalize (lg_sl ([.ref b]) ++ List.replicate (4 - (lg_sl ([.ref b])).length) Slot.unset).toArray = la at hl ⊢
  have hl : lv_has la 4 [(0, .ref b)] := hl
  refine lw_make C0 hK hT hP hD hS hl.1 dL_law_0 dL_law_3 dL_law_4 nw_L_7 ck_L_9 (by decide) (fun q => k_X7_init q) (Nat.le_of_ble_eq_true rfl) (Nat.le_of_ble_eq_true rfl) (fun q1 u1 H1 locs1 hu1 hP1 hD1 hS1 => ?_)
  refine lv_astore_n (lv' := [(1, .ref q1), (0, .ref b)]) hx hb dL_law_7 rfl hl (by decide) rfl (fun la hl => ?_)
  refine lw_make C0 hK hT hP1 hD1 hS1 hl.1 dL_law_8 dL_law_11 dL_law_12 nw_L_10 ck_L_12 (by decide) (fun q => k_X8_init q) (Nat.le_of_ble_eq_true rfl) (Nat.le_of_ble_eq_true rfl) (fun q2 u2 H2 locs2 hu2 hP2 hD2 hS2 => ?_)
  refine lv_astore_n (lv' := [(2, .ref q2), (1, .ref q1), (0, .ref b)]) hx hb dL_law_15 rfl hl (by decide) rfl (fun la hl => ?_)
  refine lv_iconst (v := 0) hx hb dL_law_16 rfl ?_
  refine lv_istore_n (lv' := [(3, .int 0), (2, .ref q2), (1, .ref q1), (0, .ref b)]) hx hb dL_law_17 rfl hl (by decide) rfl (fun la hl => ?_)
  obtain ⟨ρ, h, e0, e100, ⟨g, hg, hI⟩, hW⟩ := world_of hu1 hu2
  subst hg
  subst e0
  subst e100
  rw [List.nil_append] at hP2 hD2
  rw [hW] at hP2 hD2
  have C : lCtx p s m meth c b L xs D ρ ca := ⟨C0, hK, fun h' => mmWorld_D hD2, hL⟩
  exact law_loop C (L + 4) 0 g (by decide) (by omega) (by omega) hI H2 locs2 la hP2 hS2 (lv_sub hl [0, 3, 2, 1] rfl)
