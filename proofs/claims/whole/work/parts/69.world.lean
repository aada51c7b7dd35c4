-- WHAT THE CONSTRUCTORS MADE is the machine's cells, and all holds there
def r0F : Int → Int := zUp (zUp (fun _ => 0) 189 27) 190 35
theorem r0_at (i : Int) : r0F i = if i = 190 then 35 else if i = 189 then 27 else 0 := rfl
theorem r0_u {u w : Int} (hu : 0 ≤ u) (hw : 0 ≤ w) : ofF r0F u w = 0 := by
  unfold ofF
  rw [r0_at, if_neg (by omega), if_neg (by omega)]
theorem r0_z {i : Int} (h1 : i ≠ 189) (h2 : i ≠ 190) : r0F i = 0 := by rw [r0_at, if_neg h2, if_neg h1]
theorem okX_r0 : okX r0F := by
  refine ⟨⟨⟨⟨fun i i0 i1 => ?_, by decide⟩, fun u u0 u1 => ?_, fun u u0 u1 => ?_, by decide⟩, fun u v u0 u1 v0 v1 hu hv he => ?_, ⟨fun x x0 x1 => ?_, fun x d x0 x1 d0 d1 => ?_⟩, fun x x0 x1 => ?_, fun u u0 u1 => ?_⟩, fun u u0 u1 => ?_⟩
  · rw [r0_at]; split
    · decide
    · split <;> decide
  · rw [r0_u u0 (by decide), r0_u u0 (by decide)]; exact ⟨Or.inl rfl, by decide, by decide⟩
  · rw [r0_u u0 (by decide)]; decide
  · rw [r0_u u0 (by decide)] at hu
    exact absurd hu (by decide)
  · rw [r0_z (by omega) (by omega)]; decide
  · have e : ∀ y : Int, 0 ≤ y → y < 63 → ∀ z, rivB r0F y z = false := fun y y0 y1 z => by
      unfold rivB bitB
      rw [r0_z (by omega) (by omega)]
      simp
    refine ⟨fun _ => e x x0 x1 d, fun hn => ?_⟩
    have hr := (nextF_R (x := x) (d := d)).resolve_left hn
    rw [e x x0 x1 d, e _ hr.1 hr.2 _]
  · rw [r0_z (by omega) (by omega)]; decide
  · rw [show r0F 192 = 0 from rfl] at u0
    exact r0_u u0 (by decide)
  · rw [r0_u u0 (by decide)]; decide
def gOf (h : MH) : ZH := fun k i => (h k i.toNat).toInt
theorem gOf_z (h : MH) : zH (gOf h) = h := by
  funext k i
  unfold zH gOf
  rw [iI_self]
  simp
theorem start_inv {h : MH} (h2 : bdI (h 2) 63 0) (h4 : ∀ n, h 4 n = 0) (h5 : ∀ n, h 5 n = 0) (h6 : ∀ n, n < 63 → h 6 n = -1) (h7 : ∀ n, n < 63 → h 7 n = -1) (h8 : h 8 0 = 27 ∧ h 8 1 = 35) (h3 : h 3 6 = 0 ∧ h 3 13 = 0) (h87 : h 87 1 = 0 ∧ h 87 2 = 0) (h101 : ∀ n, h 101 n = upd (upd (fun _ => 0) 189 27) 190 35 n) (h90 : h 90 = h 105) (h89 : h 89 1 = 0) (h100 : h 100 4 = 0 ∧ h 100 6 = 0 ∧ h 100 8 = 0) (h0 : h 0 4 = 0) : ∃ g, zH g = h ∧ Inv g := by
  refine ⟨gOf h, gOf_z h, ?_⟩
  have z0 : (0 : Int32).toInt = 0 := rfl
  have g4 : ∀ i, gOf h 4 i = 0 := fun i => by unfold gOf; rw [h4]; rfl
  have g5 : ∀ i, gOf h 5 i = 0 := fun i => by unfold gOf; rw [h5]; rfl
  have g6 : ∀ i, 0 ≤ i → i < 63 → gOf h 6 i = -1 := fun i i0 i1 => by unfold gOf; rw [h6 _ (by omega)]; rfl
  have g7 : ∀ i, 0 ≤ i → i < 63 → gOf h 7 i = -1 := fun i i0 i1 => by unfold gOf; rw [h7 _ (by omega)]; rfl
  have g80 : gOf h 8 0 = 27 := by unfold gOf; rw [show (0 : Int).toNat = 0 from rfl, h8.1]; rfl
  have g81 : gOf h 8 1 = 35 := by unfold gOf; rw [show (1 : Int).toNat = 1 from rfl, h8.2]; rfl
  have g36 : gOf h 3 6 = 0 := by unfold gOf; rw [show (6 : Int).toNat = 6 from rfl, h3.1]; rfl
  have g313 : gOf h 3 13 = 0 := by unfold gOf; rw [show (13 : Int).toNat = 13 from rfl, h3.2]; rfl
  have g871 : gOf h 87 1 = 0 := by unfold gOf; rw [show (1 : Int).toNat = 1 from rfl, h87.1]; rfl
  have g872 : gOf h 87 2 = 0 := by unfold gOf; rw [show (2 : Int).toNat = 2 from rfl, h87.2]; rfl
  have g891 : gOf h 89 1 = 0 := by unfold gOf; rw [show (1 : Int).toNat = 1 from rfl, h89]; rfl
  have g1004 : gOf h 100 4 = 0 := by unfold gOf; rw [show (4 : Int).toNat = 4 from rfl, h100.1]; rfl
  have g1006 : gOf h 100 6 = 0 := by unfold gOf; rw [show (6 : Int).toNat = 6 from rfl, h100.2.1]; rfl
  have g1008 : gOf h 100 8 = 0 := by unfold gOf; rw [show (8 : Int).toNat = 8 from rfl, h100.2.2]; rfl
  have g04 : gOf h 0 4 = 0 := by unfold gOf; rw [show (4 : Int).toNat = 4 from rfl, h0]; rfl
  have g90 : gOf h 90 = gOf h 105 := by funext i; unfold gOf; rw [h90]
  have g101 : ∀ i, 0 ≤ i → i < 289 → gOf h 101 i = r0F i := fun i i0 i1 => by
    unfold gOf
    rw [h101, r0_at]
    unfold upd
    by_cases q : i = 190
    · rw [if_pos q, if_pos (by omega)]; rfl
    · rw [if_neg q, if_neg (by omega)]
      by_cases q2 : i = 189
      · rw [if_pos q2, if_pos (by omega)]; rfl
      · rw [if_neg q2, if_neg (by omega)]; rfl
  have hX := okX_cong okX_r0 g101
  have hS0 : StN (gOf h) r0F := by
    refine ⟨fun x x0 x1 => ⟨?_, ?_, ?_, ?_⟩, ⟨g80, g81⟩, ⟨g36, g313⟩, fun u u0 u1 => absurd u1 (by rw [show r0F 192 = 0 from rfl]; omega)⟩
    · rw [g4, r0_z (by omega) (by omega)]
    · rw [g5, r0_z (by omega) (by omega)]
    · rw [g6 x x0 x1, r0_z (by omega) (by omega)]; rfl
    · rw [g7 x x0 x1]; rfl
  refine ⟨⟨hX.1, by rw [g1004]; decide, ?_, Or.inl g1006⟩, hX, StF.cong hS0 (okX_n okX_r0) g101, fun x d x0 x1 d0 d1 => ?_, ⟨fun _ => r0F, ⟨by rw [g871]; decide, by rw [g872, g1004], by rw [g1004]; decide, fun k k0 k1 => absurd k1 (by rw [g1004]; omega)⟩, fun k k0 k1 => absurd k1 (by rw [g1004]; omega)⟩, ⟨g90, by rw [g891, g1008]⟩, by rw [g04, g1006], fun q => absurd q (by rw [g1006]; decide)⟩
  · rw [g1008]
    exact ⟨by decide, by decide, fun i i0 i1 => absurd i1 (by omega)⟩
  · have hb := h2 x d x0 d0 d1 (Or.inl x1)
    have hr := nbF_R x d
    unfold gOf
    rw [hb, iI_toInt ⟨by omega, by omega⟩]
def wz (ρ : Nat → Nat) (ca : Nat → ClassId) (h : MH) : Nat → List MLay → va_W
  | _, [] => []
  | k, e :: t => (ρ k, mmCell ρ ca (h k) e) :: wz ρ ca h (k + 1) t
theorem wz_map (ρ : Nat → Nat) (ca : Nat → ClassId) (h : MH) : ∀ (l : List MLay) (k : Nat), l.mapIdx (fun i e => (ρ (k + i), mmCell ρ ca (h (k + i)) e)) = wz ρ ca h k l := by
  intro l
  induction l with
  | nil => intro k; rfl
  | cons e t ih =>
    intro k
    rw [List.mapIdx_cons]
    show (ρ (k + 0), mmCell ρ ca (h (k + 0)) e) :: _ = (ρ k, mmCell ρ ca (h k) e) :: _
    rw [← ih (k + 1)]
    simp only [Nat.add_zero, Nat.add_assoc, Nat.add_comm 1]
theorem mmWorld_wz (ρ : Nat → Nat) (ca : Nat → ClassId) (h : MH) : mmWorld ρ ca h = wz ρ ca h 0 mmLay := by
  rw [← wz_map ρ ca h mmLay 0]
  unfold mmWorld
  simp only [Nat.zero_add]
theorem cEq {x y : Nat × va_E} {l l2 : va_W} (h1 : x = y) (h2 : l = l2) : x :: l = y :: l2 := by rw [h1, h2]
set_option maxHeartbeats 4000000 in
set_option maxRecDepth 100000 in
theorem world_of {ca : Nat → ClassId} {a0 m0 : Nat} {u1 u2 : va_W} (h1 : kCl ca a0 u1) (h2 : kMo ca m0 u2) : ∃ (ρ : Nat → Nat) (h : MH), ρ 0 = a0 ∧ ρ 100 = m0 ∧ (∃ g, zH g = h ∧ Inv g) ∧ u1 ++ u2 = mmWorld ρ ca h := by
  obtain ⟨q1, q2, q3, q4, q5, q6, q7, q8, q9, w0, w1, w2, w3, w4, w5, w6, w7, w8, k0, k1, k2, k3, k4, k5, k6, k7, k8, rfl⟩ := h1
  obtain ⟨r1, r2, r3, r4, r5, r6, r7, r8, r9, r10, r11, rfl⟩ := h2
  obtain ⟨bq, fb, rfl, hfb⟩ := k0
  obtain ⟨p0, f0, n0, hf0, hn0, rfl⟩ := k1
  obtain ⟨p1, f1, n1, hf1, hn1, rfl⟩ := k2
  obtain ⟨p2, f2, n2, hf2, hn2, rfl⟩ := k3
  obtain ⟨a, fa, s0, s1, s2, s3, v0, v1, v2, v3, e0, e1, e2, e3, hfa, rfl⟩ := k4
  obtain ⟨p3, f3, n3, hf3, hn3, rfl⟩ := e0
  obtain ⟨p4, f4, n4, hf4, hn4, rfl⟩ := e1
  obtain ⟨p5, f5, n5, hf5, hn5, rfl⟩ := e2
  obtain ⟨p6, f6, n6, hf6, hn6, rfl⟩ := e3
  obtain ⟨o1, o2, o3, o4, rfl⟩ := k5
  obtain ⟨y1, rfl⟩ := k6
  obtain ⟨z1, z2, rfl⟩ := k7
  subst k8
  obtain ⟨AD, hAD⟩ : ∃ z : List Nat, z = [a0, q1, bq, q2, (p0 1), (p0 2), (p0 3), (p0 4), (p0 5), (p0 6), (p0 7), (p0 8), (p0 9), (p0 10), (p0 11), q3, (p1 1), (p1 2), (p1 3), (p1 4), (p1 5), (p1 6), (p1 7), (p1 8), (p1 9), (p1 10), (p1 11), q4, (p2 1), (p2 2), (p2 3), (p2 4), (p2 5), (p2 6), (p2 7), (p2 8), (p2 9), (p2 10), (p2 11), s0, (p3 1), (p3 2), (p3 3), (p3 4), (p3 5), (p3 6), (p3 7), (p3 8), (p3 9), (p3 10), (p3 11), s1, (p4 1), (p4 2), (p4 3), (p4 4), (p4 5), (p4 6), (p4 7), (p4 8), (p4 9), (p4 10), (p4 11), s2, (p5 1), (p5 2), (p5 3), (p5 4), (p5 5), (p5 6), (p5 7), (p5 8), (p5 9), (p5 10), (p5 11), s3, (p6 1), (p6 2), (p6 3), (p6 4), (p6 5), (p6 6), (p6 7), (p6 8), (p6 9), (p6 10), (p6 11), q5, a, q6, o1, o2, o3, o4, q7, y1, q8, z1, z2, q9, m0, r1, r2, r3, r4, r5, r6, r7, r8, r9, r10, r11] := ⟨_, rfl⟩
  obtain ⟨FN, hFN⟩ : ∃ z : List (Nat → Int32), z = [(fun _ => 0), (fun _ => 0), fb, (fun _ => 0), (fun _ => 0), (fun _ => 0), f0, n0, (upd (upd (fun _ => 0) 0 27) 1 35), (fun _ => 0), (fun _ => 0), (fun _ => 0), (fun _ => 0), (fun _ => 0), (fun _ => 0), (fun _ => 0), (fun _ => 0), (fun _ => 0), f1, n1, (upd (upd (fun _ => 0) 0 27) 1 35), (fun _ => 0), (fun _ => 0), (fun _ => 0), (fun _ => 0), (fun _ => 0), (fun _ => 0), (fun _ => 0), (fun _ => 0), (fun _ => 0), f2, n2, (upd (upd (fun _ => 0) 0 27) 1 35), (fun _ => 0), (fun _ => 0), (fun _ => 0), (fun _ => 0), (fun _ => 0), (fun _ => 0), (fun _ => 0), (fun _ => 0), (fun _ => 0), f3, n3, (upd (upd (fun _ => 0) 0 27) 1 35), (fun _ => 0), (fun _ => 0), (fun _ => 0), (fun _ => 0), (fun _ => 0), (fun _ => 0), (fun _ => 0), (fun _ => 0), (fun _ => 0), f4, n4, (upd (upd (fun _ => 0) 0 27) 1 35), (fun _ => 0), (fun _ => 0), (fun _ => 0), (fun _ => 0), (fun _ => 0), (fun _ => 0), (fun _ => 0), (fun _ => 0), (fun _ => 0), f5, n5, (upd (upd (fun _ => 0) 0 27) 1 35), (fun _ => 0), (fun _ => 0), (fun _ => 0), (fun _ => 0), (fun _ => 0), (fun _ => 0), (fun _ => 0), (fun _ => 0), (fun _ => 0), f6, n6, (upd (upd (fun _ => 0) 0 27) 1 35), (fun _ => 0), (fun _ => 0), (fun _ => 0), (fun _ => 0), (fun _ => 0), (fun _ => 0), (fun _ => 0), (fun _ => 0), (fun _ => 0), (fun _ => 0), (fun _ => 0), (fun _ => 0), (fun _ => 0), (fun _ => 0), (fun _ => 0), (fun _ => 0), (fun _ => 0), (fun _ => 0), (fun _ => 0), (fun _ => 0), (upd (upd (fun _ => 0) 189 27) 190 35), (fun _ => 0), (fun _ => 0), (fun _ => 0), (fun _ => 0), (fun _ => 0), (fun _ => 0), (fun _ => 0), (fun _ => 0), (fun _ => 0), (fun _ => 0)] := ⟨_, rfl⟩
  refine ⟨fun k => AD.getD k 0, fun k => FN.getD k (fun _ => 0), by rw [hAD]; rfl, by rw [hAD]; rfl, ?_, ?_⟩
  · refine start_inv ?_ ?_ ?_ ?_ ?_ ?_ ?_ ?_ ?_ ?_ ?_ ?_ ?_ <;> (subst hFN)
    · exact hfb
    · exact fun _ => rfl
    · exact fun _ => rfl
    · exact hf0
    · exact hn0
    · exact ⟨rfl, rfl⟩
    · exact ⟨rfl, rfl⟩
    · exact ⟨rfl, rfl⟩
    · exact fun _ => rfl
    · rfl
    · rfl
    · exact ⟨rfl, rfl, rfl⟩
    · rfl
  · have hfa2 : fa = fun i => (([39, 51, 63, 75] : List Nat)[i]?).map (fun k => AD.getD k 0) := by
      funext i
      rw [hfa i, hAD]
      match i with
      | 0 => rfl
      | 1 => rfl
      | 2 => rfl
      | 3 => rfl
      | i + 4 => simp
    subst hfa2
    subst hAD
    subst hFN
    rw [mmWorld_wz]
    refine cEq rfl ?_
    refine cEq rfl ?_
    refine cEq rfl ?_
    refine cEq rfl ?_
    refine cEq rfl ?_
    refine cEq rfl ?_
    refine cEq rfl ?_
    refine cEq rfl ?_
    refine cEq rfl ?_
    refine cEq rfl ?_
    refine cEq rfl ?_
    refine cEq rfl ?_
    refine cEq rfl ?_
    refine cEq rfl ?_
    refine cEq rfl ?_
    refine cEq rfl ?_
    refine cEq rfl ?_
    refine cEq rfl ?_
    refine cEq rfl ?_
    refine cEq rfl ?_
    refine cEq rfl ?_
    refine cEq rfl ?_
    refine cEq rfl ?_
    refine cEq rfl ?_
    refine cEq rfl ?_
    refine cEq rfl ?_
    refine cEq rfl ?_
    refine cEq rfl ?_
    refine cEq rfl ?_
    refine cEq rfl ?_
    refine cEq rfl ?_
    refine cEq rfl ?_
    refine cEq rfl ?_
    refine cEq rfl ?_
    refine cEq rfl ?_
    refine cEq rfl ?_
    refine cEq rfl ?_
    refine cEq rfl ?_
    refine cEq rfl ?_
    refine cEq rfl ?_
    refine cEq rfl ?_
    refine cEq rfl ?_
    refine cEq rfl ?_
    refine cEq rfl ?_
    refine cEq rfl ?_
    refine cEq rfl ?_
    refine cEq rfl ?_
    refine cEq rfl ?_
    refine cEq rfl ?_
    refine cEq rfl ?_
    refine cEq rfl ?_
    refine cEq rfl ?_
    refine cEq rfl ?_
    refine cEq rfl ?_
    refine cEq rfl ?_
    refine cEq rfl ?_
    refine cEq rfl ?_
    refine cEq rfl ?_
    refine cEq rfl ?_
    refine cEq rfl ?_
    refine cEq rfl ?_
    refine cEq rfl ?_
    refine cEq rfl ?_
    refine cEq rfl ?_
    refine cEq rfl ?_
    refine cEq rfl ?_
    refine cEq rfl ?_
    refine cEq rfl ?_
    refine cEq rfl ?_
    refine cEq rfl ?_
    refine cEq rfl ?_
    refine cEq rfl ?_
    refine cEq rfl ?_
    refine cEq rfl ?_
    refine cEq rfl ?_
    refine cEq rfl ?_
    refine cEq rfl ?_
    refine cEq rfl ?_
    refine cEq rfl ?_
    refine cEq rfl ?_
    refine cEq rfl ?_
    refine cEq rfl ?_
    refine cEq rfl ?_
    refine cEq rfl ?_
    refine cEq rfl ?_
    refine cEq rfl ?_
    refine cEq rfl ?_
    refine cEq rfl ?_
    refine cEq rfl ?_
    refine cEq rfl ?_
    refine cEq rfl ?_
    refine cEq rfl ?_
    refine cEq rfl ?_
    refine cEq rfl ?_
    refine cEq rfl ?_
    refine cEq rfl ?_
    refine cEq rfl ?_
    refine cEq rfl ?_
    refine cEq rfl ?_
    refine cEq rfl ?_
    refine cEq rfl ?_
    refine cEq rfl ?_
    refine cEq rfl ?_
    refine cEq rfl ?_
    refine cEq rfl ?_
    refine cEq rfl ?_
    refine cEq rfl ?_
    refine cEq rfl ?_
    refine cEq rfl ?_
    refine cEq rfl ?_
    refine cEq rfl ?_
    refine cEq rfl ?_
    rfl
