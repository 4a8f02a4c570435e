/-! ===== other ===== -/
theorem CI.f3 {S : Mem} {tp : Nat} {sg : Nat → Int32} {fp : Int32} {r : Nat → Int32} {w : Nat → Int64} {H : HL} {S' : Mem} (h : CI S tp sg fp r w H) (f : ∀ c, c < 123 → S'.1 c = S.1 c ∧ S'.2 c = S.2 c) : CI S' tp sg fp r w H := by
  obtain ⟨a, b, ⟨c1, c2, c3⟩, ⟨n, m, ns, d⟩, e⟩ := h
  refine ⟨by rw [(f 0 (by decide)).1]; exact a, fun i hi => by rw [(f 0 (by decide)).1]; exact b i hi, ⟨by rw [(f 121 (by decide)).1]; exact c1, c2, fun i hi => by rw [(f 122 (by decide)).1]; exact c3 i hi⟩, ⟨n, m, ns, d.same (sameDesk_of d.1.2.1 d.1.2.2.2.1 (fun c x y => f c (by omega)))⟩, e.move (f 101 (by decide)).1 (fun c x y => (f c (by omega)).2)⟩
theorem MI.tr {S : Mem} {tp : Nat} {sg : Nat → Int32} {fp : Int32} {r : Nat → Int32} {w : Nat → Int64} {H : HL} (h : MI S tp sg fp r w H) (X : Nat → Nat → Int64) (hX : ∀ c, c ≠ 143 → X c = S.2 c) : MI (S.1, X) tp sg fp r w H ∧ FC S (S.1, X) := by
  obtain ⟨a, b, c, d, ⟨e1, e2, e3⟩⟩ := h
  exact ⟨⟨a, b, c, fun i hi => by show X 141 i = w i; rw [hX 141 (by decide)]; exact d i hi, ⟨e1, e2, fun i hi j hj => by show X (145 + (H.length - 1 - i)) j = _; rw [hX _ (by omega)]; exact e3 i hi j hj⟩⟩, fun c hc => ⟨rfl, hX c (by omega)⟩⟩
theorem givR.move {S S' : Mem} {w : Nat → Int64} {q o : Nat} (h : givR S w q o) (e1 : ∀ c, c ≠ q → S'.1 c = S.1 c) (e2 : ∀ j, j < 5 → S'.1 q j = S.1 q j) (e3 : ∀ c, (q < c ∧ c < q + 4) ∨ c = q + 5 → S'.2 c = S.2 c) : givR S' w q o := by
  obtain ⟨g1, g2, g3, g4, g5, g6, g7, g8⟩ := h
  refine ⟨fun j hj => ?_, fun j hj => ?_, ?_, ?_, fun j x y => ?_, ?_, ?_, ?_⟩
  · rw [e1 _ (by omega)]; exact g1 j hj
  · rw [e3 _ (by omega)]; exact g2 j hj
  · rw [e2 _ (by decide)]; exact g3
  · rw [e3 _ (by omega)]; exact g4
  · rw [e3 _ (by omega)]; exact g5 j x y
  · rw [e2 _ (by decide)]; exact g6
  · rw [e1 _ (by omega)]; exact g7
  · rw [e1 _ (by omega)]; exact g8
theorem givR_giv {S S' : Mem} {w : Nat → Int64} {q m o : Nat} (g : givC S S' q m) (h : monR S w m o) : givR S' w q o := by
  obtain ⟨⟨a1, a2, a3, a4, a5, a6⟩, b, -, -⟩ := g
  obtain ⟨⟨g1, g2, g3, g4, g5, g6, g7, g8⟩, -⟩ := h
  refine ⟨fun j hj => ?_, fun j hj => ?_, ?_, ?_, fun j x y => ?_, ?_, ?_, ?_⟩
  · rcases (show j = 0 ∨ j = 1 by omega) with rfl | rfl
    · rw [a1]; exact g1 0 (by decide)
    · rw [a2]; exact g1 1 (by decide)
  · rw [(b j hj).1]; exact g2 j hj
  · rw [a5]; exact g3
  · rw [(b 0 (by decide)).2]; exact g4
  · rw [(b j y).2]; exact g5 j x y
  · rw [a6]; exact g6
  · rw [a3]; exact g7
  · rw [a4]; exact g8
theorem mon126 : isMon 126 := ⟨rfl, ⟨rfl, rfl⟩, ⟨rfl, rfl⟩, fun j hj => by rcases (show j = 0 ∨ j = 1 ∨ j = 2 ∨ j = 3 ∨ j = 4 ∨ j = 5 ∨ j = 6 by omega) with rfl | rfl | rfl | rfl | rfl | rfl | rfl <;> rfl⟩
def wyO (w : Nat → Int64) (d : Nat) : Int32 := 1 - (w (5 + 9 * d)).toInt32
/-- what other answers -/
def otV (w : Nat → Int64) (d : Nat) (v : Int64) : Prop := (w 3 = 0 → v = -1) ∧ (¬ w 3 = 0 → ¬ canW w d (wyO w d) → v = -1) ∧ (¬ w 3 = 0 → canW w d (wyO w d) → v = cOT w d (wyO w d))
theorem otV_eq {w : Nat → Int64} {d : Nat} {a b : Int64} (ha : otV w d a) (hb : otV w d b) : a = b := by
  by_cases h : w 3 = 0
  · rw [ha.1 h, hb.1 h]
  · by_cases c : canW w d (wyO w d)
    · rw [ha.2.2 h c, hb.2.2 h c]
    · rw [ha.2.1 h c, hb.2.1 h c]
set_option maxHeartbeats 2000000 in
theorem e_cOther {S : Mem} {tp : Nat} {sg : Nat → Int32} {fp : Int32} {r : Nat → Int32} {w : Nat → Int64} {H : HL} {n m : Nat} (hI : CI S tp sg fp r w H) (hf : WFt w n m) (hr : ∀ d, d < n → rgM w d) (x : Int32) {Qr : QR} {Qx : QX} (hE : ¬ (∃ d, d < n ∧ x = nI d) → Qx "java/util/NoSuchElementException" (refC S 0)) (h1 : ∀ d v, d < n → x = nI d → otV w d v → ∀ S', CI S' tp sg fp r w H → FM S S' → Qr (some (.long v)) S') : vsp 156 9 (sX9_other 156) [.ref 0, .int x] S Qr Qx := by
  obtain ⟨ns, hD⟩ := hI.desk hf
  have hn5 := hf.1
  have t1 : tyN 156 1 = (0, 1, 0, 0) := rfl
  refine ⟨tP, runG rfl 120 ⟨⟨Nat.le_of_ble_eq_true rfl, Nat.le_of_ble_eq_true rfl, Nat.le_of_ble_eq_true rfl⟩, e_needDepartment x S hD.1.1 hn5 (fun d hd e => ?_) hE⟩⟩
  have hk := depN (N := 156) (d := d) (by decide) (by omega)
  have hq : isMon ((4 + 17 * d) + 5) := hk.2.2.2.2
  have dW := hD.2.2.2.1 d hd
  have hM := dW.2.2.2.1
  rw [show 9 + 17 * d = (4 + 17 * d) + 5 by omega] at hM
  have w3 : (S.1 1 5).toInt64 = w 3 := hD.2.1 1 (by decide)
  have z3 : S.1 1 5 = 0 ↔ w 3 = 0 := eq64 w3 (show (0 : Int32).toInt64 = 0 from rfl)
  refine ⟨tP, t1, And.intro (fun q => ⟨tP, hk.1, ⟨Nat.le_of_ble_eq_true rfl, Nat.le_of_ble_eq_true rfl, Nat.le_of_ble_eq_true rfl⟩, e_copyGiven mon126 hq (by omega) S (fun S1 g => ⟨hk.1, ?_⟩)⟩) (fun q => ⟨rfl, h1 d (-1) hd e ⟨fun _ => rfl, fun z => absurd (z3.mp q) z, fun z => absurd (z3.mp q) z⟩ S hI FM.re⟩)⟩
  have q : ¬ w 3 = 0 := fun z => q (z3.mpr z)
  have hG := givR_giv g hM
  obtain ⟨-, -, g1, g2⟩ := g
  have hD1 : deskR S1 w n m ns := hD.same (sameDesk_of hD.1.2.1 hD.1.2.2.2.1 (fun c p q => ⟨g1 c (by omega), g2 c (by omega)⟩))
  have hw' := hf.2.2.2.2.2.1 d hd
  have wy : (S1.1 (4 + 17 * d) 0).toInt64 = w (5 + 9 * d) := (hD1.2.2.2.1 d hd).1.1
  have ey : S1.1 (4 + 17 * d) 0 = (w (5 + 9 * d)).toInt32 := l_i wy
  have mono : ∀ way : Int32, way = wyO w d → (way = 0 ∨ way = 1) → ∀ (Q' : QR), (∀ S', Qr (some (.long (-1))) S' → Q' (some (.int 0)) S') → (∀ S', Qr (some (.long (S'.2 126 17))) S' → Q' (some (.int 1)) S') → vsp 156 4 (sX4_reckon 156) [.ref 126, .ref (4 + 17 * d), .int way] S1 Q' Qx := fun way hy h01 Q' q0 q1 => by
    refine e_reckon mon126 hk (by omega) way S1 (fun nc => q0 _ ?_) (fun ca S' r1 r2 r3 r4 => q1 _ ?_)
    · have nc' : ¬ canW w d (wyO w d) := fun z => nc ((canC_W hG (hr d hd)).mpr (by rw [hy]; exact z))
      refine h1 d _ hd e ⟨fun z => absurd z q, fun _ _ => rfl, fun _ z => absurd z nc'⟩ _ (hI.f3 (fun c hc => ⟨?_, g2 c (by omega)⟩)) (fun c hc => ⟨?_, g2 c (by omega)⟩)
      · exact (u2_other _ _ _ (by omega)).trans (g1 c (by omega))
      · exact (u2_other _ _ _ (by omega)).trans (g1 c (by omega))
    · have hG' : givR S' w 126 (131 + 55 * d) := hG.move r2 (fun j hj => r3 j (by omega)) (fun c hc => r4 c (by omega))
      have hD2 : deskR S' w n m ns := hD1.same (sameDesk_of hD.1.2.1 hD.1.2.2.2.1 (fun c p q => ⟨r2 c (by omega), r4 c (by omega)⟩))
      have mR := monR_of h01 hG' (hr d hd) (hD2.2.2.2.1 d hd).1 hw' r1
      have ev : S'.2 126 17 = cOT w d (wyO w d) := by
        rw [← mR.2.2.2.2.2.2.2.2, ← hy]; exact (ctW_l w d way).2.2.2.2
      have ca' : canW w d (wyO w d) := by rw [← hy]; exact (canC_W hG (hr d hd)).mp ca
      refine h1 d _ hd e ⟨fun z => absurd z q, fun _ z => absurd ca' z, fun _ _ => ev⟩ S' (hI.f3 (fun c hc => ⟨?_, ?_⟩)) (fun c hc => ⟨?_, ?_⟩)
      · exact (r2 c (by omega)).trans (g1 c (by omega))
      · exact (r4 c (by omega)).trans (g2 c (by omega))
      · exact (r2 c (by omega)).trans (g1 c (by omega))
      · exact (r4 c (by omega)).trans (g2 c (by omega))
  have ow : w (5 + 9 * d) = 0 ∨ w (5 + 9 * d) = 1 := hw'.1
  refine And.intro (fun a => ⟨tP, ⟨Nat.le_of_ble_eq_true rfl, Nat.le_of_ble_eq_true rfl, Nat.le_of_ble_eq_true rfl⟩, mono 0 ?_ (Or.inl rfl) _ (fun S' h => And.intro (fun _ => ⟨rfl, h⟩) (fun z => absurd rfl z)) (fun S' h => And.intro (fun z => absurd z (by decide)) (fun _ => ⟨tP, rfl, rfl, h⟩))⟩) (fun a => ⟨tP, ⟨Nat.le_of_ble_eq_true rfl, Nat.le_of_ble_eq_true rfl, Nat.le_of_ble_eq_true rfl⟩, mono 1 ?_ (Or.inr rfl) _ (fun S' h => And.intro (fun _ => ⟨rfl, h⟩) (fun z => absurd rfl z)) (fun S' h => And.intro (fun z => absurd z (by decide)) (fun _ => ⟨tP, rfl, rfl, h⟩))⟩)
  · unfold wyO
    rcases ow with z | z
    · exact absurd (show S1.1 (4 + 17 * d) 0 = 0 by rw [ey, z]; rfl) a
    · rw [z]; decide
  · have a : S1.1 (4 + 17 * d) 0 = 0 := a
    unfold wyO
    rw [← ey, a]; decide
set_option maxHeartbeats 2000000 in
theorem e_mOther {S : Mem} {tp : Nat} {sg : Nat → Int32} {fp : Int32} {r : Nat → Int32} {w : Nat → Int64} {H : HL} {n m : Nat} (hI : MI S tp sg fp r w H) (hf : WFt w n m) (hw : cpr S.2 141 143 754 143 = w) (x : Int32) {Qr : QR} {Qx : QX} (hE : ¬ (∃ d, d < n ∧ x = nI d) → ∀ S', MI S' tp sg fp (bmp r 0) w H → FC S S' → S'.1 138 0 = 1 → Qr (some (.long 0)) S')
    (h1 : ∀ d v, d < n → x = nI d → otV w d v → ∀ S', MI S' tp sg fp r w H → FC S S' → S'.1 138 0 = 0 → Qr (some (.long v)) S') : vsp 156 10 (sX10_other 156) [.ref 138, .int x] S Qr Qx := by
  obtain ⟨i0, f0⟩ := hI.thr 0
  have t0 : (th0 S).1 138 0 = 0 := u2_s S.1 138 0 0
  have hn5 := hf.1
  have nw : NwR (th0 S) w := i0.2.2.2.1
  have s0 : (th0 S).2 141 0 = lN n := (nw 0 (by decide)).trans hf.2.2.1
  obtain ⟨ib0, fb0, eb0⟩ := i0.bad 1 (i := 0) (by decide)
  refine ⟨tM, runG rfl 160 ⟨tM, ⟨Nat.le_of_ble_eq_true rfl, Nat.le_of_ble_eq_true rfl, Nat.le_of_ble_eq_true rfl⟩, e_isDept x (th0 S) s0 hn5 (fun d hd e => And.intro (fun _ => ⟨⟨Nat.le_of_ble_eq_true rfl, Nat.le_of_ble_eq_true rfl, Nat.le_of_ble_eq_true rfl⟩, e_bad (r := 0) (by decide) 0 1 (th0 S) t0 (by decide) (fun z => absurd rfl z) (fun _ => And.intro (fun _ => ?_) (fun z => absurd rfl z))⟩) (fun z => absurd z (by decide))) (fun q => And.intro (fun z => absurd rfl z) (fun _ => ⟨⟨Nat.le_of_ble_eq_true rfl, Nat.le_of_ble_eq_true rfl, Nat.le_of_ble_eq_true rfl⟩, e_bad (r := 0) (by decide) 1 1 (th0 S) t0 (by decide) (fun _ => And.intro (fun z => absurd z (by decide)) (fun _ => ⟨rfl, hE q _ ib0 (f0.trans fb0) eb0⟩)) (fun z => absurd z (by decide))⟩))⟩⟩
  have e3 : (th0 S).2 141 (nI 3).toNatClampNeg = w 3 := by rw [nI_clamp (by omega)]; exact nw 3 (by decide)
  refine ⟨tM, 754, tNow, vp_nI (n := 3) (by decide), And.intro (fun q => ?_) (fun q => ⟨rfl, ?_⟩)⟩
  · have q : ¬ w 3 = 0 := fun z => q ((lg_cmp_eq _ _).mpr (e3.trans z))
    subst e
    refine ⟨tM, tM, ⟨Nat.le_of_ble_eq_true rfl, Nat.le_of_ble_eq_true rfl, Nat.le_of_ble_eq_true rfl⟩, e_copies tNow tTri (by decide) (th0 S) ⟨tM, ⟨Nat.le_of_ble_eq_true rfl, Nat.le_of_ble_eq_true rfl, Nat.le_of_ble_eq_true rfl⟩, e_of (x := 0) (by omega) (by decide) _ ⟨⟨Nat.le_of_ble_eq_true rfl, Nat.le_of_ble_eq_true rfl, Nat.le_of_ble_eq_true rfl⟩, ?_⟩⟩⟩
    have c1 : cpr S.2 141 143 754 141 (5 + 9 * d + 0) = w (5 + 9 * d) := by
      rw [cpr_k (show (141 : Nat) ≠ 143 by decide)]; exact nw _ (by omega)
    have hy : nI 1 - (cpr S.2 141 143 754 141 (5 + 9 * d + 0)).toInt32 = wyO w d := by rw [c1]; rfl
    obtain ⟨i1, f1⟩ := i0.tr (cpr S.2 141 143 754) (fun c hc => funext fun i => cpr_k hc)
    refine e_counts (by omega) _ w _ hw (fun nc => And.intro (fun _ => ⟨rfl, ?_⟩) (fun z => absurd rfl z)) (fun ca X x1 x2 => And.intro (fun z => absurd z (by decide)) (fun _ => ⟨tM, ⟨Nat.le_of_ble_eq_true rfl, Nat.le_of_ble_eq_true rfl, Nat.le_of_ble_eq_true rfl⟩, e_latest d 54 _ ⟨754, tTri, vp_nI (by omega), rfl, ?_⟩⟩))
    · have nc : ¬ canW w d (nI 1 - (cpr S.2 141 143 754 141 (5 + 9 * d + 0)).toInt32) := nc
      rw [hy] at nc
      exact h1 d _ hd rfl ⟨fun z => absurd z q, fun _ _ => rfl, fun _ z => absurd z nc⟩ _ i1 (f0.trans f1) t0
    · have ca : canW w d (nI 1 - (cpr S.2 141 143 754 141 (5 + 9 * d + 0)).toInt32) := ca
      have x1 : X 143 = ctW w d (nI 1 - (cpr S.2 141 143 754 141 (5 + 9 * d + 0)).toInt32) := x1
      rw [hy] at ca x1
      obtain ⟨i2, f2⟩ := i1.tr X x2
      have ev : X 143 (nI ((131 + 55 * d) + 54)).toNatClampNeg = cOT w d (wyO w d) := by rw [nI_clamp (by omega), x1]; exact (ctW_l w d (wyO w d)).2.2.2.2
      exact h1 d _ hd rfl ⟨fun z => absurd z q, fun _ z => absurd ca z, fun _ _ => ev⟩ _ i2 (f0.trans (f1.trans f2)) t0
  · have q : w 3 = 0 := e3.symm.trans ((lg_cmp_eq _ _).mp q)
    exact h1 d _ hd e ⟨fun _ => rfl, fun z => absurd q z, fun z => absurd q z⟩ _ i0 f0 t0
