/-! ===== what is asked of the class: months, products, accounts ===== -/
/-- the layers of product p -/
def lyN (w : Nat → Int64) (p : Nat) : Nat := cnt w (418 + 83 * p)
theorem proW.ly {S : Mem} {w : Nat → Int64} {p k : Nat} (h : proW S w p k) : k = lyN w p := by
  have h7 := h.2.2.2.2.2.2.1
  unfold lyN cnt
  rw [h.2.2.2.2.2.1, lN_clamp (by omega)]
set_option maxHeartbeats 1000000 in
theorem e_cAsDone {S : Mem} {tp : Nat} {sg : Nat → Int32} {fp : Int32} {r : Nat → Int32} {w : Nat → Int64} {H : HL} {n m : Nat} (hI : CI S tp sg fp r w H) (hf : WFt w n m) (x y z : Int32) {Qr : QR} {Qx : QX} (hE : ¬ (∃ d, d < n ∧ x = nI d ∧ kndP y 0 (mtN w d)) → Qx "java/util/NoSuchElementException" (refC S 0)) (hA : ∀ d, d < n → x = nI d → kndP y 0 (mtN w d) → ¬ inR z 0 3 → Qx "java/lang/IllegalArgumentException" (refC S 1)) (h1 : ∀ d k j, d < n → x = nI d → k < 4 → y = nI k → kndP y 0 (mtN w d) → j ≤ 3 → z = nI j → Qr (some (.int (w (149 + 55 * d + 4 * k + j)).toInt32)) S) : vsp 156 9 (sX9_asDone 156) [.ref 0, .int x, .int y, .int z] S Qr Qx := by
  obtain ⟨ns, hD⟩ := hI.desk hf
  have hn5 := hf.1
  refine ⟨tP, runG rfl 80 ⟨⟨Nat.le_of_ble_eq_true rfl, Nat.le_of_ble_eq_true rfl, Nat.le_of_ble_eq_true rfl⟩, e_needDepartment x S hD.1.1 hn5 (fun d hd e => ⟨⟨Nat.le_of_ble_eq_true rfl, Nat.le_of_ble_eq_true rfl, Nat.le_of_ble_eq_true rfl⟩, ?_⟩) (fun q => hE (fun ⟨d, a, b, _⟩ => q ⟨d, a, b⟩))⟩⟩
  have dW := hD.2.2.2.1 d hd
  obtain ⟨m1, m2, m3, m4⟩ := dW.1.mt
  have hk := depN (N := 156) (d := d) (by decide) (by omega)
  have hq := hk.2.2.2.2
  refine e_needKind (l := 0) hk.1 y S m1 m2 (by decide) (fun kp => ⟨⟨Nat.le_of_ble_eq_true rfl, Nat.le_of_ble_eq_true rfl, Nat.le_of_ble_eq_true rfl⟩, e_needW z 0 3 (by decide) (by decide) S (fun j j1 j2 e3 => ⟨hk.1, ?_⟩) (hA d hd e kp)⟩) (fun q => hE (fun ⟨d', a, b, kk⟩ => q (by
    have : d' = d := (nI_eq (by omega) (by omega)).mp (b.symm.trans e)
    subst this; exact kk)))
  have kp' := kp
  obtain ⟨k, k4, ey, -, -⟩ := kp'
  have ck : y.toNatClampNeg = k := by rw [ey]; exact nI_clamp (by omega)
  have vk : vp_in y 4 := by rw [ey]; exact vp_nI k4
  obtain ⟨g1, g2, g3, g4, -⟩ := dW.2.2.2.1.2.2.2.2.1 k k4
  rw [show 9 + 17 * d = 4 + 17 * d + 5 by omega] at g1 g2 g3 g4
  refine ⟨fun q => ?_, fun q => ?_, fun q => ?_, fun q => ?_, trivial⟩
  · have q := sw_d (n := 3) e3 j2 (by decide) q
    subst q
    refine ⟨hq.1, 4, hq.2.2.2 3 (by decide), vk, ?_⟩
    show Qr (some (.int (S.2 (4 + 17 * d + 5 + 8) y.toNatClampNeg).toInt32)) S
    have := h1 d k 3 hd e k4 ey kp (by decide) e3
    rw [show 149 + 55 * d + 4 * k + 3 = 131 + 55 * d + 21 + 4 * k by omega, g4] at this
    rw [ck]; exact this
  · refine ⟨⟨Nat.le_of_ble_eq_true rfl, Nat.le_of_ble_eq_true rfl, Nat.le_of_ble_eq_true rfl⟩, ?_⟩
    show vsp 156 4 (sX4_allDone 156) [.ref (4 + 17 * d + 5), .int y] S _ _
    rw [ey]
    refine e_allDone (isMon_of hq) k4 S ?_
    have := h1 d k 0 hd e k4 ey kp (by decide) q
    rw [show 149 + 55 * d + 4 * k + 0 = 131 + 55 * d + 18 + 4 * k by omega, g1] at this
    exact this
  · refine ⟨hq.1, 4, hq.2.2.2 1 (by decide), vk, ?_⟩
    show Qr (some (.int (S.2 (4 + 17 * d + 5 + 6) y.toNatClampNeg).toInt32)) S
    have := h1 d k 1 hd e k4 ey kp (by decide) q
    rw [show 149 + 55 * d + 4 * k + 1 = 131 + 55 * d + 19 + 4 * k by omega, g2] at this
    rw [ck]; exact this
  · refine ⟨hq.1, 4, hq.2.2.2 2 (by decide), vk, ?_⟩
    show Qr (some (.int (S.2 (4 + 17 * d + 5 + 7) y.toNatClampNeg).toInt32)) S
    have := h1 d k 2 hd e k4 ey kp (by decide) q
    rw [show 149 + 55 * d + 4 * k + 2 = 131 + 55 * d + 20 + 4 * k by omega, g3] at this
    rw [ck]; exact this
set_option maxHeartbeats 1000000 in
theorem e_cCents {S : Mem} {tp : Nat} {sg : Nat → Int32} {fp : Int32} {r : Nat → Int32} {w : Nat → Int64} {H : HL} {n m : Nat} (hI : CI S tp sg fp r w H) (hf : WFt w n m) (x y z : Int32) {Qr : QR} {Qx : QX} (hE : ¬ (∃ d, d < n ∧ x = nI d ∧ kndP y 0 (mtN w d)) → Qx "java/util/NoSuchElementException" (refC S 0)) (hA : ∀ d, d < n → x = nI d → kndP y 0 (mtN w d) → ¬ inR z 0 3 → Qx "java/lang/IllegalArgumentException" (refC S 1)) (h1 : ∀ d k j, d < n → x = nI d → k < 4 → y = nI k → kndP y 0 (mtN w d) → j ≤ 3 → z = nI j → Qr (some (.long (w (165 + 55 * d + 4 * k + j)))) S) : vsp 156 9 (sX9_cents 156) [.ref 0, .int x, .int y, .int z] S Qr Qx := by
  obtain ⟨ns, hD⟩ := hI.desk hf
  have hn5 := hf.1
  refine ⟨tP, runG rfl 80 ⟨⟨Nat.le_of_ble_eq_true rfl, Nat.le_of_ble_eq_true rfl, Nat.le_of_ble_eq_true rfl⟩, e_needDepartment x S hD.1.1 hn5 (fun d hd e => ⟨⟨Nat.le_of_ble_eq_true rfl, Nat.le_of_ble_eq_true rfl, Nat.le_of_ble_eq_true rfl⟩, ?_⟩) (fun q => hE (fun ⟨d, a, b, _⟩ => q ⟨d, a, b⟩))⟩⟩
  have dW := hD.2.2.2.1 d hd
  obtain ⟨m1, m2, m3, m4⟩ := dW.1.mt
  have hk := depN (N := 156) (d := d) (by decide) (by omega)
  have hq := hk.2.2.2.2
  refine e_needKind (l := 0) hk.1 y S m1 m2 (by decide) (fun kp => ⟨⟨Nat.le_of_ble_eq_true rfl, Nat.le_of_ble_eq_true rfl, Nat.le_of_ble_eq_true rfl⟩, e_needW z 0 3 (by decide) (by decide) S (fun j j1 j2 e3 => ⟨hk.1, ?_⟩) (hA d hd e kp)⟩) (fun q => hE (fun ⟨d', a, b, kk⟩ => q (by
    have : d' = d := (nI_eq (by omega) (by omega)).mp (b.symm.trans e)
    subst this; exact kk)))
  have kp' := kp
  obtain ⟨k, k4, ey, -, -⟩ := kp'
  have ck : y.toNatClampNeg = k := by rw [ey]; exact nI_clamp (by omega)
  have vk : vp_in y 4 := by rw [ey]; exact vp_nI k4
  obtain ⟨-, -, -, -, g1, g2, g3, g4⟩ := dW.2.2.2.1.2.2.2.2.1 k k4
  rw [show 9 + 17 * d = 4 + 17 * d + 5 by omega] at g1 g2 g3 g4
  refine ⟨fun q => ?_, fun q => ?_, fun q => ?_, fun q => ?_, trivial⟩
  · have q := sw_d (n := 3) e3 j2 (by decide) q
    subst q
    refine ⟨hq.1, 4, hq.2.2.2 6 (by decide), vk, rfl, ?_⟩
    show Qr (some (.long (S.2 (4 + 17 * d + 5 + 11) y.toNatClampNeg))) S
    have := h1 d k 3 hd e k4 ey kp (by decide) e3
    rw [show 165 + 55 * d + 4 * k + 3 = 131 + 55 * d + 37 + 4 * k by omega, g4] at this
    rw [ck]; exact this
  · refine ⟨hq.1, 4, hq.2.2.2 4 (by decide), vk, rfl, ?_⟩
    show Qr (some (.long (S.2 (4 + 17 * d + 5 + 9) y.toNatClampNeg))) S
    have := h1 d k 0 hd e k4 ey kp (by decide) q
    rw [show 165 + 55 * d + 4 * k + 0 = 131 + 55 * d + 34 + 4 * k by omega, g1] at this
    rw [ck]; exact this
  · refine ⟨hq.1, 4, hq.2.2.2 5 (by decide), vk, rfl, ?_⟩
    show Qr (some (.long (S.2 (4 + 17 * d + 5 + 10) y.toNatClampNeg))) S
    have := h1 d k 1 hd e k4 ey kp (by decide) q
    rw [show 165 + 55 * d + 4 * k + 1 = 131 + 55 * d + 35 + 4 * k by omega, g2] at this
    rw [ck]; exact this
  · refine ⟨hq.1, hq.2.2.1.1, 4, hq.2.2.1.2, vk, rfl, ?_⟩
    show Qr (some (.long (S.2 (4 + 17 * d + 5 + 4) y.toNatClampNeg))) S
    have := h1 d k 2 hd e k4 ey kp (by decide) q
    rw [show 165 + 55 * d + 4 * k + 2 = 131 + 55 * d + 36 + 4 * k by omega, g3] at this
    rw [ck]; exact this
set_option maxHeartbeats 1000000 in
theorem e_cLoss {S : Mem} {tp : Nat} {sg : Nat → Int32} {fp : Int32} {r : Nat → Int32} {w : Nat → Int64} {H : HL} {n m : Nat} (hI : CI S tp sg fp r w H) (hf : WFt w n m) (x y : Int32) {Qr : QR} {Qx : QX} (hE : ¬ (∃ d, d < n ∧ x = nI d) → Qx "java/util/NoSuchElementException" (refC S 0)) (hA : ∀ d, d < n → x = nI d → ¬ inR y 0 4 → Qx "java/lang/IllegalArgumentException" (refC S 1)) (h1 : ∀ d k, d < n → x = nI d → k ≤ 4 → y = nI k → Qr (some (.long (w (181 + 55 * d + k)))) S) : vsp 156 9 (sX9_loss 156) [.ref 0, .int x, .int y] S Qr Qx := by
  obtain ⟨ns, hD⟩ := hI.desk hf
  have hn5 := hf.1
  refine ⟨tP, runG rfl 80 ⟨⟨Nat.le_of_ble_eq_true rfl, Nat.le_of_ble_eq_true rfl, Nat.le_of_ble_eq_true rfl⟩, e_needDepartment x S hD.1.1 hn5 (fun d hd e => ?_) hE⟩⟩
  have hk := depN (N := 156) (d := d) (by decide) (by omega)
  have hq := hk.2.2.2.2
  have dW := hD.2.2.2.1 d hd
  obtain ⟨⟨-, -, -, -, -, b12, -, -⟩, -, -, -, -, g0, g1, g2, g4⟩ := dW.2.2.2.1
  have hz := dW.2.2.2.2
  have sc := dW.1.2.2.2.1
  rw [show 9 + 17 * d = 4 + 17 * d + 5 by omega] at b12 g0 g1 g2 g4
  refine ⟨⟨Nat.le_of_ble_eq_true rfl, Nat.le_of_ble_eq_true rfl, Nat.le_of_ble_eq_true rfl⟩, e_needW y 0 4 (by decide) (by decide) S (fun k k1 k2 e' => ⟨hk.1, fun q => ?_, fun q => ?_, fun q => ?_, fun q => ?_, fun q => ?_, trivial⟩) (hA d hd e)⟩
  · have q := sw_d (n := 4) e' k2 (by decide) q
    subst q
    refine ⟨hq.1, rfl, ?_⟩
    show Qr (some (.long (S.2 (4 + 17 * d + 5) 17))) S
    rw [← g4, show 131 + 55 * d + 54 = 181 + 55 * d + 4 by omega]; exact h1 d 4 hd e (by decide) e'
  · refine ⟨hq.1, rfl, ?_⟩
    show Qr (some (.long (S.2 (4 + 17 * d + 5) 14))) S
    rw [← g0, show 131 + 55 * d + 50 = 181 + 55 * d + 0 by omega]; exact h1 d 0 hd e (by decide) q
  · refine ⟨hq.1, rfl, ?_⟩
    show Qr (some (.long (S.2 (4 + 17 * d + 5) 15))) S
    rw [← g1, show 131 + 55 * d + 51 = 181 + 55 * d + 1 by omega]; exact h1 d 1 hd e (by decide) q
  · refine ⟨hq.1, rfl, ?_⟩
    show Qr (some (.long (S.2 (4 + 17 * d + 5) 16))) S
    rw [← g2, show 131 + 55 * d + 52 = 181 + 55 * d + 2 by omega]; exact h1 d 2 hd e (by decide) q
  · refine ⟨⟨Nat.le_of_ble_eq_true rfl, Nat.le_of_ble_eq_true rfl, Nat.le_of_ble_eq_true rfl⟩, e_scrap hk S ⟨rfl, ?_⟩⟩
    have := h1 d 3 hd e (by decide) q
    rw [show 181 + 55 * d + 3 = 184 + 55 * d by omega, hz] at this
    rw [b12, sc, show 131 + 55 * d + 12 = 143 + 55 * d by omega, show 5 + 9 * d + 3 = 8 + 9 * d by omega]
    exact this
theorem e_cParted {S : Mem} {tp : Nat} {sg : Nat → Int32} {fp : Int32} {r : Nat → Int32} {w : Nat → Int64} {H : HL} {n m : Nat} (hI : CI S tp sg fp r w H) (hf : WFt w n m) (x y : Int32) {Qr : QR} {Qx : QX} (hE : ¬ (∃ d, d < m ∧ x = nI d) → Qx "java/util/NoSuchElementException" (refC S 0)) (hA : ∀ d, d < m → x = nI d → ¬ inR y 0 2 → Qx "java/lang/IllegalArgumentException" (refC S 1)) (h1 : ∀ d k, d < m → x = nI d → k ≤ 2 → y = nI k → Qr (some (.long (w (406 + 3 * d + k)))) S) : vsp 156 9 (sX9_parted 156) [.ref 0, .int x, .int y] S Qr Qx := by
  obtain ⟨ns, hD⟩ := hI.desk hf
  have hm4 := hf.2.1
  refine ⟨tP, runG rfl 80 ⟨⟨Nat.le_of_ble_eq_true rfl, Nat.le_of_ble_eq_true rfl, Nat.le_of_ble_eq_true rfl⟩, e_needProduct x S hD.1.2.2.1 hm4 (fun d hd e => ⟨⟨Nat.le_of_ble_eq_true rfl, Nat.le_of_ble_eq_true rfl, Nat.le_of_ble_eq_true rfl⟩, e_needW y 0 2 (by decide) (by decide) S (fun k k1 k2 e' => ?_) (hA d hd e)⟩) hE⟩⟩
  have hk := proN (N := 156) (p := d) (by decide) (by omega)
  obtain ⟨-, b0, b1, b2, -⟩ := hD.2.2.2.2 d hd
  refine ⟨fun q => ⟨hk.1, rfl, ?_⟩, fun q0 => ⟨fun q => ⟨hk.1, rfl, ?_⟩, fun q1 => ⟨hk.1, rfl, ?_⟩⟩⟩
  · show Qr (some (.long (S.1 (89 + 3 * d) 4).toInt64)) S
    rw [b0]; exact h1 d 0 hd e (by decide) q
  · show Qr (some (.long (S.2 (89 + 3 * d) 5))) S
    rw [b1, show 407 + 3 * d = 406 + 3 * d + 1 by omega]; exact h1 d 1 hd e (by decide) q
  · have : k = 2 := by
      rcases (show k = 0 ∨ k = 1 ∨ k = 2 by omega) with rfl | rfl | z
      · exact absurd e' q0
      · exact absurd e' q1
      · exact z
    subst this
    show Qr (some (.long (S.2 (89 + 3 * d) 6))) S
    rw [b2, show 408 + 3 * d = 406 + 3 * d + 2 by omega]; exact h1 d 2 hd e (by decide) e'
/-- what a product's layers hold: 0 units, 1 cents -/
def stV (w : Nat → Int64) (p k : Nat) : Int64 := sumN (fun i => w (419 + 83 * p + 2 * i + k)) (lyN w p)
def stW (w : Nat → Int64) (p k : Nat) : Int64 := if k = 2 then w (418 + 83 * p) else stV w p k
theorem proW.su {S : Mem} {w : Nat → Int64} {p k : Nat} (h : proW S w p k) : sumN (S.2 (89 + 3 * p + 1)) k = stV w p 0 ∧ sumN (S.2 (89 + 3 * p + 2)) k = stV w p 1 := by
  have e := h.ly
  have g := h.2.2.2.2.2.2.2
  unfold stV
  rw [← e]
  refine ⟨sumN_congr (fun i hi => ?_), sumN_congr (fun i hi => ?_)⟩
  · rw [show 89 + 3 * p + 1 = 90 + 3 * p by omega]; exact (g i hi).1
  · rw [show 89 + 3 * p + 2 = 91 + 3 * p by omega, show 419 + 83 * p + 2 * i + 1 = 420 + 83 * p + 2 * i by omega]; exact (g i hi).2
theorem e_cStore {S : Mem} {tp : Nat} {sg : Nat → Int32} {fp : Int32} {r : Nat → Int32} {w : Nat → Int64} {H : HL} {n m : Nat} (hI : CI S tp sg fp r w H) (hf : WFt w n m) (x y : Int32) {Qr : QR} {Qx : QX} (hE : ¬ (∃ d, d < m ∧ x = nI d) → Qx "java/util/NoSuchElementException" (refC S 0)) (hA : ∀ d, d < m → x = nI d → ¬ inR y 0 2 → Qx "java/lang/IllegalArgumentException" (refC S 1)) (h1 : ∀ d k, d < m → x = nI d → k ≤ 2 → y = nI k → Qr (some (.long (stW w d k))) S) : vsp 156 9 (sX9_store 156) [.ref 0, .int x, .int y] S Qr Qx := by
  obtain ⟨ns, hD⟩ := hI.desk hf
  have hm4 := hf.2.1
  refine ⟨tP, runG rfl 80 ⟨⟨Nat.le_of_ble_eq_true rfl, Nat.le_of_ble_eq_true rfl, Nat.le_of_ble_eq_true rfl⟩, e_needProduct x S hD.1.2.2.1 hm4 (fun d hd e => ⟨⟨Nat.le_of_ble_eq_true rfl, Nat.le_of_ble_eq_true rfl, Nat.le_of_ble_eq_true rfl⟩, e_needW y 0 2 (by decide) (by decide) S (fun k k1 k2 e' => ?_) (hA d hd e)⟩) hE⟩⟩
  have hk := proN (N := 156) (p := d) (by decide) (by omega)
  have pW := hD.2.2.2.2 d hd
  obtain ⟨u1', u2'⟩ := pW.su
  have p7 := pW.2.2.2.2.1
  have p8 := pW.2.2.2.2.2.1
  have p9 := pW.2.2.2.2.2.2.1
  refine ⟨fun q => ⟨⟨Nat.le_of_ble_eq_true rfl, Nat.le_of_ble_eq_true rfl, Nat.le_of_ble_eq_true rfl⟩, e_unitsInStore hk S p7 p9 ⟨rfl, ?_⟩⟩, fun q0 => ⟨fun q => ⟨⟨Nat.le_of_ble_eq_true rfl, Nat.le_of_ble_eq_true rfl, Nat.le_of_ble_eq_true rfl⟩, e_centsInStore hk S p7 p9 ⟨rfl, ?_⟩⟩, fun q1 => ⟨hk.1, rfl, ?_⟩⟩⟩
  · rw [u1']; exact h1 d 0 hd e (by decide) q
  · rw [u2']; exact h1 d 1 hd e (by decide) q
  · have : k = 2 := by
      rcases (show k = 0 ∨ k = 1 ∨ k = 2 by omega) with rfl | rfl | z
      · exact absurd e' q0
      · exact absurd e' q1
      · exact z
    subst this
    show Qr (some (.long (S.1 (89 + 3 * d) 7).toInt64)) S
    rw [p7, nI_l (by omega), ← p8]; exact h1 d 2 hd e (by decide) e'
theorem e_cLayer {S : Mem} {tp : Nat} {sg : Nat → Int32} {fp : Int32} {r : Nat → Int32} {w : Nat → Int64} {H : HL} {n m : Nat} (hI : CI S tp sg fp r w H) (hf : WFt w n m) (x y z : Int32) {Qr : QR} {Qx : QX} (hE : ¬ (∃ d k, d < m ∧ x = nI d ∧ k < lyN w d ∧ y = nI k) → Qx "java/util/NoSuchElementException" (refC S 0)) (hA : ∀ d k, d < m → x = nI d → k < lyN w d → y = nI k → ¬ inR z 0 1 → Qx "java/lang/IllegalArgumentException" (refC S 1)) (h1 : ∀ d k j, d < m → x = nI d → k < lyN w d → y = nI k → j ≤ 1 → z = nI j → Qr (some (.long (w (419 + 83 * d + 2 * k + j)))) S) : vsp 156 9 (sX9_layer 156) [.ref 0, .int x, .int y, .int z] S Qr Qx := by
  obtain ⟨ns, hD⟩ := hI.desk hf
  have hm4 := hf.2.1
  refine ⟨tP, runG rfl 80 ⟨⟨Nat.le_of_ble_eq_true rfl, Nat.le_of_ble_eq_true rfl, Nat.le_of_ble_eq_true rfl⟩, e_needProduct x S hD.1.2.2.1 hm4 (fun d hd e => ⟨⟨Nat.le_of_ble_eq_true rfl, Nat.le_of_ble_eq_true rfl, Nat.le_of_ble_eq_true rfl⟩, ?_⟩) (fun q => hE (fun ⟨d, k, a, b, _⟩ => q ⟨d, a, b⟩))⟩⟩
  have hk := proN (N := 156) (p := d) (by decide) (by omega)
  have pW := hD.2.2.2.2 d hd
  have ly := pW.ly
  have p7 := pW.2.2.2.2.1
  have p9 := pW.2.2.2.2.2.2.1
  have g := pW.2.2.2.2.2.2.2
  rw [ly] at p7 p9 g
  refine e_needLayer hk.1 y S p7 p9 (fun k hkk ek => ⟨⟨Nat.le_of_ble_eq_true rfl, Nat.le_of_ble_eq_true rfl, Nat.le_of_ble_eq_true rfl⟩, e_needW z 0 1 (by decide) (by decide) S (fun j j1 j2 e3 => ?_) (hA d k hd e hkk ek)⟩) (fun q => hE (fun ⟨d', k, a, b, c, f⟩ => q (by
    have : d' = d := (nI_eq (by omega) (by omega)).mp (b.symm.trans e)
    subst this; exact ⟨k, c, f⟩)))
  have ck : y.toNatClampNeg = k := by rw [ek]; exact nI_clamp (by omega)
  have vk : vp_in y 40 := by rw [ek]; exact vp_nI (by omega)
  refine And.intro (fun q => ?_) (fun q => ?_)
  · have : j = 1 := by
      rcases (show j = 0 ∨ j = 1 by omega) with rfl | u
      · exact absurd e3 q
      · exact u
    subst this
    refine ⟨hk.1, 40, hk.2.2, vk, rfl, ?_⟩
    show Qr (some (.long (S.2 (89 + 3 * d + 2) y.toNatClampNeg))) S
    rw [ck, show 89 + 3 * d + 2 = 91 + 3 * d by omega, (g k hkk).2, show 420 + 83 * d + 2 * k = 419 + 83 * d + 2 * k + 1 by omega]
    exact h1 d k 1 hd e hkk ek (by decide) e3
  · refine ⟨hk.1, 40, hk.2.1, vk, rfl, ?_⟩
    show Qr (some (.long (S.2 (89 + 3 * d + 1) y.toNatClampNeg))) S
    rw [ck, show 89 + 3 * d + 1 = 90 + 3 * d by omega, (g k hkk).1]
    exact h1 d k 0 hd e hkk ek (by decide) q
def acV (w : Nat → Int64) (n m k : Nat) : Int64 := if k < 4 then w (750 + k) else if k = 4 then sumN (fun d => sumN (fun j => w (103 + 6 * d + j)) 4) n else sumN (fun p => stV w p 1) m
set_option maxHeartbeats 1000000 in
theorem e_cAccount {S : Mem} {tp : Nat} {sg : Nat → Int32} {fp : Int32} {r : Nat → Int32} {w : Nat → Int64} {H : HL} {n m : Nat} (hI : CI S tp sg fp r w H) (hf : WFt w n m) (x : Int32) {Qr : QR} {Qx : QX} (hA : ¬ inR x 0 5 → Qx "java/lang/IllegalArgumentException" (refC S 1)) (h1 : ∀ k, k ≤ 5 → x = nI k → Qr (some (.long (acV w n m k))) S) : vsp 156 9 (sX9_account 156) [.ref 0, .int x] S Qr Qx := by
  obtain ⟨ns, hD⟩ := hI.desk hf
  have b := hD.2.2.1
  refine ⟨tP, runG rfl 60 ⟨⟨Nat.le_of_ble_eq_true rfl, Nat.le_of_ble_eq_true rfl, Nat.le_of_ble_eq_true rfl⟩, e_needW x 0 5 (by decide) (by decide) S (fun k k1 k2 e => ⟨fun q => ?_, fun q => ⟨tP, tD, rfl, ?_⟩, fun q => ⟨tP, tD, rfl, ?_⟩, fun q => ⟨tP, tD, rfl, ?_⟩, fun q => ⟨tP, tD, rfl, ?_⟩, fun q => ?_, trivial⟩) hA⟩⟩
  · have q := sw_d (n := 5) e k2 (by decide) q
    subst q
    refine ⟨tP, ⟨Nat.le_of_ble_eq_true rfl, Nat.le_of_ble_eq_true rfl, Nat.le_of_ble_eq_true rfl⟩, e_dskCents (ns := ns) S hD.1.2.2.1 hD.1.2.2.2.1 (fun p hp => ⟨(hD.2.2.2.2 p hp).2.2.2.2.1, (hD.2.2.2.2 p hp).2.2.2.2.2.2.1⟩) ⟨rfl, ?_⟩⟩
    have := h1 5 (by decide) e
    unfold acV at this
    rw [if_neg (by decide), if_neg (by decide)] at this
    rw [sumN_congr (fun p hp => (hD.2.2.2.2 p hp).su.2)]; exact this
  · show Qr (some (.long (S.2 1 7))) S
    rw [b 0 (by decide)]; exact h1 0 (by decide) q
  · show Qr (some (.long (S.2 1 8))) S
    rw [b 1 (by decide)]; exact h1 1 (by decide) q
  · show Qr (some (.long (S.2 1 9))) S
    rw [b 2 (by decide)]; exact h1 2 (by decide) q
  · show Qr (some (.long (S.2 1 10))) S
    rw [b 3 (by decide)]; exact h1 3 (by decide) q
  · refine ⟨tP, ⟨Nat.le_of_ble_eq_true rfl, Nat.le_of_ble_eq_true rfl, Nat.le_of_ble_eq_true rfl⟩, e_centsInWork S hD.1.1 hD.1.2.1 ⟨rfl, ?_⟩⟩
    have := h1 4 (by decide) q
    unfold acV at this
    rw [if_neg (by decide), if_pos rfl] at this
    rw [sumN_congr (g := fun d => sumN (fun j => w (103 + 6 * d + j)) 4) (fun d hd => sumN_congr (fun j hj => by rw [show 4 + 17 * d + 4 = 8 + 17 * d by omega]; exact (hD.2.2.2.1 d hd).2.2.1.2 j hj))]; exact this
def pvD (w : Nat → Int64) : Nat → Int64
  | 0 => 0
  | d + 1 => 31 * (31 * pvD w d + w (101 + 6 * d)) + sumN (fun j => w (103 + 6 * d + j)) 4
def pvP (w : Nat → Int64) (v : Int64) : Nat → Int64
  | 0 => v
  | p + 1 => 31 * (31 * pvP w v p + stV w p 0) + stV w p 1
theorem e_cPrint {S : Mem} {tp : Nat} {sg : Nat → Int32} {fp : Int32} {r : Nat → Int32} {w : Nat → Int64} {H : HL} {n m : Nat} (hI : CI S tp sg fp r w H) (hf : WFt w n m) {Qr : QR} {Qx : QX} (h1 : Qr (some (.long (pvP w (pvD w n) m))) S) : vsp 156 9 (sX9_print 156) [.ref 0] S Qr Qx := by
  obtain ⟨ns, hD⟩ := hI.desk hf
  have a : ∀ i, i ≤ n → prD S i = pvD w i := by
    intro i
    induction i with
    | zero => intro _; rfl
    | succ i ih =>
      intro hi
      have dW := (hD.2.2.2.1 i (by omega)).2.2.1
      show 31 * (31 * prD S i + (S.1 (7 + 17 * i) 0).toInt64) + sumN (S.2 (8 + 17 * i)) 4 = 31 * (31 * pvD w i + w (101 + 6 * i)) + sumN (fun j => w (103 + 6 * i + j)) 4
      rw [ih (by omega), dW.1 0 (by decide), sumN_congr (fun j hj => dW.2 j hj)]
      rfl
  have b : ∀ i, i ≤ m → prP S ns (prD S n) i = pvP w (pvD w n) i := by
    intro i
    induction i with
    | zero => intro _; exact a n (Nat.le_refl n)
    | succ i ih =>
      intro hi
      obtain ⟨s1, s2⟩ := (hD.2.2.2.2 i (by omega)).su
      rw [show 89 + 3 * i + 1 = 90 + 3 * i by omega] at s1
      rw [show 89 + 3 * i + 2 = 91 + 3 * i by omega] at s2
      show 31 * (31 * prP S ns (prD S n) i + sumN (S.2 (90 + 3 * i)) (ns i)) + sumN (S.2 (91 + 3 * i)) (ns i) = 31 * (31 * pvP w (pvD w n) i + stV w i 0) + stV w i 1
      rw [ih (by omega), s1, s2]
  refine ⟨tP, runG rfl 60 ⟨tP, ⟨Nat.le_of_ble_eq_true rfl, Nat.le_of_ble_eq_true rfl, Nat.le_of_ble_eq_true rfl⟩, e_printed (ns := ns) S hD.1.1 hD.1.2.1 hD.1.2.2.1 hD.1.2.2.2.1 (fun p hp => ⟨(hD.2.2.2.2 p hp).2.2.2.2.1, (hD.2.2.2.2 p hp).2.2.2.2.2.2.1⟩) ⟨rfl, ?_⟩⟩⟩
  rw [b m (Nat.le_refl m)]; exact h1
