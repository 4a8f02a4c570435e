/-! ===== what is asked of the class ===== -/
theorem l_i {x : Int32} {v : Int64} (h : x.toInt64 = v) : x = v.toInt32 := by rw [← h]; simp
theorem sw_d {y : Int32} {k n : Nat} (hy : y = nI k) (hk : k ≤ n) (hn : n < 2 ^ 31) (h : y < 0 ∨ nI n ≤ y) : k = n := by
  subst hy
  rcases h with h | h
  · exact absurd h (nI_pos (by omega))
  · have := (nI_leI hn (by omega)).mp h
    omega
def tdV (w : Nat → Int64) (tp hl k : Nat) : Int32 := match k with
  | 0 => (w 0).toInt32
  | 1 => (w 1).toInt32
  | 2 => (w 3).toInt32
  | 3 => (w 4).toInt32
  | 4 => (w 2).toInt32
  | 5 => nI tp
  | _ => nI hl
theorem e_cTold {S : Mem} {tp : Nat} {sg : Nat → Int32} {fp : Int32} {r : Nat → Int32} {w : Nat → Int64} {H : HL} (hI : CI S tp sg fp r w H) (x : Int32) {Qr : QR} {Qx : QX} (hA : ¬ inR x 0 6 → Qx "java/lang/IllegalArgumentException" (refC S 1)) (h1 : ∀ k, k ≤ 6 → x = nI k → Qr (some (.int (tdV w tp H.length k))) S) : vsp 156 9 (sX9_told 156) [.ref 0, .int x] S Qr Qx := by
  have tH : tyN 156 101 = (0, 2, 0, 0) := rfl
  obtain ⟨-, -, ⟨c1, -, -⟩, ⟨n, m, ns, hD⟩, ⟨nx, hR⟩⟩ := hI
  have d0 : S.1 1 2 = (w 0).toInt32 := by rw [hD.1.1, hD.1.2.2.2.2.1, lN_i]
  have d1 : S.1 1 3 = (w 1).toInt32 := by rw [hD.1.2.2.1, hD.1.2.2.2.2.2, lN_i]
  refine ⟨tP, runG rfl 60 ⟨⟨Nat.le_of_ble_eq_true rfl, Nat.le_of_ble_eq_true rfl, Nat.le_of_ble_eq_true rfl⟩, e_needW x 0 6 (by decide) (by decide) S (fun k k1 k2 e => ⟨fun q => ?_, fun q => ?_, fun q => ?_, fun q => ?_, fun q => ?_, fun q => ?_, fun q => ?_, trivial⟩) hA⟩⟩
  · have q := sw_d (n := 6) e k2 (by decide) q
    subst q
    refine ⟨tP, tH, ?_⟩
    show Qr (some (.int (S.1 101 2))) S
    rw [hR.2.2.1]; exact h1 6 (by decide) e
  · refine ⟨tP, tD, ?_⟩
    show Qr (some (.int (S.1 1 2))) S
    rw [d0]; exact h1 0 (by decide) q
  · refine ⟨tP, tD, ?_⟩
    show Qr (some (.int (S.1 1 3))) S
    rw [d1]; exact h1 1 (by decide) q
  · refine ⟨tP, tD, ?_⟩
    show Qr (some (.int (S.1 1 5))) S
    rw [l_i (hD.2.1 1 (by decide))]; exact h1 2 (by decide) q
  · refine ⟨tP, tD, ?_⟩
    show Qr (some (.int (S.1 1 6))) S
    rw [l_i (hD.2.1 2 (by decide))]; exact h1 3 (by decide) q
  · refine ⟨tP, tD, ?_⟩
    show Qr (some (.int (S.1 1 4))) S
    rw [l_i (hD.2.1 0 (by decide))]; exact h1 4 (by decide) q
  · refine ⟨tP, t8, ?_⟩
    show Qr (some (.int (S.1 121 1))) S
    rw [c1]; exact h1 5 (by decide) q
def dpV (w : Nat → Int64) (d k : Nat) : Int32 := (if k < 9 then w (5 + 9 * d + k) else w (61 + 7 * d + k)).toInt32
set_option maxHeartbeats 1000000 in
theorem e_cDepartment {S : Mem} {tp : Nat} {sg : Nat → Int32} {fp : Int32} {r : Nat → Int32} {w : Nat → Int64} {H : HL} {n m : Nat} (hI : CI S tp sg fp r w H) (hf : WFt w n m) (x y : Int32) {Qr : QR} {Qx : QX} (hE : ¬ (∃ d, d < n ∧ x = nI d) → Qx "java/util/NoSuchElementException" (refC S 0)) (hA : ∀ d, d < n → x = nI d → ¬ inR y 0 11 → Qx "java/lang/IllegalArgumentException" (refC S 1)) (h1 : ∀ d k, d < n → x = nI d → k ≤ 11 → y = nI k → Qr (some (.int (dpV w d k))) S) : vsp 156 9 (sX9_department 156) [.ref 0, .int x, .int y] S Qr Qx := by
  obtain ⟨ns, hD⟩ := hI.desk hf
  have hn5 := hf.1
  refine ⟨tP, runG rfl 80 ⟨⟨Nat.le_of_ble_eq_true rfl, Nat.le_of_ble_eq_true rfl, Nat.le_of_ble_eq_true rfl⟩, e_needDepartment x S hD.1.1 hn5 (fun d hd e => ⟨⟨Nat.le_of_ble_eq_true rfl, Nat.le_of_ble_eq_true rfl, Nat.le_of_ble_eq_true rfl⟩, e_needW y 0 11 (by decide) (by decide) S (fun k k1 k2 e' => ?_) (hA d hd e)⟩) hE⟩⟩
  have hk := depN (N := 156) (d := d) (by decide) (by omega)
  have dW := hD.2.2.2.1 d hd
  obtain ⟨a0, a1, a2, a3, -, a6, a7⟩ := dW.1
  obtain ⟨m1, m2, m3, m4⟩ := dW.1.mt
  obtain ⟨-, -, -, -, ⟨mm, mm2, em, -, em2⟩, -⟩ := hf.2.2.2.2.2.1 d hd
  have emt : mtN w d = mm := by unfold mtN cnt; rw [em, lN_clamp (by omega)]
  rw [← emt] at em2
  have c2 := dW.2.1.2
  refine ⟨fun q => ?_, fun q => ?_, fun q => ?_, fun q => ?_, fun q => ?_, fun q => ?_, fun q => ?_, fun q => ?_, fun q => ?_, fun q => ?_, fun q => ?_, fun q => ?_, trivial⟩
  · have q := sw_d (n := 11) e' k2 (by decide) q
    subst q
    refine ⟨hk.1, ?_⟩
    show Qr (some (.int (S.1 (4 + 17 * d) 10))) S
    rw [l_i (c2 2 (by decide))]
    have := h1 d 11 hd e (by decide) e'
    rw [dpV, if_neg (by decide), show 61 + 7 * d + 11 = 70 + 7 * d + 2 by omega] at this
    exact this
  · refine ⟨hk.1, ?_⟩
    show Qr (some (.int (S.1 (4 + 17 * d) 0))) S
    rw [l_i a0]; exact h1 d 0 hd e (by decide) q
  · refine ⟨hk.1, ?_⟩
    show Qr (some (.int (S.1 (4 + 17 * d) 1))) S
    rw [l_i a1]; exact h1 d 1 hd e (by decide) q
  · refine ⟨hk.1, ?_⟩
    show Qr (some (.int (S.1 (4 + 17 * d) 2))) S
    rw [l_i a2]; exact h1 d 2 hd e (by decide) q
  · refine ⟨hk.1, ?_⟩
    show Qr (some (.int (S.1 (4 + 17 * d) 3))) S
    rw [l_i a3]; exact h1 d 3 hd e (by decide) q
  · refine ⟨hk.1, ?_⟩
    show Qr (some (.int (S.1 (4 + 17 * d) 4))) S
    have := h1 d 4 hd e (by decide) q
    rw [dpV, if_pos (by decide), m3, lN_i] at this
    rw [m1]; exact this
  · have g := h1 d 5 hd e (by decide) q
    rw [dpV, if_pos (by decide)] at g
    refine ⟨hk.1, And.intro (fun z => ?_) (fun z => ?_)⟩
    · have z : S.1 (4 + 17 * d) 4 ≤ nI 0 := z
      rw [m1] at z
      have z := (nI_leI (by omega) (by decide)).mp z
      rw [show 5 + 9 * d + 5 = 5 + 9 * d + 5 + 0 by omega, em2 0 z (by decide)] at g
      exact g
    · have z : ¬ S.1 (4 + 17 * d) 4 ≤ nI 0 := z
      rw [m1] at z
      have z : 0 < mtN w d := by
        rcases Nat.lt_or_ge 0 (mtN w d) with u | u
        · exact u
        · exact absurd (nI_le u (by decide)) z
      refine ⟨hk.1, 2, hk.2.1, vp_nI (n := 0) (by decide), ?_⟩
      show Qr (some (.int (S.2 (4 + 17 * d + 1) 0).toInt32)) S
      rw [show 4 + 17 * d + 1 = 5 + 17 * d by omega, m4 0 z]
      exact g
  · have g := h1 d 6 hd e (by decide) q
    rw [dpV, if_pos (by decide)] at g
    refine ⟨hk.1, And.intro (fun z => ?_) (fun z => ?_)⟩
    · have z : S.1 (4 + 17 * d) 4 ≤ nI 1 := z
      rw [m1] at z
      have z := (nI_leI (by omega) (by decide)).mp z
      rw [show 5 + 9 * d + 6 = 5 + 9 * d + 5 + 1 by omega, em2 1 z (by decide)] at g
      exact g
    · have z : ¬ S.1 (4 + 17 * d) 4 ≤ nI 1 := z
      rw [m1] at z
      have z : 1 < mtN w d := by
        rcases Nat.lt_or_ge 1 (mtN w d) with u | u
        · exact u
        · exact absurd (nI_le u (by decide)) z
      refine ⟨hk.1, 2, hk.2.1, vp_nI (n := 1) (by decide), ?_⟩
      show Qr (some (.int (S.2 (4 + 17 * d + 1) 1).toInt32)) S
      rw [show 4 + 17 * d + 1 = 5 + 17 * d by omega, m4 1 z]
      exact g
  · refine ⟨hk.1, ?_⟩
    show Qr (some (.int (S.1 (4 + 17 * d) 6))) S
    rw [l_i a6]; exact h1 d 7 hd e (by decide) q
  · refine ⟨hk.1, ?_⟩
    show Qr (some (.int (S.1 (4 + 17 * d) 7))) S
    rw [l_i a7]; exact h1 d 8 hd e (by decide) q
  · refine ⟨hk.1, ?_⟩
    show Qr (some (.int (S.1 (4 + 17 * d) (8 + 0)))) S
    rw [l_i (c2 0 (by decide))]
    have := h1 d 9 hd e (by decide) q
    rw [dpV, if_neg (by decide), show 61 + 7 * d + 9 = 70 + 7 * d + 0 by omega] at this
    exact this
  · refine ⟨hk.1, ?_⟩
    show Qr (some (.int (S.1 (4 + 17 * d) (8 + 1)))) S
    rw [l_i (c2 1 (by decide))]
    have := h1 d 10 hd e (by decide) q
    rw [dpV, if_neg (by decide), show 61 + 7 * d + 10 = 70 + 7 * d + 1 by omega] at this
    exact this
theorem e_cProduct {S : Mem} {tp : Nat} {sg : Nat → Int32} {fp : Int32} {r : Nat → Int32} {w : Nat → Int64} {H : HL} {n m : Nat} (hI : CI S tp sg fp r w H) (hf : WFt w n m) (x y : Int32) {Qr : QR} {Qx : QX} (hE : ¬ (∃ d, d < m ∧ x = nI d) → Qx "java/util/NoSuchElementException" (refC S 0)) (hA : ∀ d, d < m → x = nI d → ¬ inR y 0 3 → Qx "java/lang/IllegalArgumentException" (refC S 1)) (h1 : ∀ d k, d < m → x = nI d → k ≤ 3 → y = nI k → Qr (some (.int (w (50 + 4 * d + k)).toInt32)) S) : vsp 156 9 (sX9_product 156) [.ref 0, .int x, .int y] S Qr Qx := by
  obtain ⟨ns, hD⟩ := hI.desk hf
  have hm4 := hf.2.1
  refine ⟨tP, runG rfl 80 ⟨⟨Nat.le_of_ble_eq_true rfl, Nat.le_of_ble_eq_true rfl, Nat.le_of_ble_eq_true rfl⟩, e_needProduct x S hD.1.2.2.1 hm4 (fun d hd e => ⟨⟨Nat.le_of_ble_eq_true rfl, Nat.le_of_ble_eq_true rfl, Nat.le_of_ble_eq_true rfl⟩, e_needW y 0 3 (by decide) (by decide) S (fun k k1 k2 e' => ?_) (hA d hd e)⟩) hE⟩⟩
  have hk := proN (N := 156) (p := d) (by decide) (by omega)
  have pT := (hD.2.2.2.2 d hd).1
  refine ⟨fun q => ?_, fun q => ?_, fun q => ?_, fun q => ?_, trivial⟩
  · have q := sw_d (n := 3) e' k2 (by decide) q
    subst q
    refine ⟨hk.1, ?_⟩
    show Qr (some (.int (S.1 (89 + 3 * d) 3))) S
    rw [l_i (pT 3 (by decide))]; exact h1 d 3 hd e (by decide) e'
  · refine ⟨hk.1, ?_⟩
    show Qr (some (.int (S.1 (89 + 3 * d) 0))) S
    rw [l_i (pT 0 (by decide))]; exact h1 d 0 hd e (by decide) q
  · refine ⟨hk.1, ?_⟩
    show Qr (some (.int (S.1 (89 + 3 * d) 1))) S
    rw [l_i (pT 1 (by decide))]; exact h1 d 1 hd e (by decide) q
  · refine ⟨hk.1, ?_⟩
    show Qr (some (.int (S.1 (89 + 3 * d) 2))) S
    rw [l_i (pT 2 (by decide))]; exact h1 d 2 hd e (by decide) q
def unP7 (k : Nat) : Nat := match k with
  | 0 => 0
  | 1 => 6
  | 2 => 15
  | 3 => 12
  | 4 => 16
  | 5 => 13
  | _ => 17
theorem e_cUnits {S : Mem} {tp : Nat} {sg : Nat → Int32} {fp : Int32} {r : Nat → Int32} {w : Nat → Int64} {H : HL} {n m : Nat} (hI : CI S tp sg fp r w H) (hf : WFt w n m) (x y : Int32) {Qr : QR} {Qx : QX} (hE : ¬ (∃ d, d < n ∧ x = nI d) → Qx "java/util/NoSuchElementException" (refC S 0)) (hA : ∀ d, d < n → x = nI d → ¬ inR y 0 6 → Qx "java/lang/IllegalArgumentException" (refC S 1)) (h1 : ∀ d k, d < n → x = nI d → k ≤ 6 → y = nI k → Qr (some (.int (w (131 + 55 * d + unP7 k)).toInt32)) S) : vsp 156 9 (sX9_units 156) [.ref 0, .int x, .int y] S Qr Qx := by
  obtain ⟨ns, hD⟩ := hI.desk hf
  have hn5 := hf.1
  refine ⟨tP, runG rfl 80 ⟨⟨Nat.le_of_ble_eq_true rfl, Nat.le_of_ble_eq_true rfl, Nat.le_of_ble_eq_true rfl⟩, e_needDepartment x S hD.1.1 hn5 (fun d hd e => ?_) hE⟩⟩
  have hk := depN (N := 156) (d := d) (by decide) (by omega)
  have hq := hk.2.2.2.2
  obtain ⟨⟨b0, -, b6, -, -, b12, b13, -⟩, b15, b16, b17, -⟩ := (hD.2.2.2.1 d hd).2.2.2.1
  rw [show 9 + 17 * d = 4 + 17 * d + 5 by omega] at b0 b6 b12 b13 b15 b16 b17
  refine ⟨hk.1, ⟨Nat.le_of_ble_eq_true rfl, Nat.le_of_ble_eq_true rfl, Nat.le_of_ble_eq_true rfl⟩, e_needW y 0 6 (by decide) (by decide) S (fun k k1 k2 e' => ⟨fun q => ?_, fun q => ?_, fun q => ?_, fun q => ?_, fun q => ?_, fun q => ?_, fun q => ?_, trivial⟩) (hA d hd e)⟩
  · have q := sw_d (n := 6) e' k2 (by decide) q
    subst q
    refine ⟨hq.1, ?_⟩
    show Qr (some (.int (S.1 (4 + 17 * d + 5) 6))) S
    rw [l_i b17]; exact h1 d 6 hd e (by decide) e'
  · refine ⟨hq.1, hq.2.1.1, ?_⟩
    show Qr (some (.int (S.1 (4 + 17 * d + 5 + 1) 0))) S
    rw [l_i (b0 0 (by decide))]; exact h1 d 0 hd e (by decide) q
  · refine ⟨hq.1, ?_⟩
    show Qr (some (.int (S.1 (4 + 17 * d + 5) 3))) S
    rw [l_i b6]; exact h1 d 1 hd e (by decide) q
  · refine ⟨hq.1, ?_⟩
    show Qr (some (.int (S.1 (4 + 17 * d + 5) 5))) S
    rw [l_i b15]; exact h1 d 2 hd e (by decide) q
  · refine ⟨hq.1, ?_⟩
    show Qr (some (.int (S.1 (4 + 17 * d + 5) 4))) S
    rw [l_i b12]; exact h1 d 3 hd e (by decide) q
  · refine ⟨hq.1, ?_⟩
    show Qr (some (.int (S.1 (4 + 17 * d + 5) 7))) S
    rw [l_i b16]; exact h1 d 4 hd e (by decide) q
  · refine ⟨hq.1, hq.2.2.1.1, ?_⟩
    show Qr (some (.int (S.1 (4 + 17 * d + 5 + 3) 0))) S
    rw [l_i b13]; exact h1 d 5 hd e (by decide) q
theorem e_cWork {S : Mem} {tp : Nat} {sg : Nat → Int32} {fp : Int32} {r : Nat → Int32} {w : Nat → Int64} {H : HL} {n m : Nat} (hI : CI S tp sg fp r w H) (hf : WFt w n m) (x y : Int32) {Qr : QR} {Qx : QX} (hE : ¬ (∃ d, d < n ∧ x = nI d) → Qx "java/util/NoSuchElementException" (refC S 0)) (hA : ∀ d, d < n → x = nI d → ¬ inR y 0 5 → Qx "java/lang/IllegalArgumentException" (refC S 1)) (h1 : ∀ d k, d < n → x = nI d → k ≤ 5 → y = nI k → Qr (some (.long (w (101 + 6 * d + k)))) S) : vsp 156 9 (sX9_work 156) [.ref 0, .int x, .int y] S Qr Qx := by
  obtain ⟨ns, hD⟩ := hI.desk hf
  have hn5 := hf.1
  refine ⟨tP, runG rfl 80 ⟨⟨Nat.le_of_ble_eq_true rfl, Nat.le_of_ble_eq_true rfl, Nat.le_of_ble_eq_true rfl⟩, e_needDepartment x S hD.1.1 hn5 (fun d hd e => ?_) hE⟩⟩
  have hk := depN (N := 156) (d := d) (by decide) (by omega)
  have hl := hk.2.2.2.1
  obtain ⟨w1', w2'⟩ := (hD.2.2.2.1 d hd).2.2.1
  rw [show 7 + 17 * d = 4 + 17 * d + 3 by omega] at w1'
  rw [show 8 + 17 * d = 4 + 17 * d + 3 + 1 by omega] at w2'
  refine ⟨hk.1, ⟨Nat.le_of_ble_eq_true rfl, Nat.le_of_ble_eq_true rfl, Nat.le_of_ble_eq_true rfl⟩, e_needW y 0 5 (by decide) (by decide) S (fun k k1 k2 e' => ⟨fun q => ⟨hl.1, rfl, ?_⟩, fun q0 => ⟨fun q => ⟨hl.1, rfl, ?_⟩, fun q1 => ?_⟩⟩) (hA d hd e)⟩
  · show Qr (some (.long (S.1 (4 + 17 * d + 3) 0).toInt64)) S
    rw [w1' 0 (by decide)]; exact h1 d 0 hd e (by decide) q
  · show Qr (some (.long (S.1 (4 + 17 * d + 3) 1).toInt64)) S
    rw [w1' 1 (by decide)]; exact h1 d 1 hd e (by decide) q
  · have kk : 2 ≤ k := by
      rcases (show k = 0 ∨ k = 1 ∨ 2 ≤ k by omega) with rfl | rfl | z
      · exact absurd e' q0
      · exact absurd e' q1
      · exact z
    have i2 : y - 2 = nI (k - 2) := by rw [e']; exact pk_sub kk
    have c2 : (y - 2).toNatClampNeg = k - 2 := by rw [i2]; exact nI_clamp (by omega)
    refine ⟨hl.1, 4, hl.2, by show vp_in (y - 2) 4; rw [i2]; exact vp_nI (by omega), rfl, ?_⟩
    show Qr (some (.long (S.2 (4 + 17 * d + 3 + 1) (y - 2).toNatClampNeg))) S
    rw [c2, w2' (k - 2) (by omega), show 103 + 6 * d + (k - 2) = 101 + 6 * d + k by omega]
    exact h1 d k hd e k2 e'
theorem e_cStatus {S : Mem} {tp : Nat} {sg : Nat → Int32} {fp : Int32} {r : Nat → Int32} {w : Nat → Int64} {H : HL} (hI : CI S tp sg fp r w H) (x : Int32) {Qr : QR} {Qx : QX} (h0 : ¬ inR x 0 2 → Qr (some (.int (-1))) S) (h1 : ∀ k, k ≤ 2 → x = nI k → Qr (some (.int (r k))) S) : vsp 156 9 (sX9_status 156) [.ref 0, .int x] S Qr Qx := by
  obtain ⟨-, b, -⟩ := hI
  refine ⟨tP, runG rfl 60 ⟨fun q => h0 (fun z => ?_), fun q => ⟨tP, ?_⟩, fun q => ⟨tP, ?_⟩, fun q => ⟨tP, ?_⟩, trivial⟩⟩
  · obtain ⟨k, k1, k2, rfl⟩ := z
    rcases q with q | q
    · exact nI_pos (by omega) q
    · have := (nI_leI (a := 3) (by decide) (by omega)).mp q
      omega
  · show Qr (some (.int (S.1 0 1))) S
    rw [b 0 (by decide)]; exact h1 0 (by decide) q
  · show Qr (some (.int (S.1 0 2))) S
    rw [b 1 (by decide)]; exact h1 1 (by decide) q
  · show Qr (some (.int (S.1 0 3))) S
    rw [b 2 (by decide)]; exact h1 2 (by decide) q
theorem e_cFault {S : Mem} {tp : Nat} {sg : Nat → Int32} {fp : Int32} {r : Nat → Int32} {w : Nat → Int64} {H : HL} (hI : CI S tp sg fp r w H) {Qr : QR} {Qx : QX} (h1 : Qr (some (.int fp)) S) : vsp 156 9 (sX9_fault 156) [.ref 0] S Qr Qx := by
  refine ⟨tP, runG rfl 60 ⟨tP, ?_⟩⟩
  show Qr (some (.int (S.1 0 0))) S
  rw [hI.1]; exact h1
