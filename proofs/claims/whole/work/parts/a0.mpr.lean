/-! ===== the model's print, layer ===== -/
set_option maxHeartbeats 2000000 in
theorem e_mPrint {S : Mem} {tp : Nat} {sg : Nat → Int32} {fp : Int32} {r : Nat → Int32} {w : Nat → Int64} {H : HL} {n m : Nat} (hI : MI S tp sg fp r w H) (hf : WFt w n m) (hl : ∀ p, p < m → ∃ k, k ≤ 40 ∧ w (418 + 83 * p) = lN k) {Qr : QR} {Qx : QX} (h1 : ∀ S', MI S' tp sg fp r w H → FC S S' → Qr (some (.long (pvP w (pvD w n) m))) S') : vsp 156 10 (sX10_print 156) [.ref 138] S Qr Qx := by
  obtain ⟨i0, f0⟩ := hI.thr 0
  have hn5 := hf.1
  have hm4 := hf.2.1
  have nw : NwR (th0 S) w := i0.2.2.2.1
  have s0 : (th0 S).2 141 0 = lN n := (nw 0 (by decide)).trans hf.2.2.1
  have s1 : (th0 S).2 141 1 = lN m := (nw 1 (by decide)).trans hf.2.2.2.1
  refine ⟨tM, runM (ι := Nat × LL × Nat) rfl 160 0 [9, 27, 89] (fun a => a.1) (fun a => a.2.1) (fun _ => th0 S) (fun a => a.2.2)
      (fun a => (∃ i, i ≤ n ∧ a = (9, [(3, .int (nI i)), (1, .long (pvD w i)), (0, .ref 138)], (n - i) * 10 + 109)) ∨ (∃ i j, i < n ∧ j ≤ 4 ∧ a = (27, [(6, .int (nI j)), (4, .long (sumN (fun j => w (103 + 6 * i + j)) j)), (3, .int (nI i)), (1, .long (pvD w i)), (0, .ref 138)], (n - i) * 10 + (4 - j) + 100)) ∨ (∃ i, i ≤ m ∧ a = (89, [(3, .int (nI i)), (1, .long (pvP w (pvD w n) i)), (0, .ref 138)], m - i))) ?_ ?_⟩
  · rintro a (⟨i, hi, rfl⟩ | ⟨i, j, hi, hj, rfl⟩ | ⟨i, hi, rfl⟩)
    · refine ⟨tM, 754, tNow, vp_nI (n := 0) (by decide), And.intro (fun q => ?_) (fun q => ?_)⟩
      · have q := le_lN s0 (y := nI i) rfl hi (by omega) ((lg_cmp_ge _ _).mp q)
        subst q
        exact ⟨rfl, rfl, (89, [(3, .int (nI 0)), (1, .long (pvP w (pvD w i) 0)), (0, .ref 138)], m - 0), rfl, ⟨Or.inr (Or.inr ⟨0, Nat.zero_le _, rfl⟩), by show m - 0 < (i - i) * 10 + 109; omega⟩, rfl, rfl, rfl, rfl, trivial⟩
      · have q := lt_lN s0 (y := nI i) rfl hi (by omega) (fun z => q ((lg_cmp_ge _ _).mpr z))
        exact ⟨rfl, rfl, (27, [(6, .int (nI 0)), (4, .long (sumN (fun j => w (103 + 6 * i + j)) 0)), (3, .int (nI i)), (1, .long (pvD w i)), (0, .ref 138)], (n - i) * 10 + (4 - 0) + 100), rfl, ⟨Or.inr (Or.inl ⟨i, 0, q, Nat.zero_le _, rfl⟩), by show (n - i) * 10 + (4 - 0) + 100 < (n - i) * 10 + 109; omega⟩, rfl, rfl, rfl, rfl, rfl, rfl, trivial⟩
    · refine And.intro (fun q => ?_) (fun q => ?_)
      · have q : nI 4 ≤ nI j := q
        obtain rfl := le_of_nI (by decide) hj q
        refine ⟨tM, ⟨Nat.le_of_ble_eq_true rfl, Nat.le_of_ble_eq_true rfl, Nat.le_of_ble_eq_true rfl⟩, e_working i 0 (th0 S) ⟨754, tNow, vp_nI (by omega), rfl, rfl, (9, [(3, .int (nI (i + 1))), (1, .long (pvD w (i + 1))), (0, .ref 138)], (n - (i + 1)) * 10 + 109), rfl, ⟨Or.inl ⟨i + 1, hi, rfl⟩, by show (n - (i + 1)) * 10 + 109 < (n - i) * 10 + (4 - 4) + 100; omega⟩, rfl, congrArg (fun z => some (Value.int z)) (nI_1 i), ?_, rfl, trivial⟩⟩
        refine congrArg (fun z => some (Value.long z)) ?_
        show 31 * (31 * pvD w i + (th0 S).2 141 (nI (101 + 6 * i + 0)).toNatClampNeg) + sumN (fun j => w (103 + 6 * i + j)) 4 = 31 * (31 * pvD w i + w (101 + 6 * i)) + sumN (fun j => w (103 + 6 * i + j)) 4
        rw [nI_clamp (by omega), nw _ (by omega), Nat.add_zero]
      · have q : ¬ nI 4 ≤ nI j := q
        have q := lt_of_nI (by decide) hj q
        have ad : nI 2 + nI j = nI (2 + j) := nI_add _ _
        refine ⟨tM, ⟨Nat.le_of_ble_eq_true rfl, Nat.le_of_ble_eq_true rfl, Nat.le_of_ble_eq_true rfl⟩, ?_⟩
        show sX10_working 156 [.int (nI i), .int (nI 2 + nI j)] (th0 S) _ _
        rw [ad]
        refine e_working i (2 + j) (th0 S) ⟨754, tNow, vp_nI (by omega), rfl, rfl, (27, [(6, .int (nI (j + 1))), (4, .long (sumN (fun j => w (103 + 6 * i + j)) (j + 1))), (3, .int (nI i)), (1, .long (pvD w i)), (0, .ref 138)], (n - i) * 10 + (4 - (j + 1)) + 100), rfl, ⟨Or.inr (Or.inl ⟨i, j + 1, hi, q, rfl⟩), by show (n - i) * 10 + (4 - (j + 1)) + 100 < (n - i) * 10 + (4 - j) + 100; omega⟩, rfl, congrArg (fun z => some (Value.int z)) (nI_1 j), ?_, rfl, rfl, rfl, trivial⟩
        refine congrArg (fun z => some (Value.long z)) ?_
        show sumN (fun j => w (103 + 6 * i + j)) j + (th0 S).2 141 (nI (101 + 6 * i + (2 + j))).toNatClampNeg = sumN (fun j => w (103 + 6 * i + j)) j + w (103 + 6 * i + j)
        rw [nI_clamp (by omega), nw _ (by omega), show 101 + 6 * i + (2 + j) = 103 + 6 * i + j by omega]
    · refine ⟨tM, 754, tNow, vp_nI (n := 1) (by decide), And.intro (fun q => ?_) (fun q => ?_)⟩
      · have q := le_lN s1 (y := nI i) rfl hi (by omega) ((lg_cmp_ge _ _).mp q)
        subst q
        exact ⟨rfl, h1 _ i0 f0⟩
      · have q := lt_lN s1 (y := nI i) rfl hi (by omega) (fun z => q ((lg_cmp_ge _ _).mpr z))
        obtain ⟨k, k4, ek⟩ := hl i q
        exact ⟨⟨Nat.le_of_ble_eq_true rfl, Nat.le_of_ble_eq_true rfl, Nat.le_of_ble_eq_true rfl⟩, e_unitsIn (x := 0) (th0 S) nw (by omega) ek k4 (by decide) ⟨⟨Nat.le_of_ble_eq_true rfl, Nat.le_of_ble_eq_true rfl, Nat.le_of_ble_eq_true rfl⟩, e_unitsIn (x := 1) (th0 S) nw (by omega) ek k4 (by decide) ⟨rfl, rfl, (89, [(3, .int (nI (i + 1))), (1, .long (pvP w (pvD w n) (i + 1))), (0, .ref 138)], m - (i + 1)), rfl, ⟨Or.inr (Or.inr ⟨i + 1, q, rfl⟩), by show m - (i + 1) < m - i; omega⟩, rfl, congrArg (fun z => some (Value.int z)) (nI_1 i), rfl, rfl, trivial⟩⟩⟩
  · exact ⟨tM, rfl, rfl, (9, [(3, .int (nI 0)), (1, .long (pvD w 0)), (0, .ref 138)], (n - 0) * 10 + 109), rfl, Or.inl ⟨0, Nat.zero_le _, rfl⟩, rfl, rfl, rfl, rfl, trivial⟩
set_option maxHeartbeats 1000000 in
theorem e_mLayer {S : Mem} {tp : Nat} {sg : Nat → Int32} {fp : Int32} {r : Nat → Int32} {w : Nat → Int64} {H : HL} {n m : Nat} (hI : MI S tp sg fp r w H) (hf : WFt w n m) (hl : ∀ p, p < m → ∃ k, k ≤ 40 ∧ w (418 + 83 * p) = lN k) (x y v : Int32) {Qr : QR} {Qx : QX} (hE : ¬ (∃ d k, d < m ∧ x = nI d ∧ k < lyN w d ∧ y = nI k) → ∀ S', MI S' tp sg fp (bmp r 0) w H → FC S S' → S'.1 138 0 = 1 → Qr (some (.long 0)) S') (hA : ∀ d k, d < m → x = nI d → k < lyN w d → y = nI k → ¬ inR v 0 1 → ∀ S', MI S' tp sg fp (bmp r 1) w H → FC S S' → S'.1 138 0 = 2 → Qr (some (.long 0)) S') (h1 : ∀ d k j, d < m → x = nI d → k < lyN w d → y = nI k → j ≤ 1 → v = nI j → ∀ S', MI S' tp sg fp r w H → FC S S' → S'.1 138 0 = 0 → Qr (some (.long (w (419 + 83 * d + 2 * k + j)))) S') : vsp 156 10 (sX10_layer 156) [.ref 138, .int x, .int y, .int v] S Qr Qx := by
  obtain ⟨i0, f0⟩ := hI.thr 0
  have t0 : (th0 S).1 138 0 = 0 := u2_s S.1 138 0 0
  have hm4 := hf.2.1
  have nw : NwR (th0 S) w := i0.2.2.2.1
  have s1 : (th0 S).2 141 1 = lN m := (nw 1 (by decide)).trans hf.2.2.2.1
  obtain ⟨ib0, fb0, eb0⟩ := i0.bad 1 (i := 0) (by decide)
  obtain ⟨ib, fb, eb⟩ := i0.bad 2 (i := 1) (by decide)
  refine ⟨tM, runG rfl 200 ⟨tM, ⟨Nat.le_of_ble_eq_true rfl, Nat.le_of_ble_eq_true rfl, Nat.le_of_ble_eq_true rfl⟩, e_isProduct x (th0 S) s1 hm4 (fun d hd e => And.intro (fun z => absurd z (by decide)) (fun _ => ⟨tM, ⟨Nat.le_of_ble_eq_true rfl, Nat.le_of_ble_eq_true rfl, Nat.le_of_ble_eq_true rfl⟩, e_isProduct x (th0 S) s1 hm4 (fun d' _ _ => And.intro (fun z => absurd z (by decide)) (fun _ => ⟨⟨Nat.le_of_ble_eq_true rfl, Nat.le_of_ble_eq_true rfl, Nat.le_of_ble_eq_true rfl⟩, ?_⟩)) (fun q => absurd ⟨d, hd, e⟩ q)⟩)) (fun q => And.intro (fun _ => ⟨⟨Nat.le_of_ble_eq_true rfl, Nat.le_of_ble_eq_true rfl, Nat.le_of_ble_eq_true rfl⟩, e_bad (r := 0) (by decide) 1 1 (th0 S) t0 (by decide) (fun _ => And.intro (fun _ => ⟨rfl, hE (fun ⟨d, k, a, b, _⟩ => q ⟨d, a, b⟩) _ ib0 (f0.trans fb0) eb0⟩) (fun z => absurd z (by decide))) (fun z => absurd z (by decide))⟩) (fun z => absurd rfl z))⟩⟩
  obtain ⟨l, l4, el⟩ := hl d hd
  have ly := lyN_le el l4
  show sX10_storeAt 156 [.int x] (th0 S) _ _
  rw [e]
  refine e_storeAt d (th0 S) ⟨754, tNow, vp_nI (by omega), ⟨Nat.le_of_ble_eq_true rfl, Nat.le_of_ble_eq_true rfl, Nat.le_of_ble_eq_true rfl⟩, ?_⟩
  show sX10_in 156 [.long y.toInt64, .long 0, .long ((th0 S).2 141 (nI (418 + 83 * d)).toNatClampNeg - 1)] (th0 S) _ _
  have sl : (th0 S).2 141 (nI (418 + 83 * d)).toNatClampNeg = lN l := by rw [nI_clamp (by omega), nw _ (by omega)]; exact el
  rw [sl]
  refine e_in _ _ _ (th0 S) (fun a b => And.intro (fun _ => ⟨⟨Nat.le_of_ble_eq_true rfl, Nat.le_of_ble_eq_true rfl, Nat.le_of_ble_eq_true rfl⟩, e_bad (r := 0) (by decide) 0 1 (th0 S) t0 (by decide) (fun z => absurd rfl z) (fun _ => And.intro (fun z => absurd rfl z) (fun _ => ⟨⟨Nat.le_of_ble_eq_true rfl, Nat.le_of_ble_eq_true rfl, Nat.le_of_ble_eq_true rfl⟩, e_inW v 0 1 (by decide) (by decide) (th0 S) (fun j j1 j2 e3 => And.intro (fun _ => ⟨⟨Nat.le_of_ble_eq_true rfl, Nat.le_of_ble_eq_true rfl, Nat.le_of_ble_eq_true rfl⟩, e_bad (r := 1) (by decide) 0 2 (th0 S) t0 (by decide) (fun z => absurd rfl z) (fun _ => And.intro (fun _ => ⟨tM, ⟨Nat.le_of_ble_eq_true rfl, Nat.le_of_ble_eq_true rfl, Nat.le_of_ble_eq_true rfl⟩, ?_⟩) (fun z => absurd rfl z))⟩) (fun z => absurd z (by decide))) (fun q => And.intro (fun z => absurd rfl z) (fun _ => ⟨⟨Nat.le_of_ble_eq_true rfl, Nat.le_of_ble_eq_true rfl, Nat.le_of_ble_eq_true rfl⟩, e_bad (r := 1) (by decide) 1 2 (th0 S) t0 (by decide) (fun _ => And.intro (fun z => absurd z (by decide)) (fun _ => ⟨rfl, ?_⟩)) (fun z => absurd z (by decide))⟩))⟩))⟩) (fun z => absurd z (by decide))) (fun q => And.intro (fun z => absurd rfl z) (fun _ => ⟨⟨Nat.le_of_ble_eq_true rfl, Nat.le_of_ble_eq_true rfl, Nat.le_of_ble_eq_true rfl⟩, e_bad (r := 0) (by decide) 1 1 (th0 S) t0 (by decide) (fun _ => And.intro (fun _ => ⟨rfl, hE (fun ⟨d', k, a, b, c, f⟩ => q ((in_cnt (by omega)).mpr ?_)) _ ib0 (f0.trans fb0) eb0⟩) (fun z => absurd z (by decide))) (fun z => absurd z (by decide))⟩))
  · obtain ⟨k, hk, ek⟩ := (in_cnt (by omega)).mp ⟨a, b⟩
    rw [← ly] at hk
    show sX10_layerAt 156 [.int (nI d), .long y.toInt64] (th0 S) _ _
    rw [ek, nI_l (by omega)]
    have ad : nI (419 + 83 * d + 2 * k) + v = nI (419 + 83 * d + 2 * k + j) := by rw [e3, nI_add]
    refine e_layerAt d k (th0 S) ⟨754, tNow, by show vp_in (nI (419 + 83 * d + 2 * k) + v) 754; rw [ad]; exact vp_nI (by omega), rfl, ?_⟩
    show Qr (some (.long ((th0 S).2 141 (nI (419 + 83 * d + 2 * k) + v).toNatClampNeg))) (th0 S)
    rw [ad, nI_clamp (by omega), nw _ (by omega)]
    exact h1 d k j hd e hk ek j2 e3 _ i0 f0 t0
  · obtain ⟨k, hk, ek⟩ := (in_cnt (by omega)).mp ⟨a, b⟩
    rw [← ly] at hk
    exact hA d k hd e hk ek q _ ib (f0.trans fb) eb
  · have : d' = d := (nI_eq (by omega) (by omega)).mp (b.symm.trans e)
    subst this
    rw [ly] at c
    exact ⟨k, c, f⟩
