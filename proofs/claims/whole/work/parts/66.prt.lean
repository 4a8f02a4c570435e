/-! ===== printed ===== -/
def prD (S : Mem) : Nat → Int64
  | 0 => 0
  | d + 1 => 31 * (31 * prD S d + (S.1 (7 + 17 * d) 0).toInt64) + sumN (S.2 (8 + 17 * d)) 4
def prP (S : Mem) (ns : Nat → Nat) (v : Int64) : Nat → Int64
  | 0 => v
  | p + 1 => 31 * (31 * prP S ns v p + sumN (S.2 (90 + 3 * p)) (ns p)) + sumN (S.2 (91 + 3 * p)) (ns p)
set_option maxHeartbeats 1000000 in
theorem e_printed {m n : Nat} {ns : Nat → Nat} (S : Mem) (hm : S.1 1 2 = nI m) (hm5 : m ≤ 5) (hn : S.1 1 3 = nI n) (hn4 : n ≤ 4) (hs : ∀ p, p < n → S.1 (89 + 3 * p) 7 = nI (ns p) ∧ ns p ≤ 40) {Qr : QR} {Qx : QX} (h : Qr (some (.long (prP S ns (prD S m) n))) S) : vsp 156 1 (sX1_printed 156) [.ref 1] S Qr Qx := by
  have t1 : tyN 156 1 = (0, 1, 0, 0) := rfl
  have t2 : tyN 156 2 = (4, 5, 4, 17) := rfl
  have t3 : tyN 156 3 = (5, 4, 89, 3) := rfl
  refine ⟨t1, runL2 (α := Nat) (β := Nat) rfl 120 4 0 59 0 (fun i => [(3, .int (nI i)), (1, .long (prD S i)), (0, .ref 1)]) (fun _ => S) (fun i => m - i) (fun i => i ≤ m)
    (fun i => [(3, .int (nI i)), (1, .long (prP S ns (prD S m) i)), (0, .ref 1)]) (fun _ => S) (fun i => n - i) (fun i => i ≤ n) (fun i hi => ?_) (fun i hi => ?_) ?_⟩
  · refine ⟨t1, And.intro (fun a1 => ?_) (fun a1 => ?_)⟩
    · have a1 : nI n ≤ nI i := hn ▸ a1
      obtain rfl := le_of_nI (by omega) hi a1
      exact ⟨rfl, h⟩
    · have a1 : ¬ nI n ≤ nI i := hn ▸ a1
      have hlt := lt_of_nI (by omega) hi a1
      have hcl : (nI i).toNatClampNeg = i := nI_clamp (by omega)
      have hp : isProN 156 (89 + 3 * (nI i).toNatClampNeg) := by rw [hcl]; exact proN (by decide) (by omega)
      have hs' : S.1 (89 + 3 * (nI i).toNatClampNeg) 7 = nI (ns i) := by rw [hcl]; exact (hs i hlt).1
      refine ⟨t1, 1, 4, 89, 3, t3, by decide, vp_nI (by omega), ⟨Nat.le_of_ble_eq_true rfl, Nat.le_of_ble_eq_true rfl, Nat.le_of_ble_eq_true rfl⟩, e_unitsInStore hp S hs' (hs i hlt).2 ⟨t1, 1, 4, 89, 3, t3, by decide, vp_nI (by omega), ⟨Nat.le_of_ble_eq_true rfl, Nat.le_of_ble_eq_true rfl, Nat.le_of_ble_eq_true rfl⟩, e_centsInStore hp S hs' (hs i hlt).2 ⟨rfl, rfl, i + 1, ⟨by omega, by omega⟩, rfl, congrArg (fun z => some (Value.int z)) (nI_1 i), ?_, rfl, trivial⟩⟩⟩
      refine congrArg (fun z => some (Value.long z)) ?_
      show 31 * (31 * prP S ns (prD S m) i + sumN (S.2 (89 + 3 * (nI i).toNatClampNeg + 1)) (ns i)) + sumN (S.2 (89 + 3 * (nI i).toNatClampNeg + 2)) (ns i) = 31 * (31 * prP S ns (prD S m) i + sumN (S.2 (90 + 3 * i)) (ns i)) + sumN (S.2 (91 + 3 * i)) (ns i)
      rw [hcl, show 89 + 3 * i + 1 = 90 + 3 * i by omega, show 89 + 3 * i + 2 = 91 + 3 * i by omega]
  · refine ⟨t1, And.intro (fun a1 => ?_) (fun a1 => ?_)⟩
    · have a1 : nI m ≤ nI i := hm ▸ a1
      obtain rfl := le_of_nI (by omega) hi a1
      exact ⟨rfl, rfl, 0, Nat.zero_le _, rfl, rfl, rfl, rfl, trivial⟩
    · have a1 : ¬ nI m ≤ nI i := hm ▸ a1
      have hlt := lt_of_nI (by omega) hi a1
      have hcl : (nI i).toNatClampNeg = i := nI_clamp (by omega)
      have hd : isDepN 156 (4 + 17 * (nI i).toNatClampNeg) := by rw [hcl]; exact depN (by decide) (by omega)
      obtain ⟨h0, h1, h2, h3, h4⟩ := hd
      refine ⟨t1, 0, 5, 4, 17, t2, by decide, vp_nI (by omega), h0, h3.1, h3.1, ⟨Nat.le_of_ble_eq_true rfl, Nat.le_of_ble_eq_true rfl, Nat.le_of_ble_eq_true rfl⟩, e_sumOf h3.2 (by decide) (by decide) S ⟨rfl, rfl, i + 1, ⟨by omega, by omega⟩, rfl, congrArg (fun z => some (Value.int z)) (nI_1 i), ?_, rfl, trivial⟩⟩
      refine congrArg (fun z => some (Value.long z)) ?_
      show 31 * (31 * prD S i + (S.1 (4 + 17 * (nI i).toNatClampNeg + 3) 0).toInt64) + sumN (S.2 (4 + 17 * (nI i).toNatClampNeg + 3 + 1)) 4 = 31 * (31 * prD S i + (S.1 (7 + 17 * i) 0).toInt64) + sumN (S.2 (8 + 17 * i)) 4
      rw [hcl, show 4 + 17 * i + 3 + 1 = 8 + 17 * i by omega, show 4 + 17 * i + 3 = 7 + 17 * i by omega]
  · exact ⟨rfl, rfl, 0, Nat.zero_le m, rfl, rfl, rfl, rfl, trivial⟩
