/-! ===== more sums ===== -/
theorem e_dskCents {n : Nat} {ns : Nat → Nat} (S : Mem) (hn : S.1 1 3 = nI n) (hn4 : n ≤ 4) (hs : ∀ p, p < n → S.1 (89 + 3 * p) 7 = nI (ns p) ∧ ns p ≤ 40) {Qr : QR} {Qx : QX} (h : Qr (some (.long (sumN (fun p => sumN (S.2 (89 + 3 * p + 2)) (ns p)) n))) S) : vsp 156 1 (sX1_centsInStore 156) [.ref 1] S Qr Qx := by
  have t1 : tyN 156 1 = (0, 1, 0, 0) := rfl
  have t3 : tyN 156 3 = (5, 4, 89, 3) := rfl
  refine ⟨t1, runL (α := Nat) rfl 60 4 0 (fun i => [(3, .int (nI i)), (1, .long (sumN (fun p => sumN (S.2 (89 + 3 * p + 2)) (ns p)) i)), (0, .ref 1)]) (fun _ => S) (fun i => n - i) (fun i => i ≤ n) (fun i hi => ?_) ?_⟩
  · refine ⟨t1, And.intro (fun a1 => ?_) (fun a1 => ?_)⟩
    · have a1 : nI n ≤ nI i := hn ▸ a1
      obtain rfl := le_of_nI (by omega) hi a1
      exact ⟨rfl, h⟩
    · have a1 : ¬ nI n ≤ nI i := hn ▸ a1
      have hlt := lt_of_nI (by omega) hi a1
      have hc : (nI i).toNatClampNeg = i := nI_clamp (by omega)
      refine ⟨t1, 1, 4, 89, 3, t3, by decide, vp_nI (by omega), ⟨Nat.le_of_ble_eq_true rfl, Nat.le_of_ble_eq_true rfl, Nat.le_of_ble_eq_true rfl⟩, ?_⟩
      show vsp 156 6 (sX6_centsInStore 156) [.ref (89 + 3 * (nI i).toNatClampNeg)] S _ _
      rw [hc]
      exact e_centsInStore (n := ns i) (proN (by decide) (by omega)) S (hs i hlt).1 (hs i hlt).2 ⟨rfl, rfl, i + 1, ⟨by omega, by omega⟩, rfl, congrArg (fun z => some (Value.int z)) (nI_1 i), rfl, rfl, trivial⟩
  · exact ⟨rfl, rfl, 0, Nat.zero_le n, rfl, rfl, rfl, rfl, trivial⟩
