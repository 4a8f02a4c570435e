/-! ===== sums over the desk ===== -/
theorem e_scrap {k : Nat} (hk : isDepN 156 k) (S : Mem) {Qr : QR} {Qx : QX} (h : Qr (some (.long ((S.1 (k + 5) 4).toInt64 * (S.1 k 3).toInt64))) S) : vsp 156 0 (sX0_scrapOfMonth 156) [.ref k] S Qr Qx :=
  ⟨hk.1, runG rfl 40 ⟨hk.1, hk.2.2.2.2.1, hk.1, rfl, h⟩⟩
theorem e_centsInWork {n : Nat} (S : Mem) (hn : S.1 1 2 = nI n) (hn5 : n ≤ 5) {Qr : QR} {Qx : QX} (h : Qr (some (.long (sumN (fun d => sumN (S.2 (4 + 17 * d + 4)) 4) n))) S) : vsp 156 1 (sX1_centsInWork 156) [.ref 1] S Qr Qx := by
  have t1 : tyN 156 1 = (0, 1, 0, 0) := rfl
  have t2 : tyN 156 2 = (4, 5, 4, 17) := rfl
  refine ⟨t1, runL (α := Nat) rfl 60 4 0 (fun i => [(3, .int (nI i)), (1, .long (sumN (fun d => sumN (S.2 (4 + 17 * d + 4)) 4) i)), (0, .ref 1)]) (fun _ => S) (fun i => n - i) (fun i => i ≤ n) (fun i hi => ?_) ?_⟩
  · refine ⟨t1, And.intro (fun a1 => ?_) (fun a1 => ?_)⟩
    · have a1 : nI n ≤ nI i := hn ▸ a1
      obtain rfl := le_of_nI (by omega) hi a1
      exact ⟨rfl, h⟩
    · have a1 : ¬ nI n ≤ nI i := hn ▸ a1
      have hlt := lt_of_nI (by omega) hi a1
      have hc : (nI i).toNatClampNeg = i := nI_clamp (by omega)
      have hd : isDepN 156 (4 + 17 * (nI i).toNatClampNeg) := by rw [hc]; exact depN (by decide) (by omega)
      obtain ⟨h0, h1, h2, h3, h4⟩ := hd
      refine ⟨t1, 0, 5, 4, 17, t2, by decide, vp_nI (by omega), h0, h3.1, ⟨Nat.le_of_ble_eq_true rfl, Nat.le_of_ble_eq_true rfl, Nat.le_of_ble_eq_true rfl⟩, e_sumOf h3.2 (by decide) (by decide) S ⟨rfl, rfl, i + 1, ⟨by omega, by omega⟩, rfl, congrArg (fun z => some (Value.int z)) (nI_1 i), ?_, rfl, trivial⟩⟩
      show some (Value.long (sumN (fun d => sumN (S.2 (4 + 17 * d + 4)) 4) i + sumN (S.2 (4 + 17 * (nI i).toNatClampNeg + 4)) 4)) = some (Value.long (sumN (fun d => sumN (S.2 (4 + 17 * d + 4)) 4) i + sumN (S.2 (4 + 17 * i + 4)) 4))
      rw [hc]
  · exact ⟨rfl, rfl, 0, Nat.zero_le n, rfl, rfl, rfl, rfl, trivial⟩
