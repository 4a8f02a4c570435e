/-! ===== products ===== -/
theorem e_isMain {k : Nat} (hk : isProN 156 k) (S : Mem) {Qr : QR} {Qx : QX} (h : Qr (some (.int (if S.1 k 3 = 0 then 1 else 0))) S) : vsp 156 6 (sX6_isMain 156) [.ref k] S Qr Qx := by
  obtain ⟨h0, h1, h2⟩ := hk
  refine ⟨h0, runG rfl 40 ⟨h0, And.intro (fun a1 => ⟨Or.inl rfl, ?_⟩) (fun a1 => ⟨Or.inr rfl, ?_⟩)⟩⟩
  · rw [if_neg a1] at h; exact h
  · rw [if_pos a1] at h; exact h
def woC (S : Mem) (k : Nat) : Int64 := (S.1 k 4).toInt64 * (if S.1 k 1 - S.1 k 2 < 0 then 0 else S.1 k 1 - S.1 k 2).toInt64
theorem e_weigh {k : Nat} (hk : isProN 156 k) (S : Mem) {Qr : QR} {Qx : QX} (h : Qr none (S.1, u2 S.2 k 5 (woC S k))) : vsp 156 6 (sX6_weigh 156) [.ref k] S Qr Qx :=
  ⟨hk.1, runG rfl 40 ⟨hk.1, hk.1, hk.1, ⟨Nat.le_of_ble_eq_true rfl, Nat.le_of_ble_eq_true rfl, Nat.le_of_ble_eq_true rfl⟩, hk.1, rfl, h⟩⟩
theorem e_unitsInStore {k n : Nat} (hk : isProN 156 k) (S : Mem) (hn : S.1 k 7 = nI n) (hn4 : n ≤ 40) {Qr : QR} {Qx : QX} (h : Qr (some (.long (sumN (S.2 (k + 1)) n))) S) : vsp 156 6 (sX6_unitsInStore 156) [.ref k] S Qr Qx := by
  obtain ⟨h0, h1, h2⟩ := hk
  refine ⟨h0, runL (α := Nat) rfl 60 4 0 (fun i => [(3, .int (nI i)), (1, .long (sumN (S.2 (k + 1)) i)), (0, .ref k)]) (fun _ => S) (fun i => n - i) (fun i => i ≤ n) (fun i hi => ?_) ?_⟩
  · refine ⟨h0, And.intro (fun a1 => ?_) (fun a1 => ?_)⟩
    · have a1 : nI n ≤ nI i := hn ▸ a1
      obtain rfl := le_of_nI (by omega) hi a1
      exact ⟨rfl, h⟩
    · have a1 : ¬ nI n ≤ nI i := hn ▸ a1
      have hlt := lt_of_nI (by omega) hi a1
      refine ⟨h0, 40, h1, vp_nI (by omega), rfl, rfl, i + 1, ⟨by omega, by omega⟩, rfl, congrArg (fun z => some (Value.int z)) (nI_1 i), ?_, rfl, trivial⟩
      show some (Value.long (sumN (S.2 (k + 1)) i + S.2 (k + 1) (nI i).toNatClampNeg)) = some (Value.long (sumN (S.2 (k + 1)) i + S.2 (k + 1) i))
      rw [nI_clamp (by omega)]
  · exact ⟨rfl, rfl, 0, Nat.zero_le n, rfl, rfl, rfl, rfl, trivial⟩
theorem e_centsInStore {k n : Nat} (hk : isProN 156 k) (S : Mem) (hn : S.1 k 7 = nI n) (hn4 : n ≤ 40) {Qr : QR} {Qx : QX} (h : Qr (some (.long (sumN (S.2 (k + 2)) n))) S) : vsp 156 6 (sX6_centsInStore 156) [.ref k] S Qr Qx := by
  obtain ⟨h0, h1, h2⟩ := hk
  refine ⟨h0, runL (α := Nat) rfl 60 4 0 (fun i => [(3, .int (nI i)), (1, .long (sumN (S.2 (k + 2)) i)), (0, .ref k)]) (fun _ => S) (fun i => n - i) (fun i => i ≤ n) (fun i hi => ?_) ?_⟩
  · refine ⟨h0, And.intro (fun a1 => ?_) (fun a1 => ?_)⟩
    · have a1 : nI n ≤ nI i := hn ▸ a1
      obtain rfl := le_of_nI (by omega) hi a1
      exact ⟨rfl, h⟩
    · have a1 : ¬ nI n ≤ nI i := hn ▸ a1
      have hlt := lt_of_nI (by omega) hi a1
      refine ⟨h0, 40, h2, vp_nI (by omega), rfl, rfl, i + 1, ⟨by omega, by omega⟩, rfl, congrArg (fun z => some (Value.int z)) (nI_1 i), ?_, rfl, trivial⟩
      show some (Value.long (sumN (S.2 (k + 2)) i + S.2 (k + 2) (nI i).toNatClampNeg)) = some (Value.long (sumN (S.2 (k + 2)) i + S.2 (k + 2) i))
      rw [nI_clamp (by omega)]
  · exact ⟨rfl, rfl, 0, Nat.zero_le n, rfl, rfl, rfl, rfl, trivial⟩
