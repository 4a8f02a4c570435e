/-! ===== takeOut ===== -/
def psC (S : Mem) (k : Nat) (w : Int64) (j : Nat) : Prop := S.2 (k + 1) j ≤ w - sumN (S.2 (k + 1)) j
def opC (S : Mem) (k : Nat) (w : Int64) (j : Nat) : Int64 := w - sumN (S.2 (k + 1)) j
def tkX (S : Mem) (k : Nat) (w : Int64) (g : Nat) : Nat → Nat → Int64 := u2 (u2 S.2 (k + 1) g (S.2 (k + 1) g - opC S k w g)) (k + 2) g (S.2 (k + 2) g - cut (S.2 (k + 2) g) (opC S k w g) (S.2 (k + 1) g))
set_option maxHeartbeats 1000000 in
theorem e_takeOut {k n : Nat} (hk : isProN 156 k) (wanted : Int32) (S : Mem) (hn : S.1 k 7 = nI n) (hn4 : n ≤ 40) {Qr : QR} {Qx : QX} (c1 : (∀ j, j < n → psC S k wanted.toInt64 j) → ∀ X, drpC S (S.1, X) k n 0 → Qr (some (.long (sumN (S.2 (k + 2)) n))) (u2 S.1 k 7 (nI 0), X))
    (c2 : ∀ g m, g + m = n → 0 < m → (∀ j, j < g → psC S k wanted.toInt64 j) → ¬ psC S k wanted.toInt64 g → ∀ X, drpC (S.1, tkX S k wanted.toInt64 g) (S.1, X) k g m → Qr (some (.long (sumN (S.2 (k + 2)) g + cut (S.2 (k + 2) g) (opC S k wanted.toInt64 g) (S.2 (k + 1) g)))) (u2 S.1 k 7 (nI m), X)) : vsp 156 6 (sX6_takeOut 156) [.ref k, .int wanted] S Qr Qx := by
  have hk' := hk
  obtain ⟨h0, h1, h2⟩ := hk
  have os : ∀ i, opC S k wanted.toInt64 i - S.2 (k + 1) i = opC S k wanted.toInt64 (i + 1) := fun i => by
    show wanted.toInt64 - sumN (S.2 (k + 1)) i - S.2 (k + 1) i = wanted.toInt64 - (sumN (S.2 (k + 1)) i + S.2 (k + 1) i)
    rw [Int64.sub_sub]
  refine ⟨h0, runL (α := Nat) rfl 90 9 0 (fun i => [(6, .int (nI i)), (4, .long (sumN (S.2 (k + 2)) i)), (2, .long (opC S k wanted.toInt64 i)), (0, .ref k)]) (fun _ => S) (fun i => n - i) (fun i => i ≤ n ∧ ∀ j, j < i → psC S k wanted.toInt64 j) ?_ ?_⟩
  · rintro i ⟨hi, hps⟩
    have hc : (nI i).toNatClampNeg = i := nI_clamp (by omega)
    refine ⟨h0, And.intro (fun a1 => ?_) (fun a1 => ?_)⟩
    · have a1' : nI n ≤ nI i := hn ▸ a1
      obtain rfl := le_of_nI (by omega) hi a1'
      refine ⟨h0, And.intro (fun _ => ?_) (fun x => absurd a1 x)⟩
      exact ⟨⟨Nat.le_of_ble_eq_true rfl, Nat.le_of_ble_eq_true rfl, Nat.le_of_ble_eq_true rfl⟩, e_dropOldest (g := i) (m := 0) hk' S hn hn4 (fun X d => ⟨rfl, c1 hps X d⟩)⟩
    · have a1' : ¬ nI n ≤ nI i := hn ▸ a1
      have hlt := lt_of_nI (by omega) hi a1'
      refine ⟨h0, 40, h1, vp_nI (by omega), And.intro (fun a2 => ⟨h0, And.intro (fun x => absurd x a1) (fun _ => ?_)⟩) (fun a2 => ?_)⟩
      · have a2 := (lg_cmp_gt _ _).mp a2
        rw [hc] at a2
        have np : ¬ psC S k wanted.toInt64 i := Int64.not_le.mpr a2
        refine ⟨h0, 40, h2, vp_nI (by omega), h0, 40, h1, vp_nI (by omega), ⟨Nat.le_of_ble_eq_true rfl, Nat.le_of_ble_eq_true rfl, Nat.le_of_ble_eq_true rfl⟩, e_partOf _ _ _ _ ⟨h0, 40, h1, vp_nI (by omega), 40, h1, vp_nI (by omega), h0, 40, h2, vp_nI (by omega), 40, h2, vp_nI (by omega), ?_⟩⟩
        obtain ⟨m, rfl⟩ : ∃ m, n = i + m := ⟨n - i, by omega⟩
        refine ⟨⟨Nat.le_of_ble_eq_true rfl, Nat.le_of_ble_eq_true rfl, Nat.le_of_ble_eq_true rfl⟩, ?_⟩
        show vsp 156 6 (sX6_dropOldest 156) [.ref k, .int (nI i)] (S.1, u2 (u2 S.2 (k + 1) (nI i).toNatClampNeg (S.2 (k + 1) (nI i).toNatClampNeg - opC S k wanted.toInt64 i)) (k + 2) (nI i).toNatClampNeg (u2 S.2 (k + 1) (nI i).toNatClampNeg (S.2 (k + 1) (nI i).toNatClampNeg - opC S k wanted.toInt64 i) (k + 2) (nI i).toNatClampNeg - cut (S.2 (k + 2) (nI i).toNatClampNeg) (opC S k wanted.toInt64 i) (S.2 (k + 1) (nI i).toNatClampNeg))) _ _
        rw [hc, u2_k _ _ _ _ (show k + 2 ≠ k + 1 by omega)]
        exact e_dropOldest (g := i) (m := m) hk' (S.1, tkX S k wanted.toInt64 i) hn hn4 (fun X d => ⟨rfl, c2 i m rfl (by omega) hps np X d⟩)
      · have a2 : psC S k wanted.toInt64 i := Int64.not_lt.mp (fun x => a2 ((lg_cmp_gt _ _).mpr (by rw [hc]; exact x)))
        refine ⟨h0, 40, h1, vp_nI (by omega), h0, 40, h2, vp_nI (by omega), rfl, rfl, i + 1, ⟨⟨by omega, fun j hj => ?_⟩, by omega⟩, rfl, congrArg (fun z => some (Value.int z)) (nI_1 i), ?_, ?_, rfl, trivial⟩
        · by_cases e : j = i
          · subst e; exact a2
          · exact hps j (by omega)
        · show some (Value.long (sumN (S.2 (k + 2)) i + S.2 (k + 2) (nI i).toNatClampNeg)) = some (Value.long (sumN (S.2 (k + 2)) i + S.2 (k + 2) i))
          rw [hc]
        · show some (Value.long (opC S k wanted.toInt64 i - S.2 (k + 1) (nI i).toNatClampNeg)) = some (Value.long (opC S k wanted.toInt64 (i + 1)))
          rw [hc, os]
  · refine ⟨rfl, rfl, 0, ⟨Nat.zero_le n, fun j hj => absurd hj (Nat.not_lt_zero j)⟩, rfl, rfl, rfl, ?_, rfl, trivial⟩
    show some (Value.long wanted.toInt64) = some (Value.long (wanted.toInt64 - 0))
    rw [Int64.sub_zero]
