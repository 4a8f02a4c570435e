/-! ===== mainMeasure ===== -/
def msC (S : Mem) (b : Int32) (p : Nat) : Int64 := if S.1 (89 + 3 * p) 3 = 0 then (if b = 0 then S.2 (89 + 3 * p) 5 else (S.1 (89 + 3 * p) 4).toInt64) else 0
theorem e_mainMeasure {n : Nat} (b : Int32) (S : Mem) (hn : S.1 1 3 = nI n) (hn4 : n ≤ 4) {Qr : QR} {Qx : QX} (h : Qr (some (.long (sumN (msC S b) n))) S) : vsp 156 1 (sX1_mainMeasure 156) [.ref 1, .int b] S Qr Qx := by
  have t1 : tyN 156 1 = (0, 1, 0, 0) := rfl
  have t3 : tyN 156 3 = (5, 4, 89, 3) := rfl
  refine ⟨t1, runL (α := Nat) rfl 60 5 0 (fun i => [(4, .int (nI i)), (2, .long (sumN (msC S b) i)), (0, .ref 1), (1, .int b)]) (fun _ => S) (fun i => n - i) (fun i => i ≤ n) (fun i hi => ?_) ?_⟩
  · refine ⟨t1, And.intro (fun a1 => ?_) (fun a1 => ?_)⟩
    · have a1 : nI n ≤ nI i := hn ▸ a1
      obtain rfl := le_of_nI (by omega) hi a1
      exact ⟨rfl, h⟩
    · have a1 : ¬ nI n ≤ nI i := hn ▸ a1
      have hlt := lt_of_nI (by omega) hi a1
      have hc : (nI i).toNatClampNeg = i := nI_clamp (by omega)
      have hp : isProN 156 (89 + 3 * (nI i).toNatClampNeg) := by rw [hc]; exact proN (by decide) (by omega)
      have key : ∀ v, v = msC S b i → some (Value.long (sumN (msC S b) i + v)) = some (Value.long (sumN (msC S b) (i + 1))) := fun v hv => by rw [hv]; rfl
      have ms : ∀ x, x = i → msC S b x = msC S b i := fun x hx => by rw [hx]
      refine ⟨t1, 1, 4, 89, 3, t3, by decide, vp_nI (by omega), ⟨Nat.le_of_ble_eq_true rfl, Nat.le_of_ble_eq_true rfl, Nat.le_of_ble_eq_true rfl⟩, e_isMain hp S ?_⟩
      by_cases e : S.1 (89 + 3 * (nI i).toNatClampNeg) 3 = 0
      · rw [if_pos e]
        refine And.intro (fun x => absurd x (by decide)) (fun _ => And.intro (fun b0 => ?_) (fun b0 => ?_))
        · refine ⟨hp.1, rfl, rfl, i + 1, ⟨by omega, by omega⟩, rfl, congrArg (fun z => some (Value.int z)) (nI_1 i), key _ ?_, rfl, rfl, trivial⟩
          rw [← ms _ hc, msC, if_pos e, if_pos b0]
        · refine ⟨hp.1, rfl, rfl, i + 1, ⟨by omega, by omega⟩, rfl, congrArg (fun z => some (Value.int z)) (nI_1 i), key _ ?_, rfl, rfl, trivial⟩
          rw [← ms _ hc, msC, if_pos e, if_neg b0]
      · rw [if_neg e]
        refine And.intro (fun _ => ⟨rfl, rfl, i + 1, ⟨by omega, by omega⟩, rfl, congrArg (fun z => some (Value.int z)) (nI_1 i), ?_, rfl, rfl, trivial⟩) (fun x => absurd rfl x)
        have z : msC S b i = 0 := by rw [← ms _ hc, msC, if_neg e]
        show some (Value.long (sumN (msC S b) i)) = some (Value.long (sumN (msC S b) i + msC S b i))
        rw [z, Int64.add_zero]
  · exact ⟨rfl, rfl, 0, Nat.zero_le n, rfl, rfl, rfl, rfl, rfl, trivial⟩
