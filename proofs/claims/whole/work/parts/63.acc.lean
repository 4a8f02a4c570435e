/-! ===== addToAccounts ===== -/
def spC (S : Mem) (d : Nat) : Int64 := sumN (S.2 (14 + 17 * d)) 4 - S.2 (14 + 17 * d) 0
def scC (S : Mem) (d : Nat) : Int64 := (S.1 (9 + 17 * d) 4).toInt64 * (S.1 (4 + 17 * d) 3).toInt64
/-- the accounts with n departments' months added -/
def accX (S : Mem) (n : Nat) : Nat → Nat → Int64 := fun c j => if c = 1 ∧ j = 7 then S.2 1 7 + sumN (spC S) n else if c = 1 ∧ j = 9 then S.2 1 9 + sumN (fun d => S.2 (9 + 17 * d) 16) n else if c = 1 ∧ j = 10 then S.2 1 10 + sumN (scC S) n else S.2 c j
theorem accX_o (S : Mem) (n : Nat) {c : Nat} (h : c ≠ 1) : accX S n c = S.2 c := by
  funext j
  simp [accX, h]
theorem accX_0 (S : Mem) : accX S 0 = S.2 := by
  funext c j
  unfold accX
  by_cases h : c = 1
  · subst h
    by_cases a : j = 7
    · subst a; simp [sumN]
    · by_cases b : j = 9
      · subst b; simp [sumN]
      · by_cases d : j = 10
        · subst d; simp [sumN]
        · simp [a, b, d]
  · simp [h]
theorem accX_s (S : Mem) (n k : Nat) (hk : k = 4 + 17 * n) : ∀ Y1, Y1 = u2 (accX S n) 1 7 (accX S n 1 7 + (sumN (accX S n (k + 5 + 5)) 4 - accX S n (k + 5 + 5) 0)) → ∀ Y2, Y2 = u2 Y1 1 9 (Y1 1 9 + Y1 (k + 5) 16) → ∀ Y3, Y3 = u2 Y2 1 10 (Y2 1 10 + (S.1 (k + 5) 4).toInt64 * (S.1 k 3).toInt64) → Y3 = accX S (n + 1) := by
  intro Y1 h1 Y2 h2 Y3 h3
  have e1 : accX S n (k + 5 + 5) = S.2 (k + 5 + 5) := accX_o _ _ (by omega)
  have e2 : Y1 (k + 5) 16 = S.2 (k + 5) 16 := by
    rw [h1, u2_k _ _ _ _ (by omega), accX_o _ _ (by omega)]
  rw [e2] at h2
  rw [e1] at h1
  have k1 : k + 5 + 5 = 14 + 17 * n := by omega
  have k2 : k + 5 = 9 + 17 * n := by omega
  rw [k1] at h1
  rw [k2] at h2 h3
  rw [hk] at h3
  have g1 : sumN (spC S) (n + 1) = sumN (spC S) n + (sumN (S.2 (14 + 17 * n)) 4 - S.2 (14 + 17 * n) 0) := rfl
  have g2 : sumN (fun d => S.2 (9 + 17 * d) 16) (n + 1) = sumN (fun d => S.2 (9 + 17 * d) 16) n + S.2 (9 + 17 * n) 16 := rfl
  have g3 : sumN (scC S) (n + 1) = sumN (scC S) n + (S.1 (9 + 17 * n) 4).toInt64 * (S.1 (4 + 17 * n) 3).toInt64 := rfl
  subst h1 h2 h3
  funext c j
  by_cases h : c = 1
  · subst h
    by_cases a : j = 7
    · subst a; simp only [u2, accX, g1]; simp [Int64.add_assoc]
    · by_cases b : j = 9
      · subst b; simp only [u2, accX, g2]; simp [Int64.add_assoc]
      · by_cases d : j = 10
        · subst d; simp only [u2, accX, g3]; simp [Int64.add_assoc]
        · simp [u2, accX, a, b, d]
  · simp [u2, accX, h]
set_option maxHeartbeats 1000000 in
theorem e_addToAccounts {n : Nat} (S : Mem) (hn : S.1 1 2 = nI n) (hn5 : n ≤ 5) {Qr : QR} {Qx : QX} (h : Qr none (S.1, accX S n)) : vsp 156 1 (sX1_addToAccounts 156) [.ref 1] S Qr Qx := by
  have t1 : tyN 156 1 = (0, 1, 0, 0) := rfl
  have t2 : tyN 156 2 = (4, 5, 4, 17) := rfl
  refine ⟨t1, runL (α := Nat) rfl 60 2 0 (fun i => [(1, .int (nI i)), (0, .ref 1)]) (fun i => (S.1, accX S i)) (fun i => n - i) (fun i => i ≤ n) (fun i hi => ?_) ?_⟩
  · refine ⟨t1, And.intro (fun a1 => ?_) (fun a1 => ?_)⟩
    · have a1 : nI n ≤ nI i := hn ▸ a1
      obtain rfl := le_of_nI (by omega) hi a1
      exact ⟨rfl, h⟩
    · have a1 : ¬ nI n ≤ nI i := hn ▸ a1
      have hlt := lt_of_nI (by omega) hi a1
      have hcl : (nI i).toNatClampNeg = i := nI_clamp (by omega)
      have hk0 : isDepN 156 (4 + 17 * i) := depN (by decide) (by omega)
      have hk : isDepN 156 (4 + 17 * (nI i).toNatClampNeg) := by rw [hcl]; exact hk0
      have hq := hk.2.2.2.2
      refine ⟨t1, 0, 5, 4, 17, t2, by decide, vp_nI (by omega), t1, hk.1, ⟨Nat.le_of_ble_eq_true rfl, Nat.le_of_ble_eq_true rfl, Nat.le_of_ble_eq_true rfl⟩, e_spent (isMon_of hq) _ ⟨t1, t1, hk.1, hq.1, t1, t1, ⟨Nat.le_of_ble_eq_true rfl, Nat.le_of_ble_eq_true rfl, Nat.le_of_ble_eq_true rfl⟩, e_scrap hk _ ⟨t1, rfl, rfl, i + 1, ⟨by omega, by omega⟩, ?_, congrArg (fun z => some (Value.int z)) (nI_1 i), rfl, trivial⟩⟩⟩
      exact congrArg (fun z => (S.1, z)) (accX_s S i _ (by rw [hcl]) _ rfl _ rfl _ rfl)
  · exact ⟨rfl, rfl, 0, Nat.zero_le _, by show S = (S.1, accX S 0); rw [accX_0], rfl, rfl, trivial⟩
