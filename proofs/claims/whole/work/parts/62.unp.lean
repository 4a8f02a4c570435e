/-! ===== moveUnplaced ===== -/
abbrev unP (S : Mem) (p : Nat) : Prop := ¬ S.1 (89 + 3 * p) 4 = 0
def uuC (S : Mem) (p : Nat) : Int64 := if S.1 (89 + 3 * p) 4 = 0 then S.2 (89 + 3 * p) 6 else 0
/-- products without units have no cents -/
def unR (S : Mem) (X : Nat → Nat → Int64) (n : Nat) : Prop := ∀ p, p < n → S.1 (89 + 3 * p) 4 = 0 → X (89 + 3 * p) 6 = 0
theorem sumN_up (g : Nat → Int64) (n m : Nat) : sumN g n - sumN g (m + 1) + g m = sumN g n - sumN g m := by
  rw [show sumN g (m + 1) = sumN g m + g m from rfl]
  grind
set_option maxHeartbeats 2000000 in
theorem e_moveUnplaced {n l : Nat} (S : Mem) (hn : S.1 1 3 = nI n) (hn4 : n ≤ 4) (hl : l < 5) (hd : S.1 1 2 = nI (l + 1)) {Qr : QR} {Qx : QX}
    (h : ∀ (q : Nat) (X : Nat → Nat → Int64), q < n → unP S q → (∀ p, p < q → ¬ unP S p) → unR S X n → (∀ p, p < n → unP S p → X (89 + 3 * p) 6 = S.2 (89 + 3 * p) 6 + (if p = q then sumN (uuC S) n else 0)) → fr2 S (S.1, X) 6 → Qr none (S.1, X))
    (h0 : ∀ X : Nat → Nat → Int64, (∀ p, p < n → ¬ unP S p) → unR S X n → fr2 S (S.1, X) 6 → Qr none (S.1, u2 X (9 + 17 * l) 16 (S.2 (9 + 17 * l) 16 + sumN (uuC S) n))) : vsp 156 1 (sX1_moveUnplaced 156) [.ref 1] S Qr Qx := by
  have t1 : tyN 156 1 = (0, 1, 0, 0) := rfl
  have t3 : tyN 156 3 = (5, 4, 89, 3) := rfl
  refine ⟨t1, runL (α := Nat × Int32 × (Nat → Nat → Int64)) rfl 120 12 0 (fun a => [(4, .int (dn a.1)), (3, .int a.2.1), (1, .long (sumN (uuC S) n - sumN (uuC S) a.1)), (0, .ref 1)]) (fun a => (S.1, a.2.2)) (fun a => a.1)
    (fun a => a.1 ≤ n ∧ fstP (unP S) a.1 n a.2.1 ∧ (∀ p, p < a.1 → a.2.2 (89 + 3 * p) 6 = S.2 (89 + 3 * p) 6) ∧ (∀ p, a.1 ≤ p → p < n → S.1 (89 + 3 * p) 4 = 0 → a.2.2 (89 + 3 * p) 6 = 0) ∧ (∀ p, p < n → unP S p → a.2.2 (89 + 3 * p) 6 = S.2 (89 + 3 * p) 6) ∧ fr2 S (S.1, a.2.2) 6) ?_ ?_⟩
  · rintro ⟨i, v, X⟩ ⟨hi, hv, ho, hz, hu, f2⟩
    dsimp only at hi hv ho hz hu f2
    rcases i with _ | m
    · refine And.intro (fun _ => ?_) (fun x => absurd dn_0 x)
      rcases hv with ⟨hv, hx⟩ | ⟨q, a, b, c, d, e⟩
      · refine And.intro (fun _ => ?_) (fun x => absurd hv x)
        have hk := depN (N := 156) (d := l) (by decide) hl
        refine ⟨⟨Nat.le_of_ble_eq_true rfl, Nat.le_of_ble_eq_true rfl, Nat.le_of_ble_eq_true rfl⟩, e_lastDep hl (S.1, X) hd ⟨hk.1, hk.2.2.2.2.1, hk.2.2.2.2.1, rfl, ?_⟩⟩
        show Qr none (S.1, u2 X (4 + 17 * l + 5) 16 (X (4 + 17 * l + 5) 16 + (sumN (uuC S) n - 0)))
        have e5 : X (9 + 17 * l) 16 = S.2 (9 + 17 * l) 16 := f2 _ _ (by omega)
        rw [show 4 + 17 * l + 5 = 9 + 17 * l by omega, Int64.sub_zero, e5]
        exact h0 X (fun p x => hx p (Nat.zero_le p) x) (fun p x y => hz p (Nat.zero_le p) x y) f2
      · have hp : isProN 156 (89 + 3 * v.toNatClampNeg) := by rw [d, nI_clamp (by omega)]; exact proN (by decide) (by omega)
        refine And.intro (fun x => absurd (d ▸ x) (nI_ne (by omega))) (fun _ => ?_)
        refine ⟨t1, 1, 4, 89, 3, t3, by decide, d ▸ vp_nI (by omega), hp.1, hp.1, rfl, ?_⟩
        show Qr none (S.1, u2 X (89 + 3 * v.toNatClampNeg) 6 (X (89 + 3 * v.toNatClampNeg) 6 + (sumN (uuC S) n - 0)))
        rw [d, nI_clamp (by omega), Int64.sub_zero]
        refine h q _ b c (fun p x => e p (Nat.zero_le p) x) (fun p x y => ?_) (fun p x y => ?_) (fun k j x => ?_)
        · have z : p ≠ q := fun z => c (z ▸ y)
          rw [u2_k _ _ _ _ (by omega)]; exact hz p (Nat.zero_le p) x y
        · by_cases z : p = q
          · subst z
            rw [u2_s, if_pos rfl, hu p x y]
          · rw [u2_k _ _ _ _ (by omega), if_neg z, hu p x y, Int64.add_zero]
        · show u2 X (89 + 3 * q) 6 _ k j = S.2 k j
          by_cases z : j = 6
          · rw [u2_k _ _ _ _ (by omega)]; exact f2 k j x
          · rw [u2_j _ _ _ _ z]; exact f2 k j x
    · have hcl : (dn (m + 1)).toNatClampNeg = m := dn_c (by omega)
      have hp : isProN 156 (89 + 3 * (dn (m + 1)).toNatClampNeg) := by rw [hcl]; exact proN (by decide) (by omega)
      refine And.intro (fun x => absurd x (dn_p (by omega))) (fun _ => ⟨t1, 1, 4, 89, 3, t3, by decide, dn_v (by omega), hp.1, And.intro (fun x => ?_) (fun x => ?_)⟩)
      · have hun : unP S m := by
          have x : ¬ S.1 (89 + 3 * (dn (m + 1)).toNatClampNeg) 4 = 0 := x
          rw [hcl] at x; exact x
        refine ⟨rfl, rfl, (m, dn (m + 1), X), ⟨⟨by show m ≤ n; omega, dn_s m ▸ fstP.yes (by omega) hun, fun p y => ho p (by have y : p < m := y; omega), fun p x y z => ?_, hu, f2⟩, by show m < m + 1; omega⟩, rfl, congrArg (fun z => some (Value.int z)) (dn_n m), rfl, ?_, rfl, trivial⟩
        · have x : m ≤ p := x
          have w : p ≠ m := fun w => hun (w ▸ z)
          exact hz p (by omega) y z
        · refine congrArg (fun z => some (Value.long z)) ?_
          show sumN (uuC S) n - (sumN (uuC S) m + uuC S m) = _
          have z : uuC S m = 0 := if_neg hun
          rw [z, Int64.add_zero]
      · have hz0 : S.1 (89 + 3 * m) 4 = 0 := by
          have x : S.1 (89 + 3 * (dn (m + 1)).toNatClampNeg) 4 = 0 := x
          rw [hcl] at x; exact x
        have v6 : X (89 + 3 * (dn (m + 1)).toNatClampNeg) 6 = uuC S m := by rw [hcl, uuC, if_pos hz0]; exact ho m (by omega)
        refine ⟨hp.1, hp.1, rfl, rfl, (m, v, u2 X (89 + 3 * m) 6 0), ⟨⟨by show m ≤ n; omega, hv.no (fun w => w hz0), fun p y => ?_, fun p x y z => ?_, fun p x y => ?_, fun c j x => ?_⟩, by show m < m + 1; omega⟩, ?_, congrArg (fun z => some (Value.int z)) (dn_n m), rfl, ?_, rfl, trivial⟩
        · have y : p < m := y
          show u2 X (89 + 3 * m) 6 0 (89 + 3 * p) 6 = _
          rw [u2_k _ _ _ _ (by omega)]; exact ho p (by omega)
        · have x : m ≤ p := x
          show u2 X (89 + 3 * m) 6 0 (89 + 3 * p) 6 = 0
          by_cases w : p = m
          · subst w; exact u2_s _ _ _ _
          · rw [u2_k _ _ _ _ (by omega)]; exact hz p (by omega) y z
        · have w : p ≠ m := fun w => y (w ▸ hz0)
          show u2 X (89 + 3 * m) 6 0 (89 + 3 * p) 6 = _
          rw [u2_k _ _ _ _ (by omega)]; exact hu p x y
        · show u2 X (89 + 3 * m) 6 0 c j = S.2 c j
          by_cases z : j = 6
          · rw [u2_k _ _ _ _ (by omega)]; exact f2 c j x
          · rw [u2_j _ _ _ _ z]; exact f2 c j x
        · show (S.1, u2 X (89 + 3 * (dn (m + 1)).toNatClampNeg) 6 0) = _
          rw [hcl]
        · refine congrArg (fun z => some (Value.long z)) ?_
          show sumN (uuC S) n - sumN (uuC S) (m + 1) + X (89 + 3 * (dn (m + 1)).toNatClampNeg) 6 = _
          rw [v6, sumN_up]
  · refine ⟨t1, rfl, rfl, (n, -1, S.2), ⟨Nat.le_refl n, fstP.end, fun p x => rfl, fun p x y => absurd y (by have x : n ≤ p := x; omega), fun p x y => rfl, fun c j x => rfl⟩, rfl, ?_, rfl, ?_, rfl, trivial⟩
    · show some (Value.int (S.1 1 3 - 1)) = _
      rw [hn]; rfl
    · refine congrArg (fun z => some (Value.long z)) ?_
      exact (Int64.sub_self _).symm
