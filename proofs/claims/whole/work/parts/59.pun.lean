/-! ===== partUnits ===== -/
/-- ints of products other than at place j, and all else, stay -/
def fr1 (S S' : Mem) (j : Nat) : Prop := ∀ c i, c < 89 ∨ 101 ≤ c ∨ i ≠ j → S'.1 c i = S.1 c i
def fr2 (S S' : Mem) (j : Nat) : Prop := ∀ c i, c < 89 ∨ 101 ≤ c ∨ c % 3 ≠ 2 ∨ i ≠ j → S'.2 c i = S.2 c i
def uA (S : Mem) (f : Int32) (p : Nat) : Int32 := S.1 (89 + 3 * p) 0 * f / 100
def opU (S : Mem) (f : Int32) : Nat → Int32
  | 0 => f
  | n + 1 => opU S f n - uA S f n
def uF (S : Mem) (f : Int32) (n p : Nat) : Int32 := if p = 0 then uA S f 0 + opU S f n else uA S f p
set_option maxHeartbeats 1000000 in
theorem e_partUnits {n : Nat} (f : Int32) (S : Mem) (hn : S.1 1 3 = nI n) (hn0 : 0 < n) (hn4 : n ≤ 4) {Qr : QR} {Qx : QX} (h : ∀ S' : Mem, (∀ p, p < n → S'.1 (89 + 3 * p) 4 = uF S f n p ∧ S'.2 (89 + 3 * p) 5 = woC S' (89 + 3 * p)) → fr1 S S' 4 → fr2 S S' 5 → Qr none S') : vsp 156 1 (sX1_partUnits 156) [.ref 1, .int f] S Qr Qx := by
  have t1 : tyN 156 1 = (0, 1, 0, 0) := rfl
  have t3 : tyN 156 3 = (5, 4, 89, 3) := rfl
  refine ⟨t1, runL2 (α := Nat × Mem) (β := Nat × Mem) rfl 120 4 0 70 0 (fun a => [(3, .int (nI a.1)), (2, .int (opU S f a.1)), (1, .int f), (0, .ref 1)]) (fun a => a.2) (fun a => n - a.1) (fun a => a.1 ≤ n ∧ (∀ p, p < a.1 → a.2.1 (89 + 3 * p) 4 = uA S f p) ∧ fr1 S a.2 4 ∧ a.2.2 = S.2)
    (fun a => [(3, .int (nI a.1)), (0, .ref 1)]) (fun a => a.2) (fun a => n - a.1) (fun a => a.1 ≤ n ∧ (∀ p, p < n → a.2.1 (89 + 3 * p) 4 = uF S f n p) ∧ (∀ p, p < a.1 → a.2.2 (89 + 3 * p) 5 = woC a.2 (89 + 3 * p)) ∧ fr1 S a.2 4 ∧ fr2 S a.2 5) ?_ ?_ ?_⟩
  · rintro ⟨i, T⟩ ⟨hi, hu, hw, f1, f2⟩
    dsimp only at hi hu hw f1 f2
    have e3 : T.1 1 3 = nI n := (f1 1 3 (by omega)).trans hn
    refine ⟨t1, And.intro (fun a1 => ?_) (fun a1 => ?_)⟩
    · have a1 : nI n ≤ nI i := e3 ▸ a1
      obtain rfl := le_of_nI (by omega) hi a1
      exact ⟨rfl, h T (fun p hp => ⟨hu p hp, hw p hp⟩) f1 f2⟩
    · have a1 : ¬ nI n ≤ nI i := e3 ▸ a1
      have hlt := lt_of_nI (by omega) hi a1
      have hcl : (nI i).toNatClampNeg = i := nI_clamp (by omega)
      refine ⟨t1, 1, 4, 89, 3, t3, by decide, vp_nI (by omega), ⟨Nat.le_of_ble_eq_true rfl, Nat.le_of_ble_eq_true rfl, Nat.le_of_ble_eq_true rfl⟩, ?_⟩
      show vsp 156 6 (sX6_weigh 156) [.ref (89 + 3 * (nI i).toNatClampNeg)] T _ _
      rw [hcl]
      refine e_weigh (proN (by decide) (by omega)) T ⟨rfl, rfl, (i + 1, (T.1, u2 T.2 (89 + 3 * i) 5 (woC T (89 + 3 * i)))), ⟨⟨by show i + 1 ≤ n; omega, hu, fun p hp => ?_, f1, fun c j x => ?_⟩, by show n - (i + 1) < n - i; omega⟩, rfl, congrArg (fun z => some (Value.int z)) (nI_1 i), rfl, trivial⟩
      · have hp : p < i + 1 := hp
        show u2 T.2 (89 + 3 * i) 5 (woC T (89 + 3 * i)) (89 + 3 * p) 5 = woC T (89 + 3 * p)
        by_cases e : p = i
        · subst e; exact u2_s _ _ _ _
        · rw [u2_k _ _ _ _ (by omega)]; exact hw p (by omega)
      · show u2 T.2 (89 + 3 * i) 5 (woC T (89 + 3 * i)) c j = S.2 c j
        by_cases e : j = 5
        · rw [u2_k _ _ _ _ (by omega)]; exact f2 c j x
        · rw [u2_j _ _ _ _ e]; exact f2 c j x
  · rintro ⟨i, T⟩ ⟨hi, hu, f1, f2⟩
    dsimp only at hi hu f1 f2
    have e3 : T.1 1 3 = nI n := (f1 1 3 (by omega)).trans hn
    refine ⟨t1, And.intro (fun a1 => ?_) (fun a1 => ?_)⟩
    · have a1 : nI n ≤ nI i := e3 ▸ a1
      obtain rfl := le_of_nI (by omega) hi a1
      have hp0 : isProN 156 89 := proN (p := 0) (by decide) (by decide)
      refine ⟨t1, 1, 4, 89, 3, t3, by decide, vp_nI (n := 0) (N := 4) (by decide), hp0.1, hp0.1, rfl, rfl, (0, (u2 T.1 89 4 (T.1 89 4 + opU S f i), T.2)), ⟨Nat.zero_le _, fun p hp => ?_, fun p hp => absurd hp (Nat.not_lt_zero p), fun c j x => ?_, fun c j x => ?_⟩, rfl, rfl, rfl, trivial⟩
      · show u2 T.1 89 4 (T.1 89 4 + opU S f i) (89 + 3 * p) 4 = uF S f i p
        by_cases e : p = 0
        · subst e
          exact (u2_s _ _ _ _).trans (by rw [hu 0 (by omega)]; rfl)
        · rw [u2_k _ _ _ _ (by omega), uF, if_neg e]; exact hu p hp
      · show u2 T.1 89 4 (T.1 89 4 + opU S f i) c j = S.1 c j
        by_cases e : j = 4
        · rw [u2_k _ _ _ _ (by omega)]; exact f1 c j x
        · rw [u2_j _ _ _ _ e]; exact f1 c j x
      · exact congrFun (congrFun f2 c) j
    · have a1 : ¬ nI n ≤ nI i := e3 ▸ a1
      have hlt := lt_of_nI (by omega) hi a1
      have hcl : (nI i).toNatClampNeg = i := nI_clamp (by omega)
      have hp : isProN 156 (89 + 3 * (nI i).toNatClampNeg) := by rw [hcl]; exact proN (by decide) (by omega)
      have v0 : T.1 (89 + 3 * i) 0 * f / 100 = uA S f i := by rw [f1 _ _ (Or.inr (Or.inr (by decide)))]; rfl
      refine ⟨t1, 1, 4, 89, 3, t3, by decide, vp_nI (by omega), t1, 1, 4, 89, 3, t3, by decide, vp_nI (by omega), hp.1, by decide, hp.1, t1, 1, 4, 89, 3, t3, by decide, vp_nI (by omega), hp.1, rfl, rfl, (i + 1, (u2 T.1 (89 + 3 * i) 4 (uA S f i), T.2)), ⟨⟨by show i + 1 ≤ n; omega, fun p hp => ?_, fun c j x => ?_, f2⟩, by show n - (i + 1) < n - i; omega⟩, ?_, congrArg (fun z => some (Value.int z)) (nI_1 i), ?_, rfl, rfl, trivial⟩
      · have hp : p < i + 1 := hp
        show u2 T.1 (89 + 3 * i) 4 (uA S f i) (89 + 3 * p) 4 = uA S f p
        by_cases e : p = i
        · subst e; exact u2_s _ _ _ _
        · rw [u2_k _ _ _ _ (by omega)]; exact hu p (by omega)
      · show u2 T.1 (89 + 3 * i) 4 (uA S f i) c j = S.1 c j
        by_cases e : j = 4
        · rw [u2_k _ _ _ _ (by omega)]; exact f1 c j x
        · rw [u2_j _ _ _ _ e]; exact f1 c j x
      · show (u2 T.1 (89 + 3 * (nI i).toNatClampNeg) 4 (T.1 (89 + 3 * (nI i).toNatClampNeg) 0 * f / 100), T.2) = (u2 T.1 (89 + 3 * i) 4 (uA S f i), T.2)
        rw [hcl, v0]
      · show some (Value.int (opU S f i - u2 T.1 (89 + 3 * (nI i).toNatClampNeg) 4 (T.1 (89 + 3 * (nI i).toNatClampNeg) 0 * f / 100) (89 + 3 * (nI i).toNatClampNeg) 4)) = some (Value.int (opU S f (i + 1)))
        rw [u2_s, hcl, v0]
        rfl
  · exact ⟨rfl, rfl, (0, S), ⟨Nat.zero_le _, fun p hp => absurd hp (Nat.not_lt_zero p), fun _ _ _ => rfl, rfl⟩, rfl, rfl, rfl, rfl, rfl, trivial⟩
