/-! ===== partCents ===== -/
def minL (a b : Int64) : Int64 := if b < a then b else a
/-- what is open before product p, of the by-products -/
def opB (S : Mem) (out : Int64) : Nat → Int64
  | 0 => out
  | p + 1 => if S.1 (89 + 3 * p) 3 = 0 then opB S out p else opB S out p - minL (S.2 (89 + 3 * p) 5) (opB S out p)
theorem msC_congr {S T : Mem} (h1 : ∀ p, p < 4 → T.1 (89 + 3 * p) = S.1 (89 + 3 * p)) (h2 : ∀ p, p < 4 → T.2 (89 + 3 * p) 5 = S.2 (89 + 3 * p) 5) (b : Int32) {p : Nat} (hp : p < 4) : msC T b p = msC S b p := by
  unfold msC
  rw [h1 p hp, h2 p hp]
theorem sumN_congr {f g : Nat → Int64} : ∀ {n : Nat}, (∀ p, p < n → f p = g p) → sumN f n = sumN g n
  | 0, _ => rfl
  | n + 1, h => by
    show sumN f n + f n = sumN g n + g n
    rw [sumN_congr (fun p hp => h p (by omega)), h n (by omega)]
theorem gM_congr {S T : Mem} (h1 : ∀ p, p < 4 → T.1 (89 + 3 * p) = S.1 (89 + 3 * p)) (h2 : ∀ p, p < 4 → T.2 (89 + 3 * p) 5 = S.2 (89 + 3 * p) 5) {n : Nat} (hn : n ≤ 4) (cents : Int64) {p : Nat} (hp : p < 4) : gM T n cents p = gM S n cents p := by
  have a : ∀ b, sumN (msC T b) n = sumN (msC S b) n := fun b => sumN_congr (fun p x => msC_congr h1 h2 b (by omega))
  have b : mB T n = mB S n := by unfold mB; rw [a]
  unfold gM
  rw [b, a, h1 p hp, msC_congr h1 h2 _ hp]
set_option maxHeartbeats 1000000 in
theorem e_partCents {n : Nat} (out : Int64) (S : Mem) (hn : S.1 1 3 = nI n) (hn4 : n ≤ 4) (hm : ∃ p, p < n ∧ mnP S p) {Qr : QR} {Qx : QX}
    (h : ∀ (q : Nat) (X : Nat → Nat → Int64), q < n → mnP S q → (∀ p, p < q → ¬ mnP S p) → (∀ p, p < n → mnP S p → X (89 + 3 * p) 6 = gM S n (opB S out n) p + (if p = q then opB S out n - sumN (gM S n (opB S out n)) n else 0)) → (∀ p, p < n → ¬ mnP S p → X (89 + 3 * p) 6 = minL (S.2 (89 + 3 * p) 5) (opB S out p)) → fr2 S (S.1, X) 6 → Qr none (S.1, X)) : vsp 156 1 (sX1_partCents 156) [.ref 1, .long out] S Qr Qx := by
  have t1 : tyN 156 1 = (0, 1, 0, 0) := rfl
  have t3 : tyN 156 3 = (5, 4, 89, 3) := rfl
  refine ⟨t1, runL (α := Nat × (Nat → Nat → Int64)) rfl 120 5 0 (fun a => [(5, .int (nI a.1)), (3, .long (opB S out a.1)), (0, .ref 1)]) (fun a => (S.1, a.2)) (fun a => n - a.1)
    (fun a => a.1 ≤ n ∧ (∀ p, p < a.1 → ¬ mnP S p → a.2 (89 + 3 * p) 6 = minL (S.2 (89 + 3 * p) 5) (opB S out p)) ∧ fr2 S (S.1, a.2) 6) ?_ ?_⟩
  · rintro ⟨i, X⟩ ⟨hi, hb, f2⟩
    dsimp only at hi hb f2
    refine ⟨t1, And.intro (fun a1 => ?_) (fun a1 => ?_)⟩
    · have a1 : nI n ≤ nI i := hn ▸ a1
      obtain rfl := le_of_nI (by omega) hi a1
      have c2 : ∀ p, p < 4 → (S.1, X).2 (89 + 3 * p) 5 = S.2 (89 + 3 * p) 5 := fun p _ => f2 _ _ (Or.inr (Or.inr (Or.inr (by decide))))
      have cg : ∀ p, p < 4 → gM (S.1, X) i (opB S out i) p = gM S i (opB S out i) p := fun p hp => gM_congr (S := S) (T := (S.1, X)) (fun _ _ => rfl) c2 hn4 _ hp
      refine ⟨⟨Nat.le_of_ble_eq_true rfl, Nat.le_of_ble_eq_true rfl, Nat.le_of_ble_eq_true rfl⟩, e_partAmongMain (opB S out i) (S.1, X) hn hn4 hm (fun q Y q1 q2 q3 y1 y2 y3 => ⟨rfl, h q Y q1 q2 q3 (fun p x y => ?_) (fun p x y => ?_) (fun c j x => ?_)⟩)⟩
      · rw [y1 p x y, cg p (by omega), sumN_congr (fun p x => cg p (by omega))]
      · rw [y2 p x y]; exact hb p x y
      · exact (y3 c j x).trans (f2 c j x)
    · have a1 : ¬ nI n ≤ nI i := hn ▸ a1
      have hlt := lt_of_nI (by omega) hi a1
      have hcl : (nI i).toNatClampNeg = i := nI_clamp (by omega)
      have hp : isProN 156 (89 + 3 * (nI i).toNatClampNeg) := by rw [hcl]; exact proN (by decide) (by omega)
      refine ⟨t1, 1, 4, 89, 3, t3, by decide, vp_nI (by omega), ⟨Nat.le_of_ble_eq_true rfl, Nat.le_of_ble_eq_true rfl, Nat.le_of_ble_eq_true rfl⟩, e_isMain hp _ ?_⟩
      by_cases e : S.1 (89 + 3 * (nI i).toNatClampNeg) 3 = 0
      · have hmn : mnP S i := by rw [hcl] at e; exact e
        have e9 : (if (S.1, X).1 (89 + 3 * (nI i).toNatClampNeg) 3 = 0 then (1 : Int32) else 0) = 1 := if_pos e
        rw [e9]
        refine And.intro (fun _ => ⟨rfl, rfl, (i + 1, X), ⟨⟨by show i + 1 ≤ n; omega, fun p x y => ?_, f2⟩, by show n - (i + 1) < n - i; omega⟩, rfl, congrArg (fun z => some (Value.int z)) (nI_1 i), ?_, rfl, trivial⟩) (fun x => absurd x (by decide))
        · have x : p < i + 1 := x
          have w : p ≠ i := fun w => y (w ▸ hmn)
          exact hb p (by omega) y
        · refine congrArg (fun z => some (Value.long z)) ?_
          show opB S out i = if S.1 (89 + 3 * i) 3 = 0 then _ else _
          rw [if_pos hmn]
      · have hmn : ¬ mnP S i := by rw [hcl] at e; exact e
        have e9 : (if (S.1, X).1 (89 + 3 * (nI i).toNatClampNeg) 3 = 0 then (1 : Int32) else 0) = 0 := if_neg e
        rw [e9]
        have v5 : X (89 + 3 * (nI i).toNatClampNeg) 5 = S.2 (89 + 3 * i) 5 := by rw [hcl]; exact f2 _ _ (Or.inr (Or.inr (Or.inr (by decide))))
        refine And.intro (fun x => absurd rfl x) (fun _ => ⟨hp.1, ⟨Nat.le_of_ble_eq_true rfl, Nat.le_of_ble_eq_true rfl, Nat.le_of_ble_eq_true rfl⟩, hp.1, hp.1, rfl, rfl, (i + 1, u2 X (89 + 3 * i) 6 (minL (S.2 (89 + 3 * i) 5) (opB S out i))), ⟨⟨by show i + 1 ≤ n; omega, fun p x y => ?_, fun c j x => ?_⟩, by show n - (i + 1) < n - i; omega⟩, ?_, congrArg (fun z => some (Value.int z)) (nI_1 i), ?_, rfl, trivial⟩)
        · have x : p < i + 1 := x
          show u2 X (89 + 3 * i) 6 _ (89 + 3 * p) 6 = _
          by_cases w : p = i
          · subst w; exact u2_s _ _ _ _
          · rw [u2_k _ _ _ _ (by omega)]; exact hb p (by omega) y
        · show u2 X (89 + 3 * i) 6 _ c j = S.2 c j
          by_cases z : j = 6
          · rw [u2_k _ _ _ _ (by omega)]; exact f2 c j x
          · rw [u2_j _ _ _ _ z]; exact f2 c j x
        · show (S.1, u2 X (89 + 3 * (nI i).toNatClampNeg) 6 (minL (X (89 + 3 * (nI i).toNatClampNeg) 5) (opB S out i))) = _
          rw [v5, hcl]
        · refine congrArg (fun z => some (Value.long z)) ?_
          show opB S out i - u2 X (89 + 3 * (nI i).toNatClampNeg) 6 (minL (X (89 + 3 * (nI i).toNatClampNeg) 5) (opB S out i)) (89 + 3 * (nI i).toNatClampNeg) 6 = if S.1 (89 + 3 * i) 3 = 0 then _ else _
          rw [u2_s, v5, if_neg hmn]
  · exact ⟨rfl, rfl, (0, S.2), ⟨Nat.zero_le _, fun p hp => absurd hp (Nat.not_lt_zero p), fun _ _ _ => rfl⟩, rfl, rfl, rfl, rfl, trivial⟩
