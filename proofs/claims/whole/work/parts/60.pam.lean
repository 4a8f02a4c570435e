/-! ===== partAmongMain ===== -/
def dn (i : Nat) : Int32 := nI i - 1
theorem dn_s (m : Nat) : dn (m + 1) = nI m := nI_pr (n := m + 1) (by omega)
theorem dn_n (m : Nat) : dn (m + 1) + (-1) = dn m := by rw [dn_s]; exact (Int32.sub_eq_add_neg _ _).symm
theorem dn_0 : dn 0 < 0 := by decide
theorem dn_c {m : Nat} (h : m < 2 ^ 31) : (dn (m + 1)).toNatClampNeg = m := by rw [dn_s]; exact nI_clamp h
theorem dn_p {m : Nat} (h : m < 2 ^ 31) : ¬ dn (m + 1) < 0 := by rw [dn_s]; exact nI_pos h
theorem dn_v {m N : Nat} (h : m < N) (hN : N < 2 ^ 31 := by decide) : vp_in (dn (m + 1)) N := by rw [dn_s]; exact vp_nI h hN
/-- v is the least place from i on below n with P, or -1 -/
def fstP (P : Nat → Prop) (i n : Nat) (v : Int32) : Prop := (v = -1 ∧ ∀ p, i ≤ p → p < n → ¬ P p) ∨ ∃ q, i ≤ q ∧ q < n ∧ P q ∧ v = nI q ∧ ∀ p, i ≤ p → p < q → ¬ P p
theorem fstP.no {P : Nat → Prop} {m n : Nat} {v : Int32} (h : fstP P (m + 1) n v) (hm : ¬ P m) : fstP P m n v := by
  rcases h with ⟨a, b⟩ | ⟨q, a, b, c, d, e⟩
  · refine Or.inl ⟨a, fun p x y => ?_⟩
    by_cases z : p = m
    · rw [z]; exact hm
    · exact b p (by omega) y
  · refine Or.inr ⟨q, by omega, b, c, d, fun p x y => ?_⟩
    by_cases z : p = m
    · rw [z]; exact hm
    · exact e p (by omega) y
theorem fstP.yes {P : Nat → Prop} {m n : Nat} (hn : m < n) (hm : P m) : fstP P m n (nI m) := Or.inr ⟨m, Nat.le_refl m, hn, hm, rfl, fun p x y => absurd y (by omega)⟩
theorem fstP.end {P : Nat → Prop} {n : Nat} : fstP P n n (-1) := Or.inl ⟨rfl, fun p x y => absurd y (by omega)⟩
abbrev mnP (S : Mem) (p : Nat) : Prop := S.1 (89 + 3 * p) 3 = 0
def mB (S : Mem) (n : Nat) : Int32 := if sumN (msC S 0) n = 0 then 1 else 0
def gM (S : Mem) (n : Nat) (cents : Int64) (p : Nat) : Int64 := if S.1 (89 + 3 * p) 3 = 0 then cut cents (msC S (mB S n) p) (sumN (msC S (mB S n)) n) else 0
theorem nI_ne {q : Nat} (h : q < 2 ^ 31) : ¬ nI q = -1 := fun e => absurd (show nI q < 0 by rw [e]; decide) (nI_pos h)
theorem sumN_dn (c : Int64) (g : Nat → Int64) (n m : Nat) : c - (sumN g n - sumN g (m + 1)) - g m = c - (sumN g n - sumN g m) := by
  rw [show sumN g (m + 1) = sumN g m + g m from rfl]
  grind
set_option maxHeartbeats 2000000 in
theorem e_partAmongMain {n : Nat} (cents : Int64) (S : Mem) (hn : S.1 1 3 = nI n) (hn4 : n ≤ 4) (hm : ∃ p, p < n ∧ mnP S p) {Qr : QR} {Qx : QX}
    (h : ∀ (q : Nat) (X : Nat → Nat → Int64), q < n → mnP S q → (∀ p, p < q → ¬ mnP S p) → (∀ p, p < n → mnP S p → X (89 + 3 * p) 6 = gM S n cents p + (if p = q then cents - sumN (gM S n cents) n else 0)) → (∀ p, p < n → ¬ mnP S p → X (89 + 3 * p) 6 = S.2 (89 + 3 * p) 6) → fr2 S (S.1, X) 6 → Qr none (S.1, X)) : vsp 156 1 (sX1_partAmongMain 156) [.ref 1, .long cents] S Qr Qx := by
  have t1 : tyN 156 1 = (0, 1, 0, 0) := rfl
  have t3 : tyN 156 3 = (5, 4, 89, 3) := rfl
  refine ⟨t1, runL (α := Nat × Int32 × (Nat → Nat → Int64)) rfl 120 37 0 (fun a => [(9, .int (dn a.1)), (8, .int a.2.1), (6, .long (cents - (sumN (gM S n cents) n - sumN (gM S n cents) a.1))), (4, .long (sumN (msC S (mB S n)) n)), (3, .int (mB S n)), (1, .long cents), (0, .ref 1)]) (fun a => (S.1, a.2.2)) (fun a => a.1)
    (fun a => a.1 ≤ n ∧ fstP (mnP S) a.1 n a.2.1 ∧ (∀ p, a.1 ≤ p → p < n → mnP S p → a.2.2 (89 + 3 * p) 6 = gM S n cents p) ∧ (∀ p, p < n → ¬ mnP S p → a.2.2 (89 + 3 * p) 6 = S.2 (89 + 3 * p) 6) ∧ fr2 S (S.1, a.2.2) 6) ?_ ?_⟩
  · rintro ⟨i, v, X⟩ ⟨hi, hv, hg, hb, f2⟩
    dsimp only at hi hv hg hb f2
    rcases i with _ | m
    · refine And.intro (fun _ => ?_) (fun x => absurd dn_0 x)
      rcases hv with ⟨hv, hx⟩ | ⟨q, a, b, c, d, e⟩
      · obtain ⟨p, y, z⟩ := hm
        exact absurd z (hx p (Nat.zero_le p) y)
      · have hp : isProN 156 (89 + 3 * v.toNatClampNeg) := by rw [d, nI_clamp (by omega)]; exact proN (by decide) (by omega)
        refine And.intro (fun x => absurd (d ▸ x) (nI_ne (by omega))) (fun _ => ?_)
        refine ⟨t1, 1, 4, 89, 3, t3, by decide, d ▸ vp_nI (by omega), hp.1, hp.1, rfl, ?_⟩
        show Qr none (S.1, u2 X (89 + 3 * v.toNatClampNeg) 6 (X (89 + 3 * v.toNatClampNeg) 6 + (cents - (sumN (gM S n cents) n - 0))))
        rw [d, nI_clamp (by omega)]
        refine h q _ b c (fun p x => e p (Nat.zero_le p) x) (fun p x y => ?_) (fun p x y => ?_) (fun k j x => ?_)
        · by_cases z : p = q
          · subst z
            rw [u2_s, if_pos rfl, hg p (Nat.zero_le p) x y, Int64.sub_zero]
          · rw [u2_k _ _ _ _ (by omega), if_neg z, hg p (Nat.zero_le p) x y, Int64.add_zero]
        · have z : p ≠ q := fun z => y (z ▸ c)
          rw [u2_k _ _ _ _ (by omega)]; exact hb p x y
        · show u2 X (89 + 3 * q) 6 _ k j = S.2 k j
          by_cases z : j = 6
          · rw [u2_k _ _ _ _ (by omega)]; exact f2 k j x
          · rw [u2_j _ _ _ _ z]; exact f2 k j x
    · have hcl : (dn (m + 1)).toNatClampNeg = m := dn_c (by omega)
      have hp : isProN 156 (89 + 3 * (dn (m + 1)).toNatClampNeg) := by rw [hcl]; exact proN (by decide) (by omega)
      refine And.intro (fun x => absurd x (dn_p (by omega))) (fun _ => ⟨t1, 1, 4, 89, 3, t3, by decide, dn_v (by omega), ⟨Nat.le_of_ble_eq_true rfl, Nat.le_of_ble_eq_true rfl, Nat.le_of_ble_eq_true rfl⟩, e_isMain hp _ ?_⟩)
      by_cases e : S.1 (89 + 3 * (dn (m + 1)).toNatClampNeg) 3 = 0
      · have hmn : mnP S m := by rw [hcl] at e; exact e
        have e9 : (if (S.1, X).1 (89 + 3 * (dn (m + 1)).toNatClampNeg) 3 = 0 then (1 : Int32) else 0) = 1 := if_pos e
        rw [e9]
        have fin : ∀ z : Int64, z = msC S (mB S n) m → ∀ g9 : Int64, g9 = cut cents z (sumN (msC S (mB S n)) n) → g9 = gM S n cents m := fun z hz g9 hg9 => by rw [hg9, hz, gM, if_pos hmn]
        have fr : ∀ g9 : Int64, g9 = gM S n cents m → ∃ a' : Nat × Int32 × (Nat → Nat → Int64), ((a'.1 ≤ n ∧ fstP (mnP S) a'.1 n a'.2.1 ∧ (∀ p, a'.1 ≤ p → p < n → mnP S p → a'.2.2 (89 + 3 * p) 6 = gM S n cents p) ∧ (∀ p, p < n → ¬ mnP S p → a'.2.2 (89 + 3 * p) 6 = S.2 (89 + 3 * p) 6) ∧ fr2 S (S.1, a'.2.2) 6) ∧ a'.1 < m + 1) ∧ (S.1, u2 X (89 + 3 * (dn (m + 1)).toNatClampNeg) 6 g9) = (S.1, a'.2.2) ∧ some (Value.int (dn (m + 1) + (-1))) = some (Value.int (dn a'.1)) ∧ some (Value.int (dn (m + 1))) = some (Value.int a'.2.1) ∧ some (Value.long (cents - (sumN (gM S n cents) n - sumN (gM S n cents) (m + 1)) - u2 X (89 + 3 * (dn (m + 1)).toNatClampNeg) 6 g9 (89 + 3 * (dn (m + 1)).toNatClampNeg) 6)) = some (Value.long (cents - (sumN (gM S n cents) n - sumN (gM S n cents) a'.1))) := by
          intro g9 hg9
          refine ⟨(m, nI m, u2 X (89 + 3 * m) 6 g9), ⟨⟨by show m ≤ n; omega, fstP.yes (by omega) hmn, fun p x y z => ?_, fun p x y => ?_, fun c j x => ?_⟩, by show m < m + 1; omega⟩, ?_, ?_, ?_, ?_⟩
          · have x : m ≤ p := x
            show u2 X (89 + 3 * m) 6 g9 (89 + 3 * p) 6 = gM S n cents p
            by_cases w : p = m
            · subst w; rw [u2_s]; exact hg9
            · rw [u2_k _ _ _ _ (by omega)]; exact hg p (by omega) y z
          · have w : p ≠ m := fun w => y (w ▸ hmn)
            show u2 X (89 + 3 * m) 6 g9 (89 + 3 * p) 6 = _
            rw [u2_k _ _ _ _ (by omega)]; exact hb p x y
          · show u2 X (89 + 3 * m) 6 g9 c j = S.2 c j
            by_cases z : j = 6
            · rw [u2_k _ _ _ _ (by omega)]; exact f2 c j x
            · rw [u2_j _ _ _ _ z]; exact f2 c j x
          · rw [hcl]
          · rw [dn_n]
          · rw [dn_s]
          · rw [u2_s, hg9, sumN_dn]
        refine And.intro (fun x => absurd x (by decide)) (fun _ => And.intro (fun b0 => ⟨hp.1, ⟨Nat.le_of_ble_eq_true rfl, Nat.le_of_ble_eq_true rfl, Nat.le_of_ble_eq_true rfl⟩, e_partOf _ _ _ _ ⟨hp.1, hp.1, rfl, rfl, ?_⟩⟩) (fun b0 => ⟨hp.1, ⟨Nat.le_of_ble_eq_true rfl, Nat.le_of_ble_eq_true rfl, Nat.le_of_ble_eq_true rfl⟩, e_partOf _ _ _ _ ⟨hp.1, hp.1, rfl, rfl, ?_⟩⟩))
        · obtain ⟨a', A, B, C, D, E⟩ := fr (cut cents (X (89 + 3 * (dn (m + 1)).toNatClampNeg) 5) (sumN (msC S (mB S n)) n)) (fin _ (by
            have := f2 (89 + 3 * m) 5 (Or.inr (Or.inr (Or.inr (by decide))))
            rw [hcl]
            exact this.trans (by rw [msC, if_pos hmn, if_pos b0])) _ rfl)
          exact ⟨a', A, B, C, D, E, rfl, rfl, rfl, rfl, trivial⟩
        · obtain ⟨a', A, B, C, D, E⟩ := fr (cut cents (S.1 (89 + 3 * (dn (m + 1)).toNatClampNeg) 4).toInt64 (sumN (msC S (mB S n)) n)) (fin _ (by rw [hcl, msC, if_pos hmn, if_neg b0]) _ rfl)
          exact ⟨a', A, B, C, D, E, rfl, rfl, rfl, rfl, trivial⟩
      · have hmn : ¬ mnP S m := by rw [hcl] at e; exact e
        have e9 : (if (S.1, X).1 (89 + 3 * (dn (m + 1)).toNatClampNeg) 3 = 0 then (1 : Int32) else 0) = 0 := if_neg e
        rw [e9]
        refine And.intro (fun _ => ⟨rfl, rfl, (m, v, X), ⟨⟨by show m ≤ n; omega, hv.no hmn, fun p x y z => ?_, hb, f2⟩, by show m < m + 1; omega⟩, rfl, ?_, rfl, ?_, rfl, rfl, rfl, rfl, trivial⟩) (fun x => absurd rfl x)
        · have x : m ≤ p := x
          by_cases w : p = m
          · exact absurd (w ▸ z) hmn
          · exact hg p (by omega) y z
        · exact congrArg (fun z => some (Value.int z)) (dn_n m)
        · have z : gM S n cents m = 0 := if_neg hmn
          refine congrArg (fun z => some (Value.long z)) ?_
          show cents - (sumN (gM S n cents) n - (sumN (gM S n cents) m + gM S n cents m)) = _
          rw [z, Int64.add_zero]
  · have ent : ∀ b : Int32, b = mB S n → ∃ a' : Nat × Int32 × (Nat → Nat → Int64), (a'.1 ≤ n ∧ fstP (mnP S) a'.1 n a'.2.1 ∧ (∀ p, a'.1 ≤ p → p < n → mnP S p → a'.2.2 (89 + 3 * p) 6 = gM S n cents p) ∧ (∀ p, p < n → ¬ mnP S p → a'.2.2 (89 + 3 * p) 6 = S.2 (89 + 3 * p) 6) ∧ fr2 S (S.1, a'.2.2) 6) ∧ S = (S.1, a'.2.2) ∧ some (Value.int (S.1 1 3 - 1)) = some (Value.int (dn a'.1)) ∧ some (Value.int (-1)) = some (Value.int a'.2.1) ∧ some (Value.long cents) = some (Value.long (cents - (sumN (gM S n cents) n - sumN (gM S n cents) a'.1))) ∧ some (Value.long (sumN (msC S b) n)) = some (Value.long (sumN (msC S (mB S n)) n)) ∧ some (Value.int b) = some (Value.int (mB S n)) := by
      intro b hb
      refine ⟨(n, -1, S.2), ⟨Nat.le_refl n, fstP.end, fun p x y => absurd y (by have x : n ≤ p := x; omega), fun p x y => rfl, fun c j x => rfl⟩, rfl, ?_, rfl, ?_, ?_, ?_⟩
      · rw [hn]; rfl
      · rw [Int64.sub_self, Int64.sub_zero]
      · rw [hb]
      · rw [hb]
    refine ⟨⟨Nat.le_of_ble_eq_true rfl, Nat.le_of_ble_eq_true rfl, Nat.le_of_ble_eq_true rfl⟩, e_mainMeasure 0 S hn hn4 (And.intro (fun x => ?_) (fun x => ?_))⟩
    · have y : ¬ sumN (msC S 0) n = 0 := fun e => x ((lg_cmp_eq _ _).mpr e)
      obtain ⟨a', A, B, C, D, E, F, G⟩ := ent 0 (if_neg y).symm
      exact ⟨⟨Nat.le_of_ble_eq_true rfl, Nat.le_of_ble_eq_true rfl, Nat.le_of_ble_eq_true rfl⟩, e_mainMeasure 0 S hn hn4 ⟨t1, rfl, rfl, a', A, B, C, D, E, F, G, rfl, rfl, trivial⟩⟩
    · have y : sumN (msC S 0) n = 0 := (lg_cmp_eq _ _).mp x
      obtain ⟨a', A, B, C, D, E, F, G⟩ := ent 1 (if_pos y).symm
      exact ⟨⟨Nat.le_of_ble_eq_true rfl, Nat.le_of_ble_eq_true rfl, Nat.le_of_ble_eq_true rfl⟩, e_mainMeasure 1 S hn hn4 ⟨t1, rfl, rfl, a', A, B, C, D, E, F, G, rfl, rfl, trivial⟩⟩
