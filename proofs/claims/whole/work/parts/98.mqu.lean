/-! ===== what is asked of the model: sums ===== -/
/-- a place of one of several loops -/
def LM {ι : Type} (rc : Nat) (pcs : ι → Nat) (L0 : ι → LL) (S0 : ι → Mem) (I : ι → Prop) (p : Nat) : Nat → LL → List Value → Mem → Prop := fun rc' L st S => rc' = rc ∧ st = [] ∧ ∃ a, pcs a = p ∧ I a ∧ S = S0 a ∧ sb (L0 a) L
/-- a method with loops at the places P -/
theorem runM {ι : Type} {N : Nat} {prog : List PI} {calls : List (Nat × Nat × SP)} {hdl : Nat → String → Option Nat} {thr : List String} {nL : Nat} {rt : Option FieldType} {n : Nat} {as : List Value} {S : Mem} {Qr : Option Value → Mem → Prop} {Qx : String → Mem → Prop} (hsz : Nat.ble (szV as) nL = true) (fuel rc : Nat) (P : List Nat) (pcs : ι → Nat) (L0 : ι → LL) (S0 : ι → Mem) (μ : ι → Nat) (I : ι → Prop)
    (step : ∀ a, I a → wpH N prog calls hdl thr none nL rt Qr Qx (P.map (fun p => (p, LM rc pcs L0 S0 (fun a' => I a' ∧ μ a' < μ a) p))) fuel (jmp (pcs a) prog) rc (L0 a) [] (S0 a))
    (h : wpH N prog calls hdl thr none nL rt Qr Qx (P.map (fun p => (p, LM rc pcs L0 S0 I p))) fuel (jmp 0 prog) n (la 0 as) [] S) : RUN N prog calls hdl thr nL rt n as S Qr Qx := by
  refine ⟨Nat.le_of_ble_eq_true hsz, fun G hG hw => ?_⟩
  have key : ∀ k a, μ a < k → I a → G (pcs a) rc (L0 a) [] (S0 a) := by
    intro k
    induction k with
    | zero => intro a h; exact absurd h (Nat.not_lt_zero _)
    | succ k ih =>
      intro a hk hI
      refine hG _ fuel (pcs a) rc _ _ _ (fun q hq => ?_) (step a hI)
      obtain ⟨p, -, rfl⟩ := List.mem_map.mp hq
      rintro rc' L st S' ⟨rfl, rfl, a', rfl, ⟨hI', hlt⟩, rfl, hs⟩
      exact hw _ _ _ _ _ _ (ih a' (by omega) hI') (sb_mem hs)
  refine hG _ fuel 0 n _ _ _ (fun q hq => ?_) h
  obtain ⟨p, -, rfl⟩ := List.mem_map.mp hq
  rintro rc' L st S' ⟨rfl, rfl, a', rfl, hI', rfl, hs⟩
  exact hw _ _ _ _ _ _ (key _ a' (Nat.lt_succ_self _) hI') (sb_mem hs)
/-- now is the row w -/
def NwR (S : Mem) (w : Nat → Int64) : Prop := ∀ i, i < 754 → S.2 141 i = w i
theorem lyN_le {w : Nat → Int64} {p k : Nat} (h : w (418 + 83 * p) = lN k) (hk : k ≤ 40) : lyN w p = k := by
  unfold lyN cnt
  rw [h, lN_clamp (by omega)]
theorem e_unitsIn {p k x : Nat} {w : Nat → Int64} (S : Mem) (hw : NwR S w) (hp : p < 4) (hk : w (418 + 83 * p) = lN k) (hk4 : k ≤ 40) (hx : x ≤ 1) {Qr : QR} {Qx : QX} (h : Qr (some (.long (stV w p x))) S) : vsp 156 10 (sX10_unitsIn 156) [.ref 138, .int (nI p), .int (nI x)] S Qr Qx := by
  have ly := lyN_le hk hk4
  refine ⟨tM, runL (α := Nat) rfl 60 5 0 (fun i => [(5, .int (nI i)), (3, .long (sumN (fun i => w (419 + 83 * p + 2 * i + x)) i)), (0, .ref 138), (1, .int (nI p)), (2, .int (nI x))]) (fun _ => S) (fun i => k - i) (fun i => i ≤ k) (fun i hi => ?_) ?_⟩
  · refine ⟨tM, ⟨Nat.le_of_ble_eq_true rfl, Nat.le_of_ble_eq_true rfl, Nat.le_of_ble_eq_true rfl⟩, e_storeAt p S ⟨754, tNow, vp_nI (by omega), ?_⟩⟩
    have sk : S.2 141 (nI (418 + 83 * p)).toNatClampNeg = lN k := by rw [nI_clamp (by omega), hw _ (by omega)]; exact hk
    refine And.intro (fun q => ?_) (fun q => ?_)
    · have q : S.2 141 (nI (418 + 83 * p)).toNatClampNeg ≤ (nI i).toInt64 := (lg_cmp_ge _ _).mp q
      rw [sk, nI_l (by omega)] at q
      have q := (lN_le (by omega) (by omega)).mp q
      obtain rfl : i = k := by omega
      refine ⟨rfl, ?_⟩
      unfold stV at h
      rw [ly] at h
      exact h
    · have q : ¬ S.2 141 (nI (418 + 83 * p)).toNatClampNeg ≤ (nI i).toInt64 := fun z => q ((lg_cmp_ge _ _).mpr z)
      rw [sk, nI_l (by omega)] at q
      have q : i < k := by
        rcases Nat.lt_or_ge i k with z | z
        · exact z
        · exact absurd ((lN_le (by omega) (by omega)).mpr z) q
      refine ⟨tM, ⟨Nat.le_of_ble_eq_true rfl, Nat.le_of_ble_eq_true rfl, Nat.le_of_ble_eq_true rfl⟩, ?_⟩
      show sX10_layerAt 156 [.int (nI p), .long (nI i).toInt64] S _ _
      rw [nI_l (by omega)]
      have ad : nI (419 + 83 * p + 2 * i) + nI x = nI (419 + 83 * p + 2 * i + x) := nI_add _ _
      refine e_layerAt p i S ⟨754, tNow, by show vp_in (nI (419 + 83 * p + 2 * i) + nI x) 754; rw [ad]; exact vp_nI (by omega), rfl, rfl, i + 1, ⟨by omega, by omega⟩, rfl, congrArg (fun z => some (Value.int z)) (nI_1 i), ?_, rfl, rfl, rfl, trivial⟩
      refine congrArg (fun z => some (Value.long z)) ?_
      show sumN (fun i => w (419 + 83 * p + 2 * i + x)) i + S.2 141 (nI (419 + 83 * p + 2 * i) + nI x).toNatClampNeg = sumN (fun i => w (419 + 83 * p + 2 * i + x)) i + w (419 + 83 * p + 2 * i + x)
      rw [ad, nI_clamp (by omega), hw _ (by omega)]
  · exact ⟨rfl, rfl, 0, Nat.zero_le k, rfl, rfl, rfl, rfl, rfl, rfl, trivial⟩
theorem le_lN {i k : Nat} {x : Int64} {y : Int32} (hx : x = lN k) (hy : y = nI i) (hi : i ≤ k) (hk : k < 2 ^ 31) (h : x ≤ y.toInt64) : i = k := by
  rw [hx, hy, nI_l (by omega)] at h
  have := (lN_le (by omega) (by omega)).mp h
  omega
theorem lt_lN {i k : Nat} {x : Int64} {y : Int32} (hx : x = lN k) (hy : y = nI i) (hi : i ≤ k) (hk : k < 2 ^ 31) (h : ¬ x ≤ y.toInt64) : i < k := by
  rcases Nat.lt_or_ge i k with z | z
  · exact z
  · exact absurd (by rw [hx, hy, nI_l (by omega)]; exact (lN_le (by omega) (by omega)).mpr z) h
set_option maxHeartbeats 2000000 in
theorem e_mAccount {S : Mem} {tp : Nat} {sg : Nat → Int32} {fp : Int32} {r : Nat → Int32} {w : Nat → Int64} {H : HL} {n m : Nat} (hI : MI S tp sg fp r w H) (hf : WFt w n m) (hl : ∀ p, p < m → ∃ k, k ≤ 40 ∧ w (418 + 83 * p) = lN k) (x : Int32) {Qr : QR} {Qx : QX} (hA : ¬ inR x 0 5 → ∀ S', MI S' tp sg fp (bmp r 1) w H → FC S S' → S'.1 138 0 = 1 → Qr (some (.long 0)) S') (h1 : ∀ k, k ≤ 5 → x = nI k → ∀ S', MI S' tp sg fp r w H → FC S S' → S'.1 138 0 = 0 → Qr (some (.long (acV w n m k))) S') : vsp 156 10 (sX10_account 156) [.ref 138, .int x] S Qr Qx := by
  obtain ⟨i0, f0⟩ := hI.thr 0
  have t0 : (th0 S).1 138 0 = 0 := u2_s S.1 138 0 0
  have hn5 := hf.1
  have hm4 := hf.2.1
  have nw : NwR (th0 S) w := i0.2.2.2.1
  have s0 : (th0 S).2 141 0 = lN n := (nw 0 (by decide)).trans hf.2.2.1
  have s1 : (th0 S).2 141 1 = lN m := (nw 1 (by decide)).trans hf.2.2.2.1
  obtain ⟨ib, fb, eb⟩ := i0.bad 1 (i := 1) (by decide)
  refine ⟨tM, runM (ι := Nat × LL × Nat) rfl 160 0 [59, 75, 118] (fun a => a.1) (fun a => a.2.1) (fun _ => th0 S) (fun a => a.2.2)
      (fun a => (∃ i, i ≤ n ∧ x = nI 4 ∧ a = (59, [(4, .int (nI (i))), (2, .long (sumN (fun d => sumN (fun j => w (103 + 6 * d + j)) 4) (i))), (0, .ref 138), (1, .int x)], (n - i) * 10 + 109)) ∨ (∃ i j, i < n ∧ j ≤ 4 ∧ x = nI 4 ∧ a = (75, [(5, .int (nI (j))), (4, .int (nI (i))), (2, .long (sumN (fun d => sumN (fun j => w (103 + 6 * d + j)) 4) (i) + sumN (fun j => w (103 + 6 * (i) + j)) (j))), (0, .ref 138), (1, .int x)], (n - i) * 10 + (4 - j) + 100)) ∨ (∃ i, i ≤ m ∧ x = nI 5 ∧ a = (118, [(4, .int (nI (i))), (2, .long (sumN (fun p => stV w p 1) (i))), (0, .ref 138), (1, .int x)], m - i))) ?_ ?_⟩
  · rintro a (⟨i, hi, hx, rfl⟩ | ⟨i, j, hi, hj, hx, rfl⟩ | ⟨i, hi, hx, rfl⟩)
    · refine ⟨tM, 754, tNow, vp_nI (n := 0) (by decide), And.intro (fun q => ?_) (fun q => ?_)⟩
      · have q := le_lN s0 (y := nI i) rfl hi (by omega) ((lg_cmp_ge _ _).mp q)
        subst q
        refine And.intro (fun _ => ⟨rfl, ?_⟩) (fun z => absurd (show x = nI 5 from z) (by rw [hx]; decide))
        exact h1 4 (by decide) hx _ i0 f0 t0
      · have q := lt_lN s0 (y := nI i) rfl hi (by omega) (fun z => q ((lg_cmp_ge _ _).mpr z))
        refine ⟨rfl, rfl, (75, [(5, .int (nI (0))), (4, .int (nI (i))), (2, .long (sumN (fun d => sumN (fun j => w (103 + 6 * d + j)) 4) (i) + sumN (fun j => w (103 + 6 * (i) + j)) (0))), (0, .ref 138), (1, .int x)], (n - i) * 10 + (4 - 0) + 100), rfl, ⟨Or.inr (Or.inl ⟨i, 0, q, Nat.zero_le _, hx, rfl⟩), by show (n - i) * 10 + (4 - 0) + 100 < (n - i) * 10 + 109; omega⟩, rfl, rfl, rfl, ?_, rfl, rfl, trivial⟩
        exact congrArg (fun z => some (Value.long z)) (Int64.add_zero _).symm
    · refine And.intro (fun q => ?_) (fun q => ?_)
      · have q : nI 4 ≤ nI j := q
        obtain rfl := le_of_nI (by decide) hj q
        refine ⟨rfl, rfl, (59, [(4, .int (nI (i + 1))), (2, .long (sumN (fun d => sumN (fun j => w (103 + 6 * d + j)) 4) (i + 1))), (0, .ref 138), (1, .int x)], (n - (i + 1)) * 10 + 109), rfl, ⟨Or.inl ⟨i + 1, hi, hx, rfl⟩, by show (n - (i + 1)) * 10 + 109 < (n - i) * 10 + (4 - 4) + 100; omega⟩, rfl, congrArg (fun z => some (Value.int z)) (nI_1 i), rfl, rfl, rfl, trivial⟩
      · have q : ¬ nI 4 ≤ nI j := q
        have q := lt_of_nI (by decide) hj q
        have ad : nI 2 + nI j = nI (2 + j) := nI_add _ _
        refine ⟨tM, ⟨Nat.le_of_ble_eq_true rfl, Nat.le_of_ble_eq_true rfl, Nat.le_of_ble_eq_true rfl⟩, ?_⟩
        show sX10_working 156 [.int (nI i), .int (nI 2 + nI j)] (th0 S) _ _
        rw [ad]
        refine e_working i (2 + j) (th0 S) ⟨754, tNow, vp_nI (by omega), rfl, rfl, (75, [(5, .int (nI (j + 1))), (4, .int (nI (i))), (2, .long (sumN (fun d => sumN (fun j => w (103 + 6 * d + j)) 4) (i) + sumN (fun j => w (103 + 6 * (i) + j)) (j + 1))), (0, .ref 138), (1, .int x)], (n - i) * 10 + (4 - (j + 1)) + 100), rfl, ⟨Or.inr (Or.inl ⟨i, j + 1, hi, q, hx, rfl⟩), by show (n - i) * 10 + (4 - (j + 1)) + 100 < (n - i) * 10 + (4 - j) + 100; omega⟩, rfl, congrArg (fun z => some (Value.int z)) (nI_1 j), rfl, ?_, rfl, rfl, trivial⟩
        refine congrArg (fun z => some (Value.long z)) ?_
        show sumN (fun d => sumN (fun j => w (103 + 6 * d + j)) 4) i + sumN (fun j => w (103 + 6 * i + j)) j + (th0 S).2 141 (nI (101 + 6 * i + (2 + j))).toNatClampNeg = sumN (fun d => sumN (fun j => w (103 + 6 * d + j)) 4) i + (sumN (fun j => w (103 + 6 * i + j)) j + w (103 + 6 * i + j))
        rw [nI_clamp (by omega), nw _ (by omega), Int64.add_assoc, show 101 + 6 * i + (2 + j) = 103 + 6 * i + j by omega]
    · refine ⟨tM, 754, tNow, vp_nI (n := 1) (by decide), And.intro (fun q => ?_) (fun q => ?_)⟩
      · have q := le_lN s1 (y := nI i) rfl hi (by omega) ((lg_cmp_ge _ _).mp q)
        subst q
        exact ⟨rfl, h1 5 (by decide) hx _ i0 f0 t0⟩
      · have q := lt_lN s1 (y := nI i) rfl hi (by omega) (fun z => q ((lg_cmp_ge _ _).mpr z))
        obtain ⟨k, k4, ek⟩ := hl i q
        exact ⟨⟨Nat.le_of_ble_eq_true rfl, Nat.le_of_ble_eq_true rfl, Nat.le_of_ble_eq_true rfl⟩, e_unitsIn (x := 1) (th0 S) nw (by omega) ek k4 (by decide) ⟨rfl, rfl, (118, [(4, .int (nI (i + 1))), (2, .long (sumN (fun p => stV w p 1) (i + 1))), (0, .ref 138), (1, .int x)], m - (i + 1)), rfl, ⟨Or.inr (Or.inr ⟨i + 1, q, hx, rfl⟩), by show m - (i + 1) < m - i; omega⟩, rfl, congrArg (fun z => some (Value.int z)) (nI_1 i), rfl, rfl, rfl, trivial⟩⟩
  · refine ⟨tM, ⟨Nat.le_of_ble_eq_true rfl, Nat.le_of_ble_eq_true rfl, Nat.le_of_ble_eq_true rfl⟩, e_inW x 0 5 (by decide) (by decide) (th0 S) (fun k k1 k2 e => And.intro (fun _ => ⟨⟨Nat.le_of_ble_eq_true rfl, Nat.le_of_ble_eq_true rfl, Nat.le_of_ble_eq_true rfl⟩, e_bad (r := 1) (by decide) 0 1 (th0 S) t0 (by decide) (fun z => absurd rfl z) (fun _ => And.intro (fun _ => ?_) (fun z => absurd rfl z))⟩) (fun z => absurd z (by decide))) (fun q => And.intro (fun z => absurd rfl z) (fun _ => ⟨⟨Nat.le_of_ble_eq_true rfl, Nat.le_of_ble_eq_true rfl, Nat.le_of_ble_eq_true rfl⟩, e_bad (r := 1) (by decide) 1 1 (th0 S) t0 (by decide) (fun _ => And.intro (fun z => absurd z (by decide)) (fun _ => ⟨rfl, hA q _ ib (f0.trans fb) eb⟩)) (fun z => absurd z (by decide))⟩))⟩
    refine And.intro (fun q => ?_) (fun q => ?_)
    · have q : nI 4 ≤ x := q
      rw [e] at q
      have q := (nI_leI (by decide) (by omega)).mp q
      refine And.intro (fun q4 => And.intro (fun q5 => absurd ?_ q5) (fun _ => ⟨rfl, rfl, (118, [(4, .int (nI (0))), (2, .long (sumN (fun p => stV w p 1) (0))), (0, .ref 138), (1, .int x)], m - 0), rfl, Or.inr (Or.inr ⟨0, Nat.zero_le _, ?_, rfl⟩), rfl, rfl, rfl, rfl, rfl, trivial⟩)) (fun q4 => ⟨rfl, rfl, (59, [(4, .int (nI (0))), (2, .long (sumN (fun d => sumN (fun j => w (103 + 6 * d + j)) 4) (0))), (0, .ref 138), (1, .int x)], (n - 0) * 10 + 109), rfl, Or.inl ⟨0, Nat.zero_le _, q4, rfl⟩, rfl, rfl, rfl, rfl, rfl, trivial⟩)
      · show x = nI 5
        rw [e, show k = 5 by
          rcases (show k = 4 ∨ k = 5 by omega) with rfl | z
          · exact absurd e q4
          · exact z]
      · show x = nI 5
        rw [e, show k = 5 by
          rcases (show k = 4 ∨ k = 5 by omega) with rfl | z
          · exact absurd e q4
          · exact z]
    · have q : ¬ nI 4 ≤ x := q
      rw [e] at q
      have q : k < 4 := by
        rcases Nat.lt_or_ge k 4 with z | z
        · exact z
        · exact absurd (nI_le z (by omega)) q
      have ad : nI 750 + x = nI (750 + k) := by rw [e, nI_add]
      refine ⟨tM, 754, tNow, by show vp_in (nI 750 + x) 754; rw [ad]; exact vp_nI (by omega), rfl, ?_⟩
      show Qr (some (.long ((th0 S).2 141 (nI 750 + x).toNatClampNeg))) (th0 S)
      have := h1 k k2 e _ i0 f0 t0
      unfold acV at this
      rw [if_pos q] at this
      rw [ad, nI_clamp (by omega), nw _ (by omega)]; exact this
