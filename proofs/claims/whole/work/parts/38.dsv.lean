/-! ===== the desk: save, load ===== -/
def plen (ns : Nat → Nat) : Nat → Nat
  | 0 => 0
  | p + 1 => plen ns p + (8 + 2 * ns p)
theorem plen_le {ns : Nat → Nat} : ∀ {p : Nat}, (∀ i, i < p → ns i ≤ 40) → plen ns p ≤ 88 * p
  | 0, _ => Nat.le_refl _
  | p + 1, h => by
    have h1 := plen_le (p := p) (fun i hi => h i (by omega))
    have h2 := h p (by omega)
    simp only [plen]
    omega
def depsL (S : Mem) : Nat → List Int64
  | 0 => []
  | d + 1 => depsL S d ++ depL S (4 + 17 * d)
def prosL (S : Mem) (ns : Nat → Nat) : Nat → List Int64
  | 0 => []
  | p + 1 => prosL S ns p ++ proL S (89 + 3 * p) (ns p)
theorem depsL_len (S : Mem) : ∀ d, (depsL S d).length = 71 * d
  | 0 => rfl
  | d + 1 => by simp only [depsL, List.length_append, depsL_len S d, depL_len]; omega
theorem prosL_len (S : Mem) (ns : Nat → Nat) : ∀ p, (prosL S ns p).length = plen ns p
  | 0 => rfl
  | p + 1 => by simp only [prosL, List.length_append, prosL_len S ns p, proL_len, plen]
def dskH (S : Mem) : List Int64 := [(S.1 1 2).toInt64, (S.1 1 3).toInt64, (S.1 1 4).toInt64, (S.1 1 5).toInt64, (S.1 1 6).toInt64, S.2 1 7, S.2 1 8, S.2 1 9, S.2 1 10]
theorem dskH_len (S : Mem) : (dskH S).length = 9 := rfl
def dskL (S : Mem) (nd np : Nat) (ns : Nat → Nat) : List Int64 := dskH S ++ (depsL S nd ++ prosL S ns np)
/-- a desk's counts -/
def dskN (S : Mem) (nd np : Nat) (ns : Nat → Nat) : Prop := S.1 1 2 = nI nd ∧ nd ≤ 5 ∧ S.1 1 3 = nI np ∧ np ≤ 4 ∧ ∀ p, p < np → S.1 (89 + 3 * p) 7 = nI (ns p) ∧ ns p ≤ 40
theorem isRow_ne {r : Nat} (h : isRow r) : r ≠ 1 ∧ r ≠ 2 := by
  constructor
  · rintro rfl; exact absurd h.1 (by decide)
  · rintro rfl; exact absurd h.1 (by decide)
set_option maxHeartbeats 2000000 in
theorem e_dskSave {r nd np : Nat} {ns : Nat → Nat} (hr : isRow r) (hr1 : 101 ≤ r) (S : Mem) (hS : dskN S nd np ns) {Qr : QR} {Qx : QX} (h : Qr none (PW S r 0 (dskL S nd np ns))) : vsp 156 1 (sX1_save 156) [.ref 1, .ref r] (PW S r 0 []) Qr Qx := by
  obtain ⟨n1, n2, n3, n4, n5⟩ := hS
  have t1 : tyN 156 1 = (0, 1, 0, 0) := rfl
  have t2 : tyN 156 2 = (4, 5, 4, 17) := rfl
  have t3 : tyN 156 3 = (5, 4, 89, 3) := rfl
  have e1 : 1 ≠ r := by omega
  have e2 : 1 ≠ r + 1 := by omega
  have pl : ∀ p, p ≤ np → plen ns p ≤ 88 * p := fun p hp => plen_le (fun i hi => (n5 i (by omega)).2)
  refine ⟨t1, runL2 (α := Nat) (β := Nat) rfl 120 79 0 105 0 (fun i => [(2, .int (nI i)), (0, .ref 1), (1, .ref r)]) (fun i => PW S r 0 (dskH S ++ depsL S i)) (fun i => nd - i) (fun i => i ≤ nd)
    (fun i => [(2, .int (nI i)), (0, .ref 1), (1, .ref r)]) (fun i => PW S r 0 (dskH S ++ (depsL S nd ++ prosL S ns i))) (fun i => np - i) (fun i => i ≤ np) (fun i hi => ?_) (fun i hi => ?_) ?_⟩
  · have eb : (PW S r 0 (dskH S ++ (depsL S nd ++ prosL S ns i))).1 1 3 = nI np := (PW_I 3 e1).trans n3
    refine ⟨t1, And.intro (fun h1 => ?_) (fun h1 => ?_)⟩
    · have h1 : nI np ≤ nI i := eb ▸ h1
      obtain rfl := le_of_nI (by omega) hi h1
      exact ⟨rfl, h⟩
    · have h1' : ¬ nI np ≤ nI i := eb ▸ h1
      have hlt := lt_of_nI (by omega) hi h1'
      have := pl i hi
      have := (n5 i hlt).2
      refine ⟨t1, 1, 4, 89, 3, t3, by decide, vp_nI (by omega), ⟨Nat.le_of_ble_eq_true rfl, Nat.le_of_ble_eq_true rfl, Nat.le_of_ble_eq_true rfl⟩, ?_⟩
      show vsp 156 6 (sX6_save 156) [.ref (89 + 3 * (nI i).toNatClampNeg), .ref r] _ _ _
      rw [nI_clamp (by omega)]
      refine e_proSave (n := ns i) (proN (by decide) (by omega)) hr (by omega) S (n5 i hlt).1 (n5 i hlt).2 _ (by simp only [List.length_append, dskH_len, depsL_len, prosL_len]; omega) ⟨rfl, rfl, i + 1, ⟨by omega, by omega⟩, ?_, congrArg (fun z => some (Value.int z)) (nI_1 i), rfl, rfl, trivial⟩
      simp only [prosL, List.append_assoc]
  · have eb : (PW S r 0 (dskH S ++ depsL S i)).1 1 2 = nI nd := (PW_I 2 e1).trans n1
    refine ⟨t1, And.intro (fun h1 => ?_) (fun h1 => ?_)⟩
    · have h1 : nI nd ≤ nI i := eb ▸ h1
      obtain rfl := le_of_nI (by omega) hi h1
      refine ⟨rfl, rfl, 0, Nat.zero_le _, ?_, rfl, rfl, rfl, trivial⟩
      simp only [prosL, List.append_nil]
    · have h1' : ¬ nI nd ≤ nI i := eb ▸ h1
      have hlt := lt_of_nI (by omega) hi h1'
      refine ⟨t1, 0, 5, 4, 17, t2, by decide, vp_nI (by omega), ⟨Nat.le_of_ble_eq_true rfl, Nat.le_of_ble_eq_true rfl, Nat.le_of_ble_eq_true rfl⟩, ?_⟩
      show vsp 156 0 (sX0_save 156) [.ref (4 + 17 * (nI i).toNatClampNeg), .ref r] _ _ _
      rw [nI_clamp (by omega)]
      refine e_depSave (depN (by decide) (by omega)) hr (by omega) S _ (by simp only [List.length_append, dskH_len, depsL_len]; omega) ⟨rfl, rfl, i + 1, ⟨by omega, by omega⟩, ?_, congrArg (fun z => some (Value.int z)) (nI_1 i), rfl, rfl, trivial⟩
      simp only [depsL, List.append_assoc]
  · refine ⟨t1, ⟨Nat.le_of_ble_eq_true rfl, Nat.le_of_ble_eq_true rfl, Nat.le_of_ble_eq_true rfl⟩, e_put hr S _ _ (by decide) ⟨t1, ⟨Nat.le_of_ble_eq_true rfl, Nat.le_of_ble_eq_true rfl, Nat.le_of_ble_eq_true rfl⟩, e_put hr S _ _ (by simp only [List.length_append, List.length_cons, List.length_nil, arrL_len, lotL_len]; omega) ⟨t1, ⟨Nat.le_of_ble_eq_true rfl, Nat.le_of_ble_eq_true rfl, Nat.le_of_ble_eq_true rfl⟩, e_put hr S _ _ (by simp only [List.length_append, List.length_cons, List.length_nil, arrL_len, lotL_len]; omega) ⟨t1, ⟨Nat.le_of_ble_eq_true rfl, Nat.le_of_ble_eq_true rfl, Nat.le_of_ble_eq_true rfl⟩, e_put hr S _ _ (by simp only [List.length_append, List.length_cons, List.length_nil, arrL_len, lotL_len]; omega) ⟨t1, ⟨Nat.le_of_ble_eq_true rfl, Nat.le_of_ble_eq_true rfl, Nat.le_of_ble_eq_true rfl⟩, e_put hr S _ _ (by simp only [List.length_append, List.length_cons, List.length_nil, arrL_len, lotL_len]; omega) ?_⟩⟩⟩⟩⟩
    refine ⟨t1, ⟨Nat.le_of_ble_eq_true rfl, Nat.le_of_ble_eq_true rfl, Nat.le_of_ble_eq_true rfl⟩, e_put hr S _ _ (by simp only [List.length_append, List.length_cons, List.length_nil, arrL_len, lotL_len]; omega) ⟨t1, ⟨Nat.le_of_ble_eq_true rfl, Nat.le_of_ble_eq_true rfl, Nat.le_of_ble_eq_true rfl⟩, e_put hr S _ _ (by simp only [List.length_append, List.length_cons, List.length_nil, arrL_len, lotL_len]; omega) ⟨t1, ⟨Nat.le_of_ble_eq_true rfl, Nat.le_of_ble_eq_true rfl, Nat.le_of_ble_eq_true rfl⟩, e_put hr S _ _ (by simp only [List.length_append, List.length_cons, List.length_nil, arrL_len, lotL_len]; omega) ⟨t1, ⟨Nat.le_of_ble_eq_true rfl, Nat.le_of_ble_eq_true rfl, Nat.le_of_ble_eq_true rfl⟩, e_put hr S _ _ (by simp only [List.length_append, List.length_cons, List.length_nil, arrL_len, lotL_len]; omega) ⟨rfl, rfl, 0, Nat.zero_le _, ?_, rfl, rfl, rfl, trivial⟩⟩⟩⟩⟩
    simp only [PW_I _ e1, PW_X _ e2]
    simp only [depsL, dskH, List.append_assoc, List.cons_append, List.nil_append, List.append_nil]
/-- n longs taken, one after the other, into places p .. of k -/
def LdX (S T : Mem) (k r a p n : Nat) : Prop := T.1 r 1 = nI (a + n) ∧ (∀ c, c ≠ r → T.1 c = S.1 c) ∧ (∀ c, c ≠ k → T.2 c = S.2 c) ∧ ∀ i, i < n → T.2 k (p + i) = S.2 (r + 1) (a + i)
theorem LdX.zero {S : Mem} {r a : Nat} (k p : Nat) (h : S.1 r 1 = nI a) : LdX S S k r a p 0 := ⟨h, fun _ _ => rfl, fun _ _ => rfl, fun i hi => absurd hi (Nat.not_lt_zero i)⟩
theorem LdX.step {S T U : Mem} {k r a p n : Nat} (h : LdX S T k r a p n) (hkr : k ≠ r + 1) (u1 : U.1 r 1 = nI (a + n + 1)) (u2' : ∀ c, c ≠ r → U.1 c = T.1 c) (u3 : U.2 = T.2) : LdX S (U.1, u2 U.2 k (p + n) (T.2 (r + 1) (a + n))) k r a p (n + 1) := by
  obtain ⟨h1, h2, h3, h4⟩ := h
  refine ⟨u1, fun c hc => (u2' c hc).trans (h2 c hc), fun c hc => ?_, fun i hi => ?_⟩
  · exact (u2_other _ _ _ hc).trans ((congrFun u3 c).trans (h3 c hc))
  · by_cases e : i = n
    · subst e
      exact (u2_s _ _ _ _).trans (congrFun (h3 _ (Ne.symm hkr)) _)
    · exact (u2_j _ _ _ _ (by omega)).trans ((congrFun (congrFun u3 k) _).trans (h4 i (by omega)))
/-- a desk as the cells X have it: nd departments, np products; of these i and p -/
def dskC (X : Nat → Int64) (S' : Mem) (nd np : Nat) (ns : Nat → Nat) (i p : Nat) : Prop := S'.1 1 2 = nI nd ∧ S'.1 1 3 = nI np ∧ (∀ j, j < 3 → S'.1 1 (4 + j) = (X (2 + j)).toInt32) ∧ (∀ j, j < 4 → S'.2 1 (7 + j) = X (5 + j)) ∧ (∀ d, d < i → depC X S' (4 + 17 * d) (9 + 71 * d)) ∧ ∀ q, q < p → proC X S' (89 + 3 * q) (9 + 71 * nd + plen ns q) (ns q) (ns q)
set_option maxHeartbeats 4000000 in
theorem e_dskLoad {r nd np : Nat} {ns : Nat → Nat} (hr : isRow r) (hr1 : 101 ≤ r) (S : Mem) (ha : S.1 r 1 = nI 0) (c1 : (S.2 (r + 1) 0).toInt32 = nI nd) (c2 : nd ≤ 5) (c3 : (S.2 (r + 1) 1).toInt32 = nI np) (c4 : np ≤ 4) (c5 : ∀ p, p < np → (S.2 (r + 1) (9 + 71 * nd + plen ns p + 7)).toInt32 = nI (ns p) ∧ ns p ≤ 40) (c6 : ∀ d, d < nd → ∃ k, k ≤ 2 ∧ (S.2 (r + 1) (9 + 71 * d + 4)).toInt32 = nI k) {Qr : QR} {Qx : QX} (h : ∀ S', dskC (S.2 (r + 1)) S' nd np ns nd np → (∀ c, c = 0 ∨ 101 ≤ c → c ≠ r → S'.1 c = S.1 c) → (∀ c, c = 0 ∨ 101 ≤ c → S'.2 c = S.2 c) → Qr none S') : vsp 156 1 (sX1_load 156) [.ref 1, .ref r] S Qr Qx := by
  have t1 : tyN 156 1 = (0, 1, 0, 0) := rfl
  have t2 : tyN 156 2 = (4, 5, 4, 17) := rfl
  have t3 : tyN 156 3 = (5, 4, 89, 3) := rfl
  have e1 : 1 ≠ r := by omega
  have e2 : 1 ≠ r + 1 := by omega
  have pl : ∀ p, p ≤ np → plen ns p ≤ 88 * p := fun p hp => plen_le (fun i hi => (c5 i (by omega)).2)
  refine ⟨t1, runL2 (α := Nat × Mem) (β := Nat × Mem) rfl 120 76 0 102 0 (fun b => [(2, .int (nI b.1)), (0, .ref 1), (1, .ref r)]) (fun b => b.2) (fun b => nd - b.1) (fun b => b.1 ≤ nd ∧ b.2.1 r 1 = nI (9 + 71 * b.1) ∧ dskC (S.2 (r + 1)) b.2 nd np ns b.1 0 ∧ (∀ c, c = 0 ∨ 101 ≤ c → c ≠ r → b.2.1 c = S.1 c) ∧ (∀ c, c = 0 ∨ 101 ≤ c → b.2.2 c = S.2 c))
    (fun b => [(2, .int (nI b.1)), (0, .ref 1), (1, .ref r)]) (fun b => b.2) (fun b => np - b.1) (fun b => b.1 ≤ np ∧ b.2.1 r 1 = nI (9 + 71 * nd + plen ns b.1) ∧ dskC (S.2 (r + 1)) b.2 nd np ns nd b.1 ∧ (∀ c, c = 0 ∨ 101 ≤ c → c ≠ r → b.2.1 c = S.1 c) ∧ (∀ c, c = 0 ∨ 101 ≤ c → b.2.2 c = S.2 c)) ?_ ?_ ?_⟩
  · rintro ⟨i, T⟩ ⟨hi, i1, i2, i3, i4⟩
    dsimp only at hi i1 i2 i3 i4
    refine ⟨t1, And.intro (fun h1 => ?_) (fun h1 => ?_)⟩
    · have h1 : nI np ≤ nI i := i2.2.1 ▸ h1
      obtain rfl := le_of_nI (by omega) hi h1
      exact ⟨rfl, h _ i2 i3 i4⟩
    · have h1' : ¬ nI np ≤ nI i := i2.2.1 ▸ h1
      have hlt := lt_of_nI (by omega) hi h1'
      have := pl i hi
      have := (c5 i hlt).2
      have g : T.2 (r + 1) = S.2 (r + 1) := i4 _ (by omega)
      refine ⟨t1, 1, 4, 89, 3, t3, by decide, vp_nI (by omega), ⟨Nat.le_of_ble_eq_true rfl, Nat.le_of_ble_eq_true rfl, Nat.le_of_ble_eq_true rfl⟩, ?_⟩
      show vsp 156 6 (sX6_load 156) [.ref (89 + 3 * (nI i).toNatClampNeg), .ref r] _ _ _
      rw [nI_clamp (by omega)]
      refine e_proLoad (n := ns i) (proN (by decide) (by omega)) hr (by omega) T i1 (by rw [g]; exact (c5 i hlt).1) (c5 i hlt).2 (by omega) (fun T' p1 p2 p3 p4 => ?_)
      rw [g] at p1
      obtain ⟨d1, d2, d3, d4, d5, d6⟩ := i2
      have f1 : T'.1 1 = T.1 1 := p3 1 (by omega) (by omega)
      have f2 : T'.2 1 = T.2 1 := p4 1 (by omega)
      refine ⟨rfl, rfl, (i + 1, T'), ⟨⟨by show i + 1 ≤ np; omega, ?_, ⟨?_, ?_, fun j hj => ?_, fun j hj => ?_, fun d hd => ?_, fun q hq => ?_⟩, fun c hc hcr => ?_, fun c hc => ?_⟩, by show np - (i + 1) < np - i; omega⟩, rfl, congrArg (fun z => some (Value.int z)) (nI_1 i), rfl, rfl, trivial⟩
      · refine p2.trans (congrArg nI ?_)
        show _ = 9 + 71 * nd + (plen ns i + (8 + 2 * ns i))
        omega
      · show T'.1 1 2 = _
        rw [f1]; exact d1
      · show T'.1 1 3 = _
        rw [f1]; exact d2
      · show T'.1 1 (4 + j) = _
        rw [f1]; exact d3 j hj
      · show T'.2 1 (7 + j) = _
        rw [f2]; exact d4 j hj
      · exact (d5 d hd).move (fun c x y => ⟨p3 c (by omega) (by omega), p4 c (by omega)⟩)
      · have hq : q < i + 1 := hq
        by_cases e : q = i
        · subst e; exact p1
        · exact (d6 q (by omega)).move (fun c x y => ⟨p3 c (by omega) (by omega), p4 c (by omega)⟩)
      · exact (p3 c (by omega) hcr).trans (i3 c hc hcr)
      · exact (p4 c (by omega)).trans (i4 c hc)
  · rintro ⟨i, T⟩ ⟨hi, i1, i2, i3, i4⟩
    dsimp only at hi i1 i2 i3 i4
    refine ⟨t1, And.intro (fun h1 => ?_) (fun h1 => ?_)⟩
    · have h1 : nI nd ≤ nI i := i2.1 ▸ h1
      obtain rfl := le_of_nI (by omega) hi h1
      exact ⟨rfl, rfl, (0, T), ⟨Nat.zero_le _, i1, i2, i3, i4⟩, rfl, rfl, rfl, rfl, trivial⟩
    · have h1' : ¬ nI nd ≤ nI i := i2.1 ▸ h1
      have hlt := lt_of_nI (by omega) hi h1'
      have g : T.2 (r + 1) = S.2 (r + 1) := i4 _ (by omega)
      refine ⟨t1, 0, 5, 4, 17, t2, by decide, vp_nI (by omega), ⟨Nat.le_of_ble_eq_true rfl, Nat.le_of_ble_eq_true rfl, Nat.le_of_ble_eq_true rfl⟩, ?_⟩
      show vsp 156 0 (sX0_load 156) [.ref (4 + 17 * (nI i).toNatClampNeg), .ref r] _ _ _
      rw [nI_clamp (by omega)]
      obtain ⟨kk, kk2, hkk⟩ := c6 i hlt
      refine e_depLoad (n := kk) (depN (by decide) (by omega)) hr (by omega) T i1 (by omega) (by rw [g]; exact hkk) kk2 (fun T' p1 p2 p3 p4 => ?_)
      rw [g] at p1
      obtain ⟨d1, d2, d3, d4, d5, d6⟩ := i2
      have f1 : T'.1 1 = T.1 1 := p3 1 (by omega) (by omega)
      have f2 : T'.2 1 = T.2 1 := p4 1 (by omega)
      refine ⟨rfl, rfl, (i + 1, T'), ⟨⟨by show i + 1 ≤ nd; omega, ?_, ⟨?_, ?_, fun j hj => ?_, fun j hj => ?_, fun d hd => ?_, fun q hq => absurd hq (Nat.not_lt_zero q)⟩, fun c hc hcr => ?_, fun c hc => ?_⟩, by show nd - (i + 1) < nd - i; omega⟩, rfl, congrArg (fun z => some (Value.int z)) (nI_1 i), rfl, rfl, trivial⟩
      · exact p2.trans (congrArg nI (by show _ = 9 + 71 * (i + 1); omega))
      · show T'.1 1 2 = _
        rw [f1]; exact d1
      · show T'.1 1 3 = _
        rw [f1]; exact d2
      · show T'.1 1 (4 + j) = _
        rw [f1]; exact d3 j hj
      · show T'.2 1 (7 + j) = _
        rw [f2]; exact d4 j hj
      · have hd : d < i + 1 := hd
        by_cases e : d = i
        · subst e; exact p1
        · exact (d5 d (by omega)).move (fun c x y => ⟨p3 c (by omega) (by omega), p4 c (by omega)⟩)
      · exact (p3 c (by omega) hcr).trans (i3 c hc hcr)
      · exact (p4 c (by omega)).trans (i4 c hc)
  · refine ⟨⟨Nat.le_of_ble_eq_true rfl, Nat.le_of_ble_eq_true rfl, Nat.le_of_ble_eq_true rfl⟩, e_takeCountO (a := 0) (n := nd) (m := 5) hr S ha (by decide) c1 c2 (by decide) (fun A a1 a2 a3 => ⟨t1, ?_⟩)⟩
    refine ⟨⟨Nat.le_of_ble_eq_true rfl, Nat.le_of_ble_eq_true rfl, Nat.le_of_ble_eq_true rfl⟩, e_takeCountO (a := 1) (n := np) (m := 4) hr _ ((u2_k _ _ _ _ (Ne.symm e1)).trans a1) (by decide) (by show (A.2 (r + 1) 1).toInt32 = _; rw [a3]; exact c3) c4 (by decide) (fun B v1 v2 v3 => ⟨t1, ?_⟩)⟩
    have L0 : LdI _ _ 1 r 2 4 0 := LdI.zero (S := (u2 B.1 1 3 (nI np), B.2)) 1 4 ((u2_k _ _ _ _ (Ne.symm e1)).trans v1)
    refine ⟨⟨Nat.le_of_ble_eq_true rfl, Nat.le_of_ble_eq_true rfl, Nat.le_of_ble_eq_true rfl⟩, e_takeIntO (a := 2) hr _ L0.1 (by omega) (fun T1 b1 b2 b3 => ⟨t1, ?_⟩)⟩
    have L1 := L0.step e1 b1 b2 b3
    refine ⟨⟨Nat.le_of_ble_eq_true rfl, Nat.le_of_ble_eq_true rfl, Nat.le_of_ble_eq_true rfl⟩, e_takeIntO (a := 3) hr _ L1.1 (by omega) (fun T2 b1 b2 b3 => ⟨t1, ?_⟩)⟩
    have L2 := L1.step e1 b1 b2 b3
    refine ⟨⟨Nat.le_of_ble_eq_true rfl, Nat.le_of_ble_eq_true rfl, Nat.le_of_ble_eq_true rfl⟩, e_takeIntO (a := 4) hr _ L2.1 (by omega) (fun T3 b1 b2 b3 => ⟨t1, ?_⟩)⟩
    have L3 := L2.step e1 b1 b2 b3
    clear L0 L1 L2
    have M0 := LdX.zero 1 7 L3.1
    refine ⟨⟨Nat.le_of_ble_eq_true rfl, Nat.le_of_ble_eq_true rfl, Nat.le_of_ble_eq_true rfl⟩, e_takeO (a := 5) hr _ M0.1 (by omega) (fun U1 b1 b2 b3 => ⟨t1, ?_⟩)⟩
    have M1 := M0.step e2 b1 b2 b3
    refine ⟨⟨Nat.le_of_ble_eq_true rfl, Nat.le_of_ble_eq_true rfl, Nat.le_of_ble_eq_true rfl⟩, e_takeO (a := 6) hr _ M1.1 (by omega) (fun U2 b1 b2 b3 => ⟨t1, ?_⟩)⟩
    have M2 := M1.step e2 b1 b2 b3
    refine ⟨⟨Nat.le_of_ble_eq_true rfl, Nat.le_of_ble_eq_true rfl, Nat.le_of_ble_eq_true rfl⟩, e_takeO (a := 7) hr _ M2.1 (by omega) (fun U3 b1 b2 b3 => ⟨t1, ?_⟩)⟩
    have M3 := M2.step e2 b1 b2 b3
    refine ⟨⟨Nat.le_of_ble_eq_true rfl, Nat.le_of_ble_eq_true rfl, Nat.le_of_ble_eq_true rfl⟩, e_takeO (a := 8) hr _ M3.1 (by omega) (fun U4 b1 b2 b3 => ⟨t1, ?_⟩)⟩
    have M4 := M3.step e2 b1 b2 b3
    clear M0 M1 M2 M3
    obtain ⟨p1, p2, p3, p4, p5⟩ := L3
    obtain ⟨q1, q2, q3, q4⟩ := M4
    have g : B.2 = S.2 := v3.trans a3
    have g2 : T3.2 = S.2 := p2.trans g
    refine ⟨rfl, rfl, (0, _), ⟨Nat.zero_le _, q1, ⟨?_, ?_, fun j hj => ?_, fun j hj => ?_, fun d hd => absurd hd (Nat.not_lt_zero d), fun q hq => absurd hq (Nat.not_lt_zero q)⟩, fun c hc hcr => ?_, fun c hc => ?_⟩, rfl, rfl, rfl, rfl, trivial⟩
    · refine (congrFun (q2 1 e1) 2).trans ((p5 2 (by omega)).trans ?_)
      show u2 B.1 1 3 (nI np) 1 2 = _
      exact (u2_j _ _ _ _ (by decide)).trans ((congrFun (v2 1 e1) 2).trans (by show u2 A.1 1 2 (nI nd) 1 2 = _; exact u2_s _ _ _ _))
    · refine (congrFun (q2 1 e1) 3).trans ((p5 3 (by omega)).trans ?_)
      show u2 B.1 1 3 (nI np) 1 3 = _
      exact u2_s _ _ _ _
    · refine (congrFun (q2 1 e1) _).trans ((p4 j hj).trans ?_)
      show (B.2 (r + 1) (2 + j)).toInt32 = _
      rw [g]
    · refine (q4 j hj).trans ?_
      show T3.2 (r + 1) (5 + j) = _
      rw [g2]
    · refine (q2 c hcr).trans ((p3 c (by omega) hcr).trans ?_)
      exact (u2_other _ _ _ (by omega)).trans ((v2 c hcr).trans ((u2_other _ _ _ (by omega)).trans (a2 c hcr)))
    · refine (q3 c (by omega)).trans ?_
      exact congrFun g2 c
