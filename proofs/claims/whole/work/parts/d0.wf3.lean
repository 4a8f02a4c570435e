/-! ===== what the products get, as numbers ===== -/
theorem sum_iS {f : Nat → Int64} {B : Int} (hB : B ≤ 1000000000000000000) : ∀ {m : Nat}, m ≤ 4 → (∀ p, p < m → -B ≤ (f p).toInt ∧ (f p).toInt ≤ B) → (sumN f m).toInt = iS (fun p => (f p).toInt) m ∧ -(B * m) ≤ (sumN f m).toInt ∧ (sumN f m).toInt ≤ B * m
  | 0, _, _ => ⟨L0, by show _ ≤ (0 : Int64).toInt; rw [L0]; omega, by show (0 : Int64).toInt ≤ _; rw [L0]; omega⟩
  | m + 1, hm, h => by
    obtain ⟨a, b, c⟩ := sum_iS (f := f) hB (m := m) (by omega) (fun p hp => h p (by omega))
    obtain ⟨d, e⟩ := h m (by omega)
    have B0 : 0 ≤ B := by omega
    have hm' : B * ((m + 1 : Nat) : Int) = B * m + B := by rw [Int.natCast_add, Int.mul_add]; simp
    have hb : B * (m : Int) ≤ 1000000000000000000 * 3 := Int.mul_le_mul hB (by omega) (by omega) (by decide)
    have s : (sumN f (m + 1)).toInt = (sumN f m).toInt + (f m).toInt := g_add rfl rfl (by omega)
    refine ⟨?_, by rw [s, hm']; omega, by rw [s, hm']; omega⟩
    rw [s, a]; rfl
section PTS
variable {r : Nat → Int64} {F O : Int64} {m : Nat}
/-- units of the products -/
def puI (r : Nat → Int64) (F : Int64) (m : Nat) : Prop := F.toInt ≤ 300000 ∧ ∀ p, p < m → 0 ≤ (pU r F m p).toInt ∧ (pU r F m p).toInt ≤ F.toInt
theorem pV_I (hu : puI r F m) (hW : ∀ p, p < m → WFp r p) {p : Nat} (hp : p < m) : 0 ≤ (pV r F m p).toInt ∧ (pV r F m p).toInt ≤ 300000 * 9999 := by
  obtain ⟨-, ⟨a, a1, a2⟩, ⟨b, b1, b2⟩, -⟩ := hW p hp
  have ta : (r (50 + 4 * p + 1)).toInt = (a : Int) := by rw [a2, lN_toInt (by omega)]
  have tb : (r (50 + 4 * p + 2)).toInt = (b : Int) := by rw [b2, lN_toInt (by omega)]
  have e := moreI (g_sub ta tb (by omega))
  obtain ⟨x, hx⟩ : ∃ x, (moreL 0 (r (50 + 4 * p + 1) - r (50 + 4 * p + 2))).toInt = x := ⟨_, rfl⟩
  have hx' := e.symm.trans hx
  have x0 : 0 ≤ x ∧ x ≤ 9999 := by rw [← hx']; split <;> omega
  have u := hu.2 p hp
  have f := hu.1
  obtain ⟨q1, q2, q3⟩ := mulI (A := pU r F m p) rfl hx u.1 (show _ ≤ (300000 : Int) by omega) x0.1 x0.2 (by decide)
  unfold pV
  rw [q1]; exact ⟨q2, q3⟩
theorem pL_I (hu : puI r F m) (hW : ∀ p, p < m → WFp r p) (O0 : 0 ≤ O.toInt) : ∀ p, p ≤ m → 0 ≤ (pL r F O m p).toInt ∧ (pL r F O m p).toInt ≤ O.toInt
  | 0, _ => ⟨O0, Int.le_refl _⟩
  | p + 1, hp => by
    obtain ⟨a, b⟩ := pL_I hu hW O0 p (by omega)
    have v := pV_I hu hW (p := p) (by omega)
    show 0 ≤ (if byP r p then pL r F O m p - lessL (pL r F O m p) (pV r F m p) else pL r F O m p).toInt ∧ (if byP r p then pL r F O m p - lessL (pL r F O m p) (pV r F m p) else pL r F O m p).toInt ≤ O.toInt
    have e := lessI (A := pL r F O m p) (B := pV r F m p) rfl rfl
    have ob := i64_le O
    by_cases z : byP r p
    · rw [if_pos z]
      have s : (pL r F O m p - lessL (pL r F O m p) (pV r F m p)).toInt = (pL r F O m p).toInt - (if (pL r F O m p).toInt < (pV r F m p).toInt then (pL r F O m p).toInt else (pV r F m p).toInt) := g_sub rfl e (by split <;> omega)
      rw [s]; split <;> omega
    · rw [if_neg z]; exact ⟨a, b⟩
theorem pM_I {f : Nat → Int64} {B : Int} (hB : B ≤ 1000000000000000000) (hm : m ≤ 4) (hf : ∀ p, p < m → 0 ≤ (f p).toInt ∧ (f p).toInt ≤ B) {p : Nat} (hp : p < m) (hb : ¬ byP r p) : (f p).toInt ≤ (sumN (pM r f) m).toInt := by
  have hM : ∀ q, q < m → 0 ≤ (pM r f q).toInt ∧ (pM r f q).toInt ≤ B := fun q hq => by
    have := hf q hq
    unfold pM
    split
    · rw [L0]; omega
    · exact this
  have e := (sum_iS hB hm (fun q hq => ⟨by have := hM q hq; omega, (hM q hq).2⟩)).1
  have t := iS_t (f := fun q => (pM r f q).toInt) (n := m) (k := p) (fun q hq => (hM q hq).1) hp
  rw [e]
  have ep : pM r f p = f p := if_neg hb
  have t : (pM r f p).toInt ≤ _ := t
  rw [ep] at t
  exact t
theorem pG_I (hm : m ≤ 4) (hu : puI r F m) (hW : ∀ p, p < m → WFp r p) (O0 : 0 ≤ O.toInt) {p : Nat} (hp : p < m) : -O.toInt ≤ (pG r F O m p).toInt ∧ (pG r F O m p).toInt ≤ O.toInt := by
  obtain ⟨a, b⟩ := pL_I (O := O) hu hW O0 m (Nat.le_refl m)
  unfold pG
  by_cases z : byP r p
  · rw [if_pos z, L0]; omega
  · rw [if_neg z]
    split
    · have v := pV_I hu hW hp
      have s := pM_I (f := pV r F m) (B := 300000 * 9999) (by decide) hm (fun q hq => pV_I hu hW hq) hp z
      have := cutA (A := pL r F O m m) (B := pV r F m p) (C := sumN (pM r (pV r F m)) m) rfl rfl rfl a v.1 s
      omega
    · have v := hu.2 p hp
      have s := pM_I (f := pU r F m) (B := 300000) (by decide) hm (fun q hq => ⟨(hu.2 q hq).1, by have := (hu.2 q hq).2; have := hu.1; omega⟩) hp z
      have := cutA (A := pL r F O m m) (B := pU r F m p) (C := sumN (pM r (pU r F m)) m) rfl rfl rfl a v.1 s
      omega
theorem pC_I (hm : m ≤ 4) (hu : puI r F m) (hW : ∀ p, p < m → WFp r p) (O0 : 0 ≤ O.toInt) (O1 : O.toInt ≤ 100000000000) {p : Nat} (hp : p < m) : -(6 * O.toInt) ≤ (pC r F O m p).toInt ∧ (pC r F O m p).toInt ≤ 6 * O.toInt := by
  obtain ⟨a, b⟩ := pL_I (O := O) hu hW O0 m (Nat.le_refl m)
  obtain ⟨a', b'⟩ := pL_I (O := O) hu hW O0 p (by omega)
  have v := pV_I hu hW hp
  have g := pG_I (O := O) hm hu hW O0 hp
  obtain ⟨-, s1, s2⟩ := sum_iS (f := pG r F O m) (B := O.toInt) (by omega) hm (fun q hq => pG_I hm hu hW O0 hq)
  have s3 : O.toInt * (m : Int) ≤ O.toInt * 4 := Int.mul_le_mul_of_nonneg_left (by omega) O0
  unfold pC
  by_cases z : byP r p
  · rw [if_pos z, lessI rfl rfl]; split <;> omega
  · rw [if_neg z]
    obtain ⟨x, hx, x0, x1⟩ : ∃ x, (if (∀ j, j < p → byP r j) then pL r F O m m - sumN (pG r F O m) m else 0).toInt = x ∧ -(5 * O.toInt) ≤ x ∧ x ≤ 5 * O.toInt := by
      split
      · exact ⟨_, g_sub rfl rfl (by omega), by omega, by omega⟩
      · exact ⟨0, L0, by omega, by omega⟩
    have e : (pG r F O m p + (if (∀ j, j < p → byP r j) then pL r F O m m - sumN (pG r F O m) m else 0)).toInt = (pG r F O m p).toInt + x := g_add rfl hx (by omega)
    rw [e]; omega
theorem pF_I (hm : m ≤ 4) (hu : puI r F m) (hW : ∀ p, p < m → WFp r p) (O0 : 0 ≤ O.toInt) (O1 : O.toInt ≤ 100000000000) {p : Nat} (hp : p < m) : -(30 * O.toInt) ≤ (pF r F O m p).toInt ∧ (pF r F O m p).toInt ≤ 30 * O.toInt := by
  have c := pC_I hm hu hW O0 O1 hp
  have hZ : ∀ q, q < m → -(6 * O.toInt) ≤ (pZ r F O m q).toInt ∧ (pZ r F O m q).toInt ≤ 6 * O.toInt := fun q hq => by
    have := pC_I hm hu hW O0 O1 hq
    unfold pZ
    split
    · rw [L0]; omega
    · exact this
  obtain ⟨-, s1, s2⟩ := sum_iS (f := pZ r F O m) (B := 6 * O.toInt) (by omega) hm hZ
  have s3 : 6 * O.toInt * (m : Int) ≤ 6 * O.toInt * 4 := Int.mul_le_mul_of_nonneg_left (by omega) (by omega)
  unfold pF
  split
  · obtain ⟨x, hx, x0, x1⟩ : ∃ x, (if (∀ j, j < p → ¬ 0 < pU r F m j) then sumN (pZ r F O m) m else 0).toInt = x ∧ -(24 * O.toInt) ≤ x ∧ x ≤ 24 * O.toInt := by
      split
      · exact ⟨_, rfl, by omega, by omega⟩
      · exact ⟨0, L0, by omega, by omega⟩
    have e : (pC r F O m p + (if (∀ j, j < p → ¬ 0 < pU r F m j) then sumN (pZ r F O m) m else 0)).toInt = (pC r F O m p).toInt + x := g_add rfl hx (by omega)
    rw [e]; omega
  · rw [L0]; omega
end PTS
/-! ===== what holds of a row between calls ===== -/
def unI (w : Nat → Int64) (n : Nat) : Int := (w 4).toInt + iS (opI w) n
def ceI (w : Nat → Int64) (n : Nat) : Int := iS (inC w) n
def lyO (w : Nat → Int64) (U I : Int) (t p i : Nat) : Prop := 1 ≤ (w (419 + 83 * p + 2 * i)).toInt ∧ (w (419 + 83 * p + 2 * i)).toInt + U ≤ 10000 * t ∧ (w (420 + 83 * p + 2 * i)).toInt + 30 * I ≤ 3000000000 * t ∧ -(w (420 + 83 * p + 2 * i)).toInt + 30 * I ≤ 3000000000 * t
def WL (w : Nat → Int64) (U I : Int) (t p : Nat) : Prop := ∃ k, k ≤ 40 ∧ w (418 + 83 * p) = lN k ∧ (w 2 = 1 → k ≤ 1) ∧ (∀ i, i < k → lyO w U I t p i) ∧ ∀ i, k ≤ i → i < 41 → w (419 + 83 * p + 2 * i) = 0 ∧ w (420 + 83 * p + 2 * i) = 0
def WN (w : Nat → Int64) (t n m : Nat) : Prop := WFt w n m ∧ pWhl w n m ∧ 0 < m ∧ rg w 3 t ∧ rg w 4 10000 ∧ (∀ d, d < n → WFe w d t ∧ cen0 w d) ∧ (∀ p, p < m → WL w (unI w n) (ceI w n) t p) ∧ unI w n ≤ 10000 * t ∧ ceI w n ≤ 100000000 * t
def WI (w : Nat → Int64) (t : Nat) : Prop := ∃ n m, WN w t n m
theorem WL.k {w : Nat → Int64} {U I : Int} {t p : Nat} (h : WL w U I t p) : WFk w p := by
  obtain ⟨k, a, b, c, -, e⟩ := h
  exact ⟨k, a, b, c, e⟩
theorem lN_I {n : Nat} (h : n < 2 ^ 63) : (lN n).toInt = (n : Int) := lg_ofNat_toInt (by omega)
theorem rg_of {w : Nat → Int64} {i B : Nat} (h0 : 0 ≤ (w i).toInt) (h1 : (w i).toInt ≤ B) (hB : B < 2 ^ 62) : rg w i B := by
  refine ⟨(w i).toInt.toNat, by omega, Int64.toInt_inj.mp ?_⟩
  rw [lN_I (by omega)]
  omega
theorem rg_I {w : Nat → Int64} {i B : Nat} (h : rg w i B) (hB : B < 2 ^ 62) : 0 ≤ (w i).toInt ∧ (w i).toInt ≤ B := by
  obtain ⟨v, a, b⟩ := h
  rw [b, lN_I (by omega)]
  omega
theorem WFe.up {w : Nat → Int64} {d t t' : Nat} (h : WFe w d t) (ht : t ≤ t') : WFe w d t' := by
  obtain ⟨f1, ⟨f2, f3, f4⟩, f5⟩ := h
  exact ⟨f1, ⟨f2, f3, fun j hj => (f4 j hj).le (by omega)⟩, f5⟩
theorem WI.up {w : Nat → Int64} {t t' : Nat} (h : WI w t) (ht : t ≤ t') : WI w t' := by
  obtain ⟨n, m, a, b, c, d, e, f, g, i, j⟩ := h
  refine ⟨n, m, a, b, c, d.le ht, e, fun k hk => ⟨(f k hk).1.up ht, (f k hk).2⟩, fun p hp => ?_, by omega, by omega⟩
  obtain ⟨k, g1, g2, g3, g4, g5⟩ := g p hp
  refine ⟨k, g1, g2, g3, fun i hi => ?_, g5⟩
  obtain ⟨x1, x2, x3, x4⟩ := g4 i hi
  exact ⟨x1, by omega, by omega, by omega⟩
theorem WFt.row {w w' : Nat → Int64} {n m : Nat} (h : WFt w n m) (e : ∀ i, i < 66 → i ≠ 3 → i ≠ 4 → w' i = w i) : WFt w' n m := by
  obtain ⟨a, b, c, d, f, g, i⟩ := h
  exact ⟨a, b, by rw [e 0 (by decide) (by decide) (by decide)]; exact c, by rw [e 1 (by decide) (by decide) (by decide)]; exact d, by rw [e 2 (by decide) (by decide) (by decide)]; exact f, fun k hk => (g k hk).move (fun i x y => e i (by omega) (by omega) (by omega)), fun p hp => (i p hp).move (fun i x y => e i (by omega) (by omega) (by omega))⟩
theorem pWhl.row {w w' : Nat → Int64} {n m : Nat} (hm : m ≤ 4) (h : pWhl w n m) (e : ∀ i, 50 ≤ i → i < 66 → w' i = w i) : pWhl w' n m := by
  obtain ⟨a, b, p, hp, c⟩ := h
  refine ⟨a, ?_, p, hp, by rw [e _ (by omega) (by omega)]; exact c⟩
  rw [← b]; exact sumN_congr fun q hq => e _ (by omega) (by omega)
theorem inC_e {w w' : Nat → Int64} {d : Nat} (h : ∀ i, (66 + 7 * d ≤ i ∧ i < 70 + 7 * d) ∨ (103 + 6 * d ≤ i ∧ i < 107 + 6 * d) → w' i = w i) : inC w' d = inC w d := by
  unfold inC
  rw [h _ (by omega), h (103 + 6 * d + 1) (by omega), h (103 + 6 * d + 2) (by omega), h (103 + 6 * d + 3) (by omega), h (66 + 7 * d + 1) (by omega), h (66 + 7 * d + 2) (by omega), h (66 + 7 * d + 3) (by omega)]
theorem cen0_e {w w' : Nat → Int64} {d : Nat} (h : cen0 w d) (e : ∀ i, (66 + 7 * d ≤ i ∧ i < 70 + 7 * d) ∨ (103 + 6 * d ≤ i ∧ i < 107 + 6 * d) → w' i = w i) : cen0 w' d := ⟨fun k hk => by rw [e _ (by omega)]; exact h.1 k hk, fun k x y => by rw [e _ (by omega)]; exact h.2 k x y⟩
theorem rg_e {w w' : Nat → Int64} {i B : Nat} (h : rg w i B) (e : w' i = w i) : rg w' i B := by
  obtain ⟨v, a, b⟩ := h
  exact ⟨v, a, e.trans b⟩
/-- rows that agree where a row is read -/
theorem WI.row {w w' : Nat → Int64} {t : Nat} (h : WI w t) (e : ∀ i, i < 754 → w' i = w i) : WI w' t := by
  obtain ⟨n, m, a, b, c, d, e4, f, g, i, j⟩ := h
  have n5 := a.1
  have m4 := a.2.1
  have eU : unI w' n = unI w n := by
    unfold unI
    rw [e 4 (by decide), iS_c (g := opI w) (fun q hq => by unfold opI; rw [e _ (by omega)])]
  have eC : ceI w' n = ceI w n := iS_c (fun q hq => inC_e (fun i hi => e i (by omega)))
  refine ⟨n, m, a.row (fun i x _ _ => e i (by omega)), b.row m4 (fun i _ y => e i (by omega)), c, rg_e d (e 3 (by decide)), rg_e e4 (e 4 (by decide)), fun k hk => ?_, fun p hp => ?_, by rw [eU]; exact i, by rw [eC]; exact j⟩
  · obtain ⟨⟨⟨f1, f2, f3, f4, f5⟩, ⟨f6, f7, f8⟩, f9, f10, f11, f12, f13, f14⟩, fc⟩ := f k hk
    exact ⟨⟨⟨(e _ (by omega)).trans f1, fun j x y => rg_e (f2 j x y) (e _ (by omega)), rg_e f3 (e _ (by omega)), rg_e f4 (e _ (by omega)), rg_e f5 (e _ (by omega))⟩, ⟨rg_e f6 (e _ (by omega)), rg_e f7 (e _ (by omega)), fun j x => rg_e (f8 j x) (e _ (by omega))⟩, rg_e f9 (e _ (by omega)), rg_e f10 (e _ (by omega)), rg_e f11 (e _ (by omega)), rg_e f12 (e _ (by omega)), rg_e f13 (e _ (by omega)), rg_e f14 (e _ (by omega))⟩, cen0_e fc (fun i hi => e i (by omega))⟩
  · obtain ⟨k, g1, g2, g3, g4, g5⟩ := g p hp
    refine ⟨k, g1, (e _ (by omega)).trans g2, fun z => g3 ((e 2 (by decide)).symm.trans z), fun i hi => ?_, fun i x y => ?_⟩
    · unfold lyO
      rw [e _ (by omega), e (420 + 83 * p + 2 * i) (by omega), eU, eC]
      exact g4 i hi
    · rw [e _ (by omega), e (420 + 83 * p + 2 * i) (by omega)]
      exact g5 i x y
