/-! ===== the model: opens, closes ===== -/
def segW (w g : Nat → Int64) (a k : Nat) : Nat → Int64 := fun i => if a ≤ i ∧ i < a + k then g (i - a) else w i
theorem segW_0 (w g : Nat → Int64) (a : Nat) : segW w g a 0 = w := funext fun i => if_neg (by omega)
theorem segW_o (w g : Nat → Int64) {a k i : Nat} (h : i < a ∨ a + k ≤ i) : segW w g a k i = w i := if_neg (by omega)
theorem segW_i (w g : Nat → Int64) {a k j : Nat} (h : j < k) : segW w g a k (a + j) = g j := by
  unfold segW
  rw [if_pos (by omega), show a + j - a = j by omega]
theorem segW_s (w g : Nat → Int64) (a k : Nat) : u1L (segW w g a k) (a + k) (g k) = segW w g a (k + 1) := by
  funext i
  by_cases e : i = a + k
  · subst e
    rw [u1L_s, segW_i _ _ (Nat.lt_succ_self k)]
  · rw [u1L_o _ _ e]
    unfold segW
    by_cases h : a ≤ i ∧ i < a + k
    · rw [if_pos h, if_pos (by omega)]
    · rw [if_neg h, if_neg (by omega)]
theorem u1L_2 (w : Nat → Int64) (i : Nat) (u v : Int64) : u1L (u1L w i u) i v = u1L w i v := by
  funext x
  by_cases e : x = i
  · subst e; rw [u1L_s, u1L_s]
  · rw [u1L_o _ _ e, u1L_o _ _ e, u1L_o _ _ e]
theorem segW_u (w g : Nat → Int64) {a k i : Nat} (v : Int64) (h : i < a ∨ a + k ≤ i) : u1L (segW w g a k) i v = segW (u1L w i v) g a k := by
  funext x
  by_cases e : x = i
  · subst e; rw [u1L_s, segW_o _ _ h, u1L_s]
  · rw [u1L_o _ _ e]
    unfold segW
    by_cases f : a ≤ x ∧ x < a + k
    · rw [if_pos f, if_pos f]
    · rw [if_neg f, if_neg f, u1L_o _ _ e]
/-- a store into the trial -/
theorem st1 {X : Nat → Nat → Int64} {f : Nat → Int64} (h : X 143 = f) {i : Nat} (hi : i < 754) (v : Int64) : u2 X 143 (nI i).toNatClampNeg v 143 = u1L f i v ∧ ∀ c, c ≠ 143 → u2 X 143 (nI i).toNatClampNeg v c = X c := by
  rw [nI_clamp (by omega)]
  exact ⟨by rw [u2_rowL, h], fun c hc => u2_other _ _ _ hc⟩
/-- a reading of the trial -/
theorem rd1 {X : Nat → Nat → Int64} {f : Nat → Int64} (h : X 143 = f) {i : Nat} (hi : i < 754) : X 143 (nI i).toNatClampNeg = f i := by rw [nI_clamp (by omega), h]
theorem e_workV {d x : Nat} {v : Int32} (hv : v = nI x) (S : Mem) {Qr : QR} {Qx : QX} (h : Qr (some (.int (nI (101 + 6 * d + x)))) S) : sX10_working 156 [.int (nI d), .int v] S Qr Qx := by
  subst hv; exact e_working d x S h
def opW (w : Nat → Int64) (d : Nat) (u c : Int64) : Nat → Int64 := segW (u1L (u1L (segW w (fun j => w (101 + 6 * d + j)) (131 + 55 * d) 6) ((131 + 55 * d) + 6) u) ((131 + 55 * d) + 7) c) (fun j => w (66 + 7 * d + j)) ((131 + 55 * d) + 8) 7
set_option maxHeartbeats 2000000 in
theorem e_opens {d : Nat} (hd : d < 5) (u c : Int64) (w : Nat → Int64) (S : Mem) (hW : S.2 143 = w) {Qr : QR} {Qx : QX} (h : ∀ X, X 143 = opW w d u c → (∀ k, k ≠ 143 → X k = S.2 k) → Qr none (S.1, X)) : sX10_opens 156 [.ref 143, .int (nI d), .long u, .long c] S Qr Qx := by
  have v0 : ∀ x, x < 754 → vp_in (nI x) 754 := fun x hx => vp_nI hx
  obtain ⟨B, eB⟩ : ∃ B, u1L (u1L (segW w (fun j => w (101 + 6 * d + j)) (131 + 55 * d) 6) ((131 + 55 * d) + 6) u) ((131 + 55 * d) + 7) c = B := ⟨_, rfl⟩
  refine runM (ι := Nat × LL × Mem × Nat) rfl 100 0 [3, 56] (fun a => a.1) (fun a => a.2.1) (fun a => a.2.2.1) (fun a => a.2.2.2)
    (fun a => (∃ k X, k ≤ 6 ∧ X 143 = segW w (fun j => w (101 + 6 * d + j)) (131 + 55 * d) k ∧ (∀ c, c ≠ 143 → X c = S.2 c) ∧ a = (3, [(6, .int (nI k)), (0, .ref 143), (1, .int (nI d)), (2, .long u), (4, .long c)], (S.1, X), 6 - k + 10)) ∨ (∃ k X, k ≤ 7 ∧ X 143 = segW B (fun j => w (66 + 7 * d + j)) ((131 + 55 * d) + 8) k ∧ (∀ c, c ≠ 143 → X c = S.2 c) ∧ a = (56, [(6, .int (nI k)), (0, .ref 143), (1, .int (nI d)), (2, .long u), (4, .long c)], (S.1, X), 7 - k))) ?_ ?_
  · rintro a (⟨k, X, hk, hX, hc, rfl⟩ | ⟨k, X, hk, hX, hc, rfl⟩)
    · refine And.intro (fun q => ?_) (fun q => ?_)
      · have q : nI 6 ≤ nI k := q
        obtain rfl := le_of_nI (by decide) hk q
        obtain ⟨a1, a2⟩ := st1 hX (i := (131 + 55 * d) + 6) (by omega) u
        obtain ⟨b1, b2⟩ := st1 a1 (i := (131 + 55 * d) + 7) (by omega) c
        refine ⟨⟨Nat.le_of_ble_eq_true rfl, Nat.le_of_ble_eq_true rfl, Nat.le_of_ble_eq_true rfl⟩, e_latest d 6 _ ⟨754, tTri, v0 _ (by omega), ⟨Nat.le_of_ble_eq_true rfl, Nat.le_of_ble_eq_true rfl, Nat.le_of_ble_eq_true rfl⟩, e_latest d 7 _ ⟨754, tTri, v0 _ (by omega), rfl, rfl, (56, [(6, .int (nI 0)), (0, .ref 143), (1, .int (nI d)), (2, .long u), (4, .long c)], (S.1, _), 7 - 0), rfl, ⟨Or.inr ⟨0, _, (by decide), ?_, fun x hx => (b2 x hx).trans ((a2 x hx).trans (hc x hx)), rfl⟩, show 7 - 0 < 6 - 6 + 10 by decide⟩, rfl, rfl, rfl, rfl, rfl, rfl, trivial⟩⟩⟩
        rw [segW_0, ← eB]; exact b1
      · have q : ¬ nI 6 ≤ nI k := q
        have hk6 := lt_of_nI (by decide) hk q
        have r1 : X 143 (nI (101 + 6 * d + k)).toNatClampNeg = w (101 + 6 * d + k) := by rw [rd1 hX (by omega), segW_o _ _ (by omega)]
        obtain ⟨a1, a2⟩ := st1 hX (i := (131 + 55 * d) + k) (by omega) (X 143 (nI (101 + 6 * d + k)).toNatClampNeg)
        have n0 : nI 0 + nI k = nI k := by rw [nI_add, Nat.zero_add]
        refine ⟨⟨Nat.le_of_ble_eq_true rfl, Nat.le_of_ble_eq_true rfl, Nat.le_of_ble_eq_true rfl⟩, e_latestV n0 _ ⟨⟨Nat.le_of_ble_eq_true rfl, Nat.le_of_ble_eq_true rfl, Nat.le_of_ble_eq_true rfl⟩, e_working d k _ ⟨754, tTri, v0 _ (by omega), 754, tTri, v0 _ (by omega), rfl, rfl, (3, [(6, .int (nI (k + 1))), (0, .ref 143), (1, .int (nI d)), (2, .long u), (4, .long c)], (S.1, _), 6 - (k + 1) + 10), rfl, ⟨Or.inl ⟨k + 1, _, hk6, ?_, fun x hx => (a2 x hx).trans (hc x hx), rfl⟩, show 6 - (k + 1) + 10 < 6 - k + 10 by omega⟩, rfl, congrArg (fun z => some (Value.int z)) (nI_1 k), rfl, rfl, rfl, rfl, trivial⟩⟩⟩
        rw [a1, r1]
        exact segW_s w (fun j => w (101 + 6 * d + j)) (131 + 55 * d) k
    · refine And.intro (fun q => ?_) (fun q => ?_)
      · have q : nI 7 ≤ nI k := q
        obtain rfl := le_of_nI (by decide) hk q
        rw [← eB] at hX
        exact ⟨rfl, h X hX hc⟩
      · have q : ¬ nI 7 ≤ nI k := q
        have hk7 := lt_of_nI (by decide) hk q
        have r1 : X 143 (nI (66 + 7 * d + k)).toNatClampNeg = w (66 + 7 * d + k) := by rw [rd1 hX (by omega), segW_o _ _ (by omega), ← eB, u1L_o _ _ (by omega), u1L_o _ _ (by omega), segW_o _ _ (by omega)]
        obtain ⟨a1, a2⟩ := st1 hX (i := (131 + 55 * d) + (8 + k)) (by omega) (X 143 (nI (66 + 7 * d + k)).toNatClampNeg)
        have n0 : nI 8 + nI k = nI (8 + k) := nI_add _ _
        refine ⟨⟨Nat.le_of_ble_eq_true rfl, Nat.le_of_ble_eq_true rfl, Nat.le_of_ble_eq_true rfl⟩, e_latestV n0 _ ⟨⟨Nat.le_of_ble_eq_true rfl, Nat.le_of_ble_eq_true rfl, Nat.le_of_ble_eq_true rfl⟩, e_coming d k _ ⟨754, tTri, v0 _ (by omega), 754, tTri, v0 _ (by omega), rfl, rfl, (56, [(6, .int (nI (k + 1))), (0, .ref 143), (1, .int (nI d)), (2, .long u), (4, .long c)], (S.1, _), 7 - (k + 1)), rfl, ⟨Or.inr ⟨k + 1, _, hk7, ?_, fun x hx => (a2 x hx).trans (hc x hx), rfl⟩, show 7 - (k + 1) < 7 - k by omega⟩, rfl, congrArg (fun z => some (Value.int z)) (nI_1 k), rfl, rfl, rfl, rfl, trivial⟩⟩⟩
        rw [a1, r1, show (131 + 55 * d) + (8 + k) = (131 + 55 * d) + 8 + k by omega]
        exact segW_s B (fun j => w (66 + 7 * d + j)) ((131 + 55 * d) + 8) k
  · exact ⟨rfl, rfl, (3, [(6, .int (nI 0)), (0, .ref 143), (1, .int (nI d)), (2, .long u), (4, .long c)], (S.1, S.2), 6 - 0 + 10), rfl, Or.inl ⟨0, S.2, (by decide), hW.trans (segW_0 _ _ _).symm, fun _ _ => rfl, rfl⟩, rfl, rfl, rfl, rfl, rfl, rfl, trivial⟩
/-- the row with the month of d closed -/
def clK (w : Nat → Int64) (d k : Nat) : Int64 := w ((131 + 55 * d) + (34 + 4 * k + 2)) + (if k = 3 then w ((131 + 55 * d) + 51) else 0)
def clB (w : Nat → Int64) (d : Nat) : Nat → Int64 := segW (u1L (u1L w (101 + 6 * d) (w ((131 + 55 * d) + 13))) (102 + 6 * d) (if w ((131 + 55 * d) + 13) = 0 then 0 else w ((131 + 55 * d) + 14))) (clK w d) (103 + 6 * d) 4
def clD (w : Nat → Int64) (d : Nat) : Nat → Int64 := u1L (u1L (segW (u1L (clB w d) 750 (w 750 + sumN (fun k => w (66 + 7 * d + k)) 4)) (fun _ => 0) (66 + 7 * d) 7) 752 (w 752 + w ((131 + 55 * d) + 52))) 753 (w 753 + w ((131 + 55 * d) + 53))
set_option maxHeartbeats 4000000 in
theorem e_closes {d : Nat} (hd : d < 5) (w : Nat → Int64) (S : Mem) (hW : S.2 143 = w) {Qr : QR} {Qx : QX} (h : ∀ X, X 143 = clD w d → (∀ k, k ≠ 143 → X k = S.2 k) → Qr none (S.1, X)) : sX10_closes 156 [.ref 143, .int (nI d)] S Qr Qx := by
  have v0 : ∀ x, x < 754 → vp_in (nI x) 754 := fun x hx => vp_nI hx
  obtain ⟨left, el⟩ : ∃ v, w ((131 + 55 * d) + 13) = v := ⟨_, rfl⟩
  obtain ⟨A, eA⟩ : ∃ A, u1L (u1L w (101 + 6 * d) left) (102 + 6 * d) (if left = 0 then 0 else w ((131 + 55 * d) + 14)) = A := ⟨_, rfl⟩
  have oA : ∀ i, i < 101 + 6 * d ∨ 102 + 6 * d < i → A i = w i := fun i hi => by rw [← eA, u1L_o _ _ (by omega), u1L_o _ _ (by omega)]
  obtain ⟨B, eB⟩ : ∃ B, clB w d = B := ⟨_, rfl⟩
  have eB' : segW A (clK w d) (103 + 6 * d) 4 = B := by rw [← eB, ← eA, ← el]; rfl
  have oB : ∀ i, i < 101 + 6 * d ∨ 106 + 6 * d < i → B i = w i := fun i hi => by rw [← eB', segW_o _ _ (by omega), oA _ (by omega)]
  have sA : ∀ k, k < 4 → sumN (fun k => w (66 + 7 * d + k)) (k + 1) = sumN (fun k => w (66 + 7 * d + k)) k + w (66 + 7 * d + k) := fun k _ => rfl
  refine runM (ι := Nat × LL × Mem × Nat) rfl 140 0 [45, 104] (fun a => a.1) (fun a => a.2.1) (fun a => a.2.2.1) (fun a => a.2.2.2)
    (fun a => (∃ k X, k ≤ 4 ∧ X 143 = segW A (clK w d) (103 + 6 * d) k ∧ (∀ c, c ≠ 143 → X c = S.2 c) ∧ a = (45, [(4, .int (nI k)), (0, .ref 143), (1, .int (nI d)), (2, .long left)], (S.1, X), 4 - k + 10)) ∨ (∃ k X, k ≤ 7 ∧ X 143 = segW (u1L B 750 (w 750 + sumN (fun k => w (66 + 7 * d + k)) (min k 4))) (fun _ => 0) (66 + 7 * d) k ∧ (∀ c, c ≠ 143 → X c = S.2 c) ∧ a = (104, [(4, .int (nI k)), (0, .ref 143), (1, .int (nI d)), (2, .long left)], (S.1, X), 7 - k))) ?_ ?_
  · rintro a (⟨k, X, hk, hX, hc, rfl⟩ | ⟨k, X, hk, hX, hc, rfl⟩)
    · refine And.intro (fun q => ?_) (fun q => ?_)
      · have q : nI 4 ≤ nI k := q
        obtain rfl := le_of_nI (by decide) hk q
        refine ⟨rfl, rfl, (104, [(4, .int (nI 0)), (0, .ref 143), (1, .int (nI d)), (2, .long left)], (S.1, X), 7 - 0), rfl, ⟨Or.inr ⟨0, X, (by decide), ?_, hc, rfl⟩, show 7 - 0 < 4 - 4 + 10 by decide⟩, rfl, rfl, rfl, rfl, rfl, trivial⟩
        rw [hX, eB', segW_0]
        funext i
        by_cases z : i = 750
        · subst z
          rw [u1L_s, oB _ (by omega)]
          exact (Int64.add_zero _).symm
        · rw [u1L_o _ _ z]
      · have q : ¬ nI 4 ≤ nI k := q
        have hk4 := lt_of_nI (by decide) hk q
        have rr : ∀ i, (131 + 55 * d) ≤ i → i < 754 → X 143 (nI i).toNatClampNeg = w i := fun i h1 h2 => by rw [rd1 hX h2, segW_o _ _ (by omega), oA _ (by omega)]
        have n2 : nI 2 + nI k = nI (2 + k) := nI_add _ _
        have n34 : nI 34 + nI 4 * nI k + nI 2 = nI (34 + 4 * k + 2) := by rw [pk_mul, nI_add, nI_add]
        refine ⟨⟨Nat.le_of_ble_eq_true rfl, Nat.le_of_ble_eq_true rfl, Nat.le_of_ble_eq_true rfl⟩, e_workV n2 _ ⟨⟨Nat.le_of_ble_eq_true rfl, Nat.le_of_ble_eq_true rfl, Nat.le_of_ble_eq_true rfl⟩, e_latestV n34 _ ⟨754, tTri, v0 _ (by omega), And.intro (fun q3 => ?_) (fun q3 => ⟨⟨Nat.le_of_ble_eq_true rfl, Nat.le_of_ble_eq_true rfl, Nat.le_of_ble_eq_true rfl⟩, e_latest d 51 _ ⟨754, tTri, v0 _ (by omega), ?_⟩⟩)⟩⟩⟩
        · have q3 : ¬ k = 3 := fun z => q3 (by rw [z]; rfl)
          obtain ⟨a1, a2⟩ := st1 hX (i := 101 + 6 * d + (2 + k)) (by omega) (X 143 (nI ((131 + 55 * d) + (34 + 4 * k + 2))).toNatClampNeg + 0)
          refine ⟨754, tTri, v0 _ (by omega), rfl, rfl, (45, [(4, .int (nI (k + 1))), (0, .ref 143), (1, .int (nI d)), (2, .long left)], (S.1, _), 4 - (k + 1) + 10), rfl, ⟨Or.inl ⟨k + 1, _, hk4, ?_, fun x hx => (a2 x hx).trans (hc x hx), rfl⟩, show 4 - (k + 1) + 10 < 4 - k + 10 by omega⟩, rfl, congrArg (fun z => some (Value.int z)) (nI_1 k), rfl, rfl, rfl, trivial⟩
          rw [a1, rr _ (by omega) (by omega), ← segW_s, show 101 + 6 * d + (2 + k) = 103 + 6 * d + k by omega]
          unfold clK
          rw [if_neg q3]
        · have q3 : k = 3 := (nI_eq (by omega) (by decide)).mp q3
          obtain ⟨a1, a2⟩ := st1 hX (i := 101 + 6 * d + (2 + k)) (by omega) (X 143 (nI ((131 + 55 * d) + (34 + 4 * k + 2))).toNatClampNeg + X 143 (nI ((131 + 55 * d) + 51)).toNatClampNeg)
          refine ⟨754, tTri, v0 _ (by omega), rfl, rfl, (45, [(4, .int (nI (k + 1))), (0, .ref 143), (1, .int (nI d)), (2, .long left)], (S.1, _), 4 - (k + 1) + 10), rfl, ⟨Or.inl ⟨k + 1, _, hk4, ?_, fun x hx => (a2 x hx).trans (hc x hx), rfl⟩, show 4 - (k + 1) + 10 < 4 - k + 10 by omega⟩, rfl, congrArg (fun z => some (Value.int z)) (nI_1 k), rfl, rfl, rfl, trivial⟩
          rw [a1, rr _ (by omega) (by omega), rr _ (by omega) (by omega), ← segW_s, show 101 + 6 * d + (2 + k) = 103 + 6 * d + k by omega]
          unfold clK
          rw [if_pos q3]
    · have hf : ∀ i v, 73 + 7 * d ≤ i → i ≠ 750 → 106 + 6 * d < i → segW (u1L B 750 v) (fun _ => 0) (66 + 7 * d) k i = w i := fun i v h1 h2 h4 => by rw [segW_o _ _ (by omega), u1L_o _ _ h2, oB _ (by omega)]
      refine And.intro (fun q => ?_) (fun q => ?_)
      · have q : nI 7 ≤ nI k := q
        obtain rfl := le_of_nI (by decide) hk q
        obtain ⟨a1, a2⟩ := st1 hX (i := 752) (by decide) (X 143 (nI 752).toNatClampNeg + X 143 (nI ((131 + 55 * d) + 52)).toNatClampNeg)
        have r3 : u2 X 143 (nI 752).toNatClampNeg (X 143 (nI 752).toNatClampNeg + X 143 (nI ((131 + 55 * d) + 52)).toNatClampNeg) 143 (nI 753).toNatClampNeg = w 753 := by rw [rd1 a1 (by decide), u1L_o _ _ (by decide)]; exact hf _ _ (by omega) (by decide) (by omega)
        have r4 : u2 X 143 (nI 752).toNatClampNeg (X 143 (nI 752).toNatClampNeg + X 143 (nI ((131 + 55 * d) + 52)).toNatClampNeg) 143 (nI ((131 + 55 * d) + 53)).toNatClampNeg = w ((131 + 55 * d) + 53) := by rw [rd1 a1 (by omega), u1L_o _ _ (by omega)]; exact hf _ _ (by omega) (by omega) (by omega)
        obtain ⟨b1, b2⟩ := st1 a1 (i := 753) (by decide) (u2 X 143 (nI 752).toNatClampNeg (X 143 (nI 752).toNatClampNeg + X 143 (nI ((131 + 55 * d) + 52)).toNatClampNeg) 143 (nI 753).toNatClampNeg + u2 X 143 (nI 752).toNatClampNeg (X 143 (nI 752).toNatClampNeg + X 143 (nI ((131 + 55 * d) + 52)).toNatClampNeg) 143 (nI ((131 + 55 * d) + 53)).toNatClampNeg)
        refine ⟨754, tTri, v0 752 (by decide), ⟨Nat.le_of_ble_eq_true rfl, Nat.le_of_ble_eq_true rfl, Nat.le_of_ble_eq_true rfl⟩, e_latest d 52 _ ⟨754, tTri, v0 _ (by omega), 754, tTri, v0 752 (by decide), 754, tTri, v0 753 (by decide), ⟨Nat.le_of_ble_eq_true rfl, Nat.le_of_ble_eq_true rfl, Nat.le_of_ble_eq_true rfl⟩, e_latest d 53 _ ⟨754, tTri, v0 _ (by omega), 754, tTri, v0 753 (by decide), rfl, h _ (b1.trans ?_) (fun x hx => (b2 x hx).trans ((a2 x hx).trans (hc x hx)))⟩⟩⟩
        rw [r3, r4, rd1 hX (by decide), rd1 hX (by omega), hf 752 _ (by omega) (by decide) (by omega), hf ((131 + 55 * d) + 52) _ (by omega) (by omega) (by omega), ← eB]
        rfl
      · have q : ¬ nI 7 ≤ nI k := q
        have hk7 := lt_of_nI (by decide) hk q
        have r1 : ∀ v, segW (u1L B 750 v) (fun _ => 0) (66 + 7 * d) k (66 + 7 * d + k) = w (66 + 7 * d + k) := fun v => by rw [segW_o _ _ (by omega), u1L_o _ _ (by omega), oB _ (by omega)]
        refine And.intro (fun q4 => ?_) (fun q4 => ?_)
        · have q4 : nI 4 ≤ nI k := q4
          have q4 : 4 ≤ k := (nI_leI (by decide) (by omega)).mp q4
          obtain ⟨a1, a2⟩ := st1 hX (i := 66 + 7 * d + k) (by omega) 0
          refine ⟨⟨Nat.le_of_ble_eq_true rfl, Nat.le_of_ble_eq_true rfl, Nat.le_of_ble_eq_true rfl⟩, e_coming d k _ ⟨754, tTri, v0 _ (by omega), rfl, rfl, (104, [(4, .int (nI (k + 1))), (0, .ref 143), (1, .int (nI d)), (2, .long left)], (S.1, _), 7 - (k + 1)), rfl, ⟨Or.inr ⟨k + 1, _, hk7, ?_, fun x hx => (a2 x hx).trans (hc x hx), rfl⟩, show 7 - (k + 1) < 7 - k by omega⟩, rfl, congrArg (fun z => some (Value.int z)) (nI_1 k), rfl, rfl, rfl, trivial⟩⟩
          rw [a1, show min (k + 1) 4 = min k 4 by omega]
          exact segW_s _ (fun _ => 0) _ k
        · have q4 : ¬ nI 4 ≤ nI k := q4
          have q4 : k < 4 := Nat.lt_of_not_le fun z => q4 ((nI_leI (by decide) (by omega)).mpr z)
          rw [show min k 4 = k by omega] at hX
          obtain ⟨a1, a2⟩ := st1 hX (i := 750) (by decide) (X 143 (nI 750).toNatClampNeg + X 143 (nI (66 + 7 * d + k)).toNatClampNeg)
          rw [segW_u _ _ _ (by omega), u1L_2] at a1
          have e5 : X 143 (nI 750).toNatClampNeg + X 143 (nI (66 + 7 * d + k)).toNatClampNeg = w 750 + sumN (fun k => w (66 + 7 * d + k)) (k + 1) := by
            rw [rd1 hX (by decide), rd1 hX (by omega), r1, segW_o _ _ (by omega), u1L_s, sA k q4, Int64.add_assoc]
          rw [e5] at a1
          obtain ⟨b1, b2⟩ := st1 a1 (i := 66 + 7 * d + k) (by omega) 0
          refine ⟨754, tTri, v0 750 (by decide), ⟨Nat.le_of_ble_eq_true rfl, Nat.le_of_ble_eq_true rfl, Nat.le_of_ble_eq_true rfl⟩, e_coming d k _ ⟨754, tTri, v0 _ (by omega), 754, tTri, v0 750 (by decide), ⟨Nat.le_of_ble_eq_true rfl, Nat.le_of_ble_eq_true rfl, Nat.le_of_ble_eq_true rfl⟩, e_coming d k _ ⟨754, tTri, v0 _ (by omega), rfl, rfl, (104, [(4, .int (nI (k + 1))), (0, .ref 143), (1, .int (nI d)), (2, .long left)], (S.1, u2 (u2 X 143 (nI 750).toNatClampNeg (X 143 (nI 750).toNatClampNeg + X 143 (nI (66 + 7 * d + k)).toNatClampNeg)) 143 (nI (66 + 7 * d + k)).toNatClampNeg 0), 7 - (k + 1)), rfl, ⟨Or.inr ⟨k + 1, _, hk7, ?_, fun x hx => ?_, rfl⟩, show 7 - (k + 1) < 7 - k by omega⟩, rfl, congrArg (fun z => some (Value.int z)) (nI_1 k), rfl, rfl, rfl, trivial⟩⟩⟩
          · rw [e5, b1, show min (k + 1) 4 = k + 1 by omega]
            exact segW_s _ (fun _ => 0) _ k
          · rw [e5]; exact (b2 x hx).trans ((by rw [← e5]; exact a2 x hx : _ = X x).trans (hc x hx))
  · have e13 : S.2 143 (nI ((131 + 55 * d) + 13)).toNatClampNeg = left := by rw [rd1 hW (by omega)]; exact el
    have fin : ∀ v, v = (if left = 0 then 0 else w ((131 + 55 * d) + 14)) → u2 (u2 S.2 143 (nI (101 + 6 * d + 0)).toNatClampNeg left) 143 (nI (101 + 6 * d + 1)).toNatClampNeg v 143 = segW A (clK w d) (103 + 6 * d) 0 ∧ ∀ c, c ≠ 143 → u2 (u2 S.2 143 (nI (101 + 6 * d + 0)).toNatClampNeg left) 143 (nI (101 + 6 * d + 1)).toNatClampNeg v c = S.2 c := fun v hv => by
      obtain ⟨a1, a2⟩ := st1 hW (i := 101 + 6 * d + 0) (by omega) left
      obtain ⟨b1, b2⟩ := st1 a1 (i := 101 + 6 * d + 1) (by omega) v
      refine ⟨?_, fun c hc => (b2 c hc).trans (a2 c hc)⟩
      rw [b1, segW_0, ← eA, hv, show 101 + 6 * d + 1 = 102 + 6 * d by omega, show 101 + 6 * d + 0 = 101 + 6 * d from rfl]
    have f14 : u2 S.2 143 (nI (101 + 6 * d + 0)).toNatClampNeg left 143 (nI ((131 + 55 * d) + 14)).toNatClampNeg = w ((131 + 55 * d) + 14) := by
      obtain ⟨a1, a2⟩ := st1 hW (i := 101 + 6 * d + 0) (by omega) left
      rw [rd1 a1 (by omega), u1L_o _ _ (by omega)]
    refine ⟨⟨Nat.le_of_ble_eq_true rfl, Nat.le_of_ble_eq_true rfl, Nat.le_of_ble_eq_true rfl⟩, e_latest d 13 _ ⟨754, tTri, v0 _ (by omega), ⟨Nat.le_of_ble_eq_true rfl, Nat.le_of_ble_eq_true rfl, Nat.le_of_ble_eq_true rfl⟩, e_working d 0 _ ⟨754, tTri, v0 _ (by omega), ⟨Nat.le_of_ble_eq_true rfl, Nat.le_of_ble_eq_true rfl, Nat.le_of_ble_eq_true rfl⟩, e_working d 1 _ ?_⟩⟩⟩
    rw [e13]
    refine And.intro (fun q => ⟨⟨Nat.le_of_ble_eq_true rfl, Nat.le_of_ble_eq_true rfl, Nat.le_of_ble_eq_true rfl⟩, e_latest d 14 _ ⟨754, tTri, v0 _ (by omega), ?_⟩⟩) (fun q => ?_)
    · have q : ¬ left = 0 := fun z => q ((lg_cmp_eq _ _).mpr z)
      obtain ⟨b1, b2⟩ := fin _ (f14.trans (if_neg q).symm)
      exact ⟨754, tTri, v0 _ (by omega), rfl, rfl, (45, [(4, .int (nI 0)), (0, .ref 143), (1, .int (nI d)), (2, .long left)], (S.1, _), 4 - 0 + 10), rfl, Or.inl ⟨0, _, (by decide), b1, b2, rfl⟩, rfl, rfl, rfl, rfl, rfl, trivial⟩
    · have q : left = 0 := (lg_cmp_eq _ _).mp q
      obtain ⟨b1, b2⟩ := fin 0 (if_pos q).symm
      exact ⟨754, tTri, v0 _ (by omega), rfl, rfl, (45, [(4, .int (nI 0)), (0, .ref 143), (1, .int (nI d)), (2, .long left)], (S.1, _), 4 - 0 + 10), rfl, Or.inl ⟨0, _, (by decide), b1, b2, rfl⟩, rfl, rfl, rfl, rfl, rfl, trivial⟩
