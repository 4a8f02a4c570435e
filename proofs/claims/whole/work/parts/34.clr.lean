/-! ===== clear ===== -/
def isLotN (N k : Nat) : Prop := tyN N k = (0, 3, 0, 0) ∧ tyN N (k + 1) = (1, 4, 0, 0)
def isMonN (N q : Nat) : Prop := tyN N q = (0, 4, 0, 0) ∧ isLotN N (q + 1) ∧ isLotN N (q + 3) ∧ ∀ j, j < 7 → tyN N (q + 5 + j) = (1, 4, 0, 0)
def isDepN (N k : Nat) : Prop := tyN N k = (0, 0, 0, 0) ∧ tyN N (k + 1) = (1, 2, 0, 0) ∧ tyN N (k + 2) = (1, 4, 0, 0) ∧ isLotN N (k + 3) ∧ isMonN N (k + 5)
def isProN (N k : Nat) : Prop := tyN N k = (0, 6, 0, 0) ∧ tyN N (k + 1) = (1, 40, 0, 0) ∧ tyN N (k + 2) = (1, 40, 0, 0)
theorem dep138 : ∀ d, d < 5 → ∀ j, j < 17 → tyN 138 (4 + 17 * d + j) = tyD j := by decide
theorem pro138 : ∀ p, p < 4 → ∀ j, j < 3 → tyN 138 (89 + 3 * p + j) = tyP j := by decide
theorem tyN_mono {N M k t n o w : Nat} (h : tyN N k = (t, n, o, w)) (ht : t ≠ 99 ∨ 0 < n) (hNM : N ≤ M) : tyN M k = (t, n, o, w) := by
  obtain ⟨h1, h2⟩ := tyN_spec h ht
  unfold tyN
  rw [if_pos (by omega)]
  exact h2
theorem depN {N d : Nat} (hN : 138 ≤ N) (hd : d < 5) : isDepN N (4 + 17 * d) := by
  have key : ∀ j, j < 17 → ∀ t n o w, tyD j = (t, n, o, w) → (t ≠ 99 ∨ 0 < n) → tyN N (4 + 17 * d + j) = (t, n, o, w) := fun j hj t n o w h1 h2 => tyN_mono ((dep138 d hd j hj).trans h1) h2 hN
  refine ⟨key 0 (by decide) _ _ _ _ rfl (by decide), key 1 (by decide) _ _ _ _ rfl (by decide), key 2 (by decide) _ _ _ _ rfl (by decide), ⟨key 3 (by decide) _ _ _ _ rfl (by decide), key 4 (by decide) _ _ _ _ rfl (by decide)⟩, key 5 (by decide) _ _ _ _ rfl (by decide), ⟨key 6 (by decide) _ _ _ _ rfl (by decide), key 7 (by decide) _ _ _ _ rfl (by decide)⟩, ⟨key 8 (by decide) _ _ _ _ rfl (by decide), key 9 (by decide) _ _ _ _ rfl (by decide)⟩, fun j hj => ?_⟩
  have h1 : tyD (10 + j) = (1, 4, 0, 0) := by
    rcases (show j = 0 ∨ j = 1 ∨ j = 2 ∨ j = 3 ∨ j = 4 ∨ j = 5 ∨ j = 6 by omega) with rfl | rfl | rfl | rfl | rfl | rfl | rfl <;> rfl
  have := key (10 + j) (by omega) _ _ _ _ h1 (by decide)
  rw [show 4 + 17 * d + 5 + 5 + j = 4 + 17 * d + (10 + j) by omega]
  exact this
theorem proN {N p : Nat} (hN : 138 ≤ N) (hp : p < 4) : isProN N (89 + 3 * p) := by
  have key : ∀ j, j < 3 → ∀ t n o w, tyP j = (t, n, o, w) → (t ≠ 99 ∨ 0 < n) → tyN N (89 + 3 * p + j) = (t, n, o, w) := fun j hj t n o w h1 h2 => tyN_mono ((pro138 p hp j hj).trans h1) h2 hN
  exact ⟨key 0 (by decide) _ _ _ _ rfl (by decide), key 1 (by decide) _ _ _ _ rfl (by decide), key 2 (by decide) _ _ _ _ rfl (by decide)⟩
theorem e_lotClearN {N k : Nat} (hk : isLotN N k) (S : Mem) {Qr : QR} {Qx : QX} (h : Qr none (u2 (u2 S.1 k 0 0) k 1 0, zr S.2 (k + 1) 4)) : vsp N 3 (sX3_clear N) [.ref k] S Qr Qx :=
  ⟨hk.1, runG rfl 40 ⟨hk.1, hk.1, hk.1, ⟨Nat.le_of_ble_eq_true rfl, Nat.le_of_ble_eq_true rfl, Nat.le_of_ble_eq_true rfl⟩, e_clearAll hk.2 (by decide) (by decide) _ ⟨rfl, h⟩⟩⟩
/-- a month of nothing -/
def monZ (S S' : Mem) (q : Nat) : Prop :=
  (S'.1 (q + 1) 0 = 0 ∧ S'.1 (q + 1) 1 = 0 ∧ S'.1 (q + 3) 0 = 0 ∧ S'.1 (q + 3) 1 = 0) ∧ (∀ j, 3 ≤ j → j < 8 → S'.1 q j = 0) ∧ (∀ j, j < 4 → S'.2 (q + 2) j = 0) ∧ (∀ i, 4 ≤ i → i < 12 → ∀ j, j < 4 → S'.2 (q + i) j = 0) ∧ (∀ j, 14 ≤ j → j < 18 → S'.2 q j = 0) ∧ (∀ c, c < q ∨ q + 11 < c → S'.1 c = S.1 c) ∧ ∀ c, c < q ∨ q + 11 < c → S'.2 c = S.2 c
set_option maxHeartbeats 4000000 in
theorem e_monClear {N q : Nat} (hq : isMonN N q) (S : Mem) {Qr : QR} {Qx : QX} (h : ∀ S', monZ S S' q → Qr none S') : vsp N 4 (sX4_clear N) [.ref q] S Qr Qx := by
  obtain ⟨h0, h1, h2, h3⟩ := hq
  refine ⟨h0, runG rfl 120 ⟨h0, ⟨Nat.le_of_ble_eq_true rfl, Nat.le_of_ble_eq_true rfl, Nat.le_of_ble_eq_true rfl⟩, e_lotClearN h1 _ ⟨h0, ⟨Nat.le_of_ble_eq_true rfl, Nat.le_of_ble_eq_true rfl, Nat.le_of_ble_eq_true rfl⟩, e_lotClearN h2 _ ⟨h0, ⟨Nat.le_of_ble_eq_true rfl, Nat.le_of_ble_eq_true rfl, Nat.le_of_ble_eq_true rfl⟩, e_clearAll (h3 0 (by decide)) (by decide) (by decide) _ ⟨h0, h0, h0, h0, h0, ?_⟩⟩⟩⟩⟩
  refine ⟨h0, ⟨Nat.le_of_ble_eq_true rfl, Nat.le_of_ble_eq_true rfl, Nat.le_of_ble_eq_true rfl⟩, e_clearAll (h3 1 (by decide)) (by decide) (by decide) _ ⟨h0, ⟨Nat.le_of_ble_eq_true rfl, Nat.le_of_ble_eq_true rfl, Nat.le_of_ble_eq_true rfl⟩, e_clearAll (h3 2 (by decide)) (by decide) (by decide) _ ⟨h0, ⟨Nat.le_of_ble_eq_true rfl, Nat.le_of_ble_eq_true rfl, Nat.le_of_ble_eq_true rfl⟩, e_clearAll (h3 3 (by decide)) (by decide) (by decide) _ ⟨h0, ⟨Nat.le_of_ble_eq_true rfl, Nat.le_of_ble_eq_true rfl, Nat.le_of_ble_eq_true rfl⟩, e_clearAll (h3 4 (by decide)) (by decide) (by decide) _ ?_⟩⟩⟩⟩
  refine ⟨h0, ⟨Nat.le_of_ble_eq_true rfl, Nat.le_of_ble_eq_true rfl, Nat.le_of_ble_eq_true rfl⟩, e_clearAll (h3 5 (by decide)) (by decide) (by decide) _ ⟨h0, ⟨Nat.le_of_ble_eq_true rfl, Nat.le_of_ble_eq_true rfl, Nat.le_of_ble_eq_true rfl⟩, e_clearAll (h3 6 (by decide)) (by decide) (by decide) _ ⟨h0, h0, h0, h0, rfl, h _ ?_⟩⟩⟩
  refine ⟨⟨?_, ?_, ?_, ?_⟩, fun j h1 h2 => ?_, fun j hj => ?_, fun i h1 h2 j hj => ?_, fun j h1 h2 => ?_, fun c hc => ?_, fun c hc => ?_⟩
  · simp (disch := omega) only [↓u2_s, ↓u2_k, ↓u2_j, ↓tkr_k, ↓tkr_i, ↓zr_k, ↓zr_i, ↓cpr_k, ↓cpr_i]
  · simp (disch := omega) only [↓u2_s, ↓u2_k, ↓u2_j, ↓tkr_k, ↓tkr_i, ↓zr_k, ↓zr_i, ↓cpr_k, ↓cpr_i]
  · simp (disch := omega) only [↓u2_s, ↓u2_k, ↓u2_j, ↓tkr_k, ↓tkr_i, ↓zr_k, ↓zr_i, ↓cpr_k, ↓cpr_i]
  · simp (disch := omega) only [↓u2_s, ↓u2_k, ↓u2_j, ↓tkr_k, ↓tkr_i, ↓zr_k, ↓zr_i, ↓cpr_k, ↓cpr_i]
  · rcases (show j = 3 ∨ j = 4 ∨ j = 5 ∨ j = 6 ∨ j = 7 by omega) with rfl | rfl | rfl | rfl | rfl <;> simp (disch := omega) only [↓u2_s, ↓u2_k, ↓u2_j, ↓tkr_k, ↓tkr_i, ↓zr_k, ↓zr_i, ↓cpr_k, ↓cpr_i]
  · simp (disch := omega) only [↓u2_s, ↓u2_k, ↓u2_j, ↓tkr_k, ↓tkr_i, ↓zr_k, ↓zr_i, ↓cpr_k, ↓cpr_i]
  · rcases (show i = 4 ∨ i = 5 ∨ i = 6 ∨ i = 7 ∨ i = 8 ∨ i = 9 ∨ i = 10 ∨ i = 11 by omega) with rfl | rfl | rfl | rfl | rfl | rfl | rfl | rfl <;> simp (disch := omega) only [↓u2_s, ↓u2_k, ↓u2_j, ↓tkr_k, ↓tkr_i, ↓zr_k, ↓zr_i, ↓cpr_k, ↓cpr_i]
  · rcases (show j = 14 ∨ j = 15 ∨ j = 16 ∨ j = 17 by omega) with rfl | rfl | rfl | rfl <;> simp (disch := omega) only [↓u2_s, ↓u2_k, ↓u2_j, ↓tkr_k, ↓tkr_i, ↓zr_k, ↓zr_i, ↓cpr_k, ↓cpr_i]
  · funext j
    simp (disch := omega) only [↓u2_s, ↓u2_k, ↓u2_j, ↓tkr_k, ↓tkr_i, ↓zr_k, ↓zr_i, ↓cpr_k, ↓cpr_i]
  · funext j
    simp (disch := omega) only [↓u2_s, ↓u2_k, ↓u2_j, ↓tkr_k, ↓tkr_i, ↓zr_k, ↓zr_i, ↓cpr_k, ↓cpr_i]
/-- a department of nothing: average, point 100 -/
def depZ (S S' : Mem) (k : Nat) : Prop :=
  (S'.1 k 0 = 1 ∧ S'.1 k 1 = 100 ∧ S'.1 k 2 = 0 ∧ S'.1 k 3 = 0 ∧ S'.1 k 4 = 0 ∧ S'.1 k 6 = -1 ∧ S'.1 k 7 = -1 ∧ S'.1 k 8 = 0 ∧ S'.1 k 9 = 0 ∧ S'.1 k 10 = 0) ∧ (∀ j, j < 2 → S'.2 (k + 1) j = 0) ∧ (∀ j, j < 4 → S'.2 (k + 2) j = 0) ∧ (S'.1 (k + 3) 0 = 0 ∧ S'.1 (k + 3) 1 = 0 ∧ ∀ j, j < 4 → S'.2 (k + 4) j = 0) ∧ monZ S' S' (k + 5) ∧ (∀ c, c < k ∨ k + 16 < c → S'.1 c = S.1 c) ∧ ∀ c, c < k ∨ k + 16 < c → S'.2 c = S.2 c
theorem e_clearNext {N k : Nat} (hk : tyN N k = (0, 0, 0, 0)) (hk2 : tyN N (k + 2) = (1, 4, 0, 0)) (S : Mem) {Qr : QR} {Qx : QX} (h : Qr none (u2 (u2 (u2 S.1 k 8 0) k 9 0) k 10 0, zr S.2 (k + 2) 4)) : vsp N 0 (sX0_clearNext N) [.ref k] S Qr Qx :=
  ⟨hk, runG rfl 40 ⟨hk, hk, hk, hk, ⟨Nat.le_of_ble_eq_true rfl, Nat.le_of_ble_eq_true rfl, Nat.le_of_ble_eq_true rfl⟩, e_clearAll hk2 (by decide) (by decide) _ ⟨rfl, h⟩⟩⟩
set_option maxHeartbeats 4000000 in
theorem e_depClear {N k : Nat} (hk : isDepN N k) (S : Mem) {Qr : QR} {Qx : QX} (h : ∀ S', depZ S S' k → Qr none S') : vsp N 0 (sX0_clear N) [.ref k] S Qr Qx := by
  obtain ⟨h0, h1, h2, h3, h4⟩ := hk
  refine ⟨h0, runG rfl 120 ⟨h0, h0, h0, h0, h0, h0, ⟨Nat.le_of_ble_eq_true rfl, Nat.le_of_ble_eq_true rfl, Nat.le_of_ble_eq_true rfl⟩, e_clearAll h1 (by decide) (by decide) _ ⟨h0, h0, ⟨Nat.le_of_ble_eq_true rfl, Nat.le_of_ble_eq_true rfl, Nat.le_of_ble_eq_true rfl⟩, e_clearNext h0 h2 _ ⟨h0, ⟨Nat.le_of_ble_eq_true rfl, Nat.le_of_ble_eq_true rfl, Nat.le_of_ble_eq_true rfl⟩, e_lotClearN h3 _ ⟨h0, ⟨Nat.le_of_ble_eq_true rfl, Nat.le_of_ble_eq_true rfl, Nat.le_of_ble_eq_true rfl⟩, e_monClear h4 _ (fun S' Z => ⟨rfl, h _ ?_⟩)⟩⟩⟩⟩⟩
  obtain ⟨z1, z2, z3, z4, z5, z6, z7⟩ := Z
  refine ⟨⟨?_, ?_, ?_, ?_, ?_, ?_, ?_, ?_, ?_, ?_⟩, fun j hj => ?_, fun j hj => ?_, ⟨?_, ?_, fun j hj => ?_⟩, ⟨z1, z2, z3, z4, z5, fun _ _ => rfl, fun _ _ => rfl⟩, fun c hc => ?_, fun c hc => ?_⟩
  · rw [z6 _ (by omega)]; simp (disch := omega) only [↓u2_s, ↓u2_k, ↓u2_j, ↓tkr_k, ↓tkr_i, ↓zr_k, ↓zr_i, ↓cpr_k, ↓cpr_i]
  · rw [z6 _ (by omega)]; simp (disch := omega) only [↓u2_s, ↓u2_k, ↓u2_j, ↓tkr_k, ↓tkr_i, ↓zr_k, ↓zr_i, ↓cpr_k, ↓cpr_i]
  · rw [z6 _ (by omega)]; simp (disch := omega) only [↓u2_s, ↓u2_k, ↓u2_j, ↓tkr_k, ↓tkr_i, ↓zr_k, ↓zr_i, ↓cpr_k, ↓cpr_i]
  · rw [z6 _ (by omega)]; simp (disch := omega) only [↓u2_s, ↓u2_k, ↓u2_j, ↓tkr_k, ↓tkr_i, ↓zr_k, ↓zr_i, ↓cpr_k, ↓cpr_i]
  · rw [z6 _ (by omega)]; simp (disch := omega) only [↓u2_s, ↓u2_k, ↓u2_j, ↓tkr_k, ↓tkr_i, ↓zr_k, ↓zr_i, ↓cpr_k, ↓cpr_i]
  · rw [z6 _ (by omega)]; simp (disch := omega) only [↓u2_s, ↓u2_k, ↓u2_j, ↓tkr_k, ↓tkr_i, ↓zr_k, ↓zr_i, ↓cpr_k, ↓cpr_i]
  · rw [z6 _ (by omega)]; simp (disch := omega) only [↓u2_s, ↓u2_k, ↓u2_j, ↓tkr_k, ↓tkr_i, ↓zr_k, ↓zr_i, ↓cpr_k, ↓cpr_i]
  · rw [z6 _ (by omega)]; simp (disch := omega) only [↓u2_s, ↓u2_k, ↓u2_j, ↓tkr_k, ↓tkr_i, ↓zr_k, ↓zr_i, ↓cpr_k, ↓cpr_i]
  · rw [z6 _ (by omega)]; simp (disch := omega) only [↓u2_s, ↓u2_k, ↓u2_j, ↓tkr_k, ↓tkr_i, ↓zr_k, ↓zr_i, ↓cpr_k, ↓cpr_i]
  · rw [z6 _ (by omega)]; simp (disch := omega) only [↓u2_s, ↓u2_k, ↓u2_j, ↓tkr_k, ↓tkr_i, ↓zr_k, ↓zr_i, ↓cpr_k, ↓cpr_i]
  · rw [z7 _ (by omega)]; simp (disch := omega) only [↓u2_s, ↓u2_k, ↓u2_j, ↓tkr_k, ↓tkr_i, ↓zr_k, ↓zr_i, ↓cpr_k, ↓cpr_i]
  · rw [z7 _ (by omega)]; simp (disch := omega) only [↓u2_s, ↓u2_k, ↓u2_j, ↓tkr_k, ↓tkr_i, ↓zr_k, ↓zr_i, ↓cpr_k, ↓cpr_i]
  · rw [z6 _ (by omega)]; simp (disch := omega) only [↓u2_s, ↓u2_k, ↓u2_j, ↓tkr_k, ↓tkr_i, ↓zr_k, ↓zr_i, ↓cpr_k, ↓cpr_i]
  · rw [z6 _ (by omega)]; simp (disch := omega) only [↓u2_s, ↓u2_k, ↓u2_j, ↓tkr_k, ↓tkr_i, ↓zr_k, ↓zr_i, ↓cpr_k, ↓cpr_i]
  · rw [z7 _ (by omega)]; simp (disch := omega) only [↓u2_s, ↓u2_k, ↓u2_j, ↓tkr_k, ↓tkr_i, ↓zr_k, ↓zr_i, ↓cpr_k, ↓cpr_i]
  · rw [z6 _ (by omega)]
    funext j
    simp (disch := omega) only [↓u2_s, ↓u2_k, ↓u2_j, ↓tkr_k, ↓tkr_i, ↓zr_k, ↓zr_i, ↓cpr_k, ↓cpr_i]
  · rw [z7 _ (by omega)]
    funext j
    simp (disch := omega) only [↓u2_s, ↓u2_k, ↓u2_j, ↓tkr_k, ↓tkr_i, ↓zr_k, ↓zr_i, ↓cpr_k, ↓cpr_i]
/-- a product of nothing -/
def proZ (S S' : Mem) (k : Nat) : Prop := (∀ j, j < 5 → S'.1 k j = 0) ∧ S'.1 k 7 = 0 ∧ S'.2 k 5 = 0 ∧ S'.2 k 6 = 0 ∧ (∀ j, j < 40 → S'.2 (k + 1) j = 0 ∧ S'.2 (k + 2) j = 0) ∧ (∀ c, c ≠ k → S'.1 c = S.1 c) ∧ ∀ c, c < k ∨ k + 2 < c → S'.2 c = S.2 c
set_option maxHeartbeats 4000000 in
theorem e_proClear {N k : Nat} (hk : isProN N k) (S : Mem) {Qr : QR} {Qx : QX} (h : ∀ S', proZ S S' k → Qr none S') : vsp N 6 (sX6_clear N) [.ref k] S Qr Qx := by
  obtain ⟨h0, h1, h2⟩ := hk
  refine ⟨h0, runG rfl 120 ⟨h0, h0, h0, h0, h0, h0, h0, h0, h0, ⟨Nat.le_of_ble_eq_true rfl, Nat.le_of_ble_eq_true rfl, Nat.le_of_ble_eq_true rfl⟩, e_clearAll h1 (by decide) (by decide) _ ⟨h0, ⟨Nat.le_of_ble_eq_true rfl, Nat.le_of_ble_eq_true rfl, Nat.le_of_ble_eq_true rfl⟩, e_clearAll h2 (by decide) (by decide) _ ⟨rfl, h _ ?_⟩⟩⟩⟩
  refine ⟨fun j hj => ?_, ?_, ?_, ?_, fun j hj => ⟨?_, ?_⟩, fun c hc => ?_, fun c hc => ?_⟩
  · rcases (show j = 0 ∨ j = 1 ∨ j = 2 ∨ j = 3 ∨ j = 4 by omega) with rfl | rfl | rfl | rfl | rfl <;> simp (disch := omega) only [↓u2_s, ↓u2_k, ↓u2_j, ↓tkr_k, ↓tkr_i, ↓zr_k, ↓zr_i, ↓cpr_k, ↓cpr_i]
  · simp (disch := omega) only [↓u2_s, ↓u2_k, ↓u2_j, ↓tkr_k, ↓tkr_i, ↓zr_k, ↓zr_i, ↓cpr_k, ↓cpr_i]
  · simp (disch := omega) only [↓u2_s, ↓u2_k, ↓u2_j, ↓tkr_k, ↓tkr_i, ↓zr_k, ↓zr_i, ↓cpr_k, ↓cpr_i]
  · simp (disch := omega) only [↓u2_s, ↓u2_k, ↓u2_j, ↓tkr_k, ↓tkr_i, ↓zr_k, ↓zr_i, ↓cpr_k, ↓cpr_i]
  · simp (disch := omega) only [↓u2_s, ↓u2_k, ↓u2_j, ↓tkr_k, ↓tkr_i, ↓zr_k, ↓zr_i, ↓cpr_k, ↓cpr_i]
  · simp (disch := omega) only [↓u2_s, ↓u2_k, ↓u2_j, ↓tkr_k, ↓tkr_i, ↓zr_k, ↓zr_i, ↓cpr_k, ↓cpr_i]
  · funext j
    simp (disch := omega) only [↓u2_s, ↓u2_k, ↓u2_j, ↓tkr_k, ↓tkr_i, ↓zr_k, ↓zr_i, ↓cpr_k, ↓cpr_i]
  · funext j
    simp (disch := omega) only [↓u2_s, ↓u2_k, ↓u2_j, ↓tkr_k, ↓tkr_i, ↓zr_k, ↓zr_i, ↓cpr_k, ↓cpr_i]
