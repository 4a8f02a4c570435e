/-! ===== shareKind ===== -/
def plC (S : Mem) (q i : Nat) (way : Int32) : Int64 := if way = 0 then S.2 (q + 5) i else S.2 (q + 5) i + S.2 (q + 2) i
def alC (S : Mem) (q i : Nat) : Int64 := S.2 (q + 6) i + S.2 (q + 7) i + S.2 (q + 8) i
def rsC (S : Mem) (q i : Nat) (way : Int32) : Int64 := cut (plC S q i way) (S.2 (q + 7) i) (alC S q i)
def lsC (S : Mem) (q i : Nat) (way : Int32) : Int64 := cut (plC S q i way) (S.2 (q + 8) i) (alC S q i)
def fnC (S : Mem) (q i : Nat) (way : Int32) : Int64 := if way = 0 then plC S q i way - rsC S q i way - lsC S q i way + S.2 (q + 2) i else plC S q i way - rsC S q i way - lsC S q i way
def shrF (X Y4 : Nat → Nat → Int64) (q i : Nat) (p : Int64) : Prop := Y4 (q + 9) i = p ∧ Y4 (q + 4) i = cut p (X (q + 7) i) (X (q + 6) i + X (q + 7) i + X (q + 8) i) ∧ Y4 (q + 11) i = cut p (X (q + 8) i) (X (q + 6) i + X (q + 7) i + X (q + 8) i) ∧ Y4 (q + 10) i = p - cut p (X (q + 7) i) (X (q + 6) i + X (q + 7) i + X (q + 8) i) - cut p (X (q + 8) i) (X (q + 6) i + X (q + 7) i + X (q + 8) i) ∧ (∀ c, c ≠ q + 4 → c < q + 9 ∨ q + 11 < c → Y4 c = X c) ∧ ∀ c j, j ≠ i → Y4 c j = X c j
/-- the five stores of a kind's shares -/
theorem shrY (X : Nat → Nat → Int64) (q i : Nat) (p : Int64) : ∀ Y1, Y1 = u2 X (q + 9) i p → ∀ Y2, Y2 = u2 Y1 (q + 4) i (cut (Y1 (q + 9) i) (Y1 (q + 7) i) (Y1 (q + 6) i + Y1 (q + 7) i + Y1 (q + 8) i)) → ∀ Y3, Y3 = u2 Y2 (q + 11) i (cut (Y2 (q + 9) i) (Y2 (q + 8) i) (Y2 (q + 6) i + Y2 (q + 7) i + Y2 (q + 8) i)) → ∀ Y4, Y4 = u2 Y3 (q + 10) i (Y3 (q + 9) i - Y3 (q + 4) i - Y3 (q + 11) i) → shrF X Y4 q i p := by
  intro Y1 e1 Y2 e2 Y3 e3 Y4 e4
  have a9 : Y1 (q + 9) i = p := by rw [e1, u2_s]
  have a6 : Y1 (q + 6) i = X (q + 6) i := by rw [e1, u2_k _ _ _ _ (by omega)]
  have a7 : Y1 (q + 7) i = X (q + 7) i := by rw [e1, u2_k _ _ _ _ (by omega)]
  have a8 : Y1 (q + 8) i = X (q + 8) i := by rw [e1, u2_k _ _ _ _ (by omega)]
  rw [a9, a6, a7, a8] at e2
  have b9 : Y2 (q + 9) i = p := by rw [e2, u2_k _ _ _ _ (by omega), a9]
  have b6 : Y2 (q + 6) i = X (q + 6) i := by rw [e2, u2_k _ _ _ _ (by omega), a6]
  have b7 : Y2 (q + 7) i = X (q + 7) i := by rw [e2, u2_k _ _ _ _ (by omega), a7]
  have b8 : Y2 (q + 8) i = X (q + 8) i := by rw [e2, u2_k _ _ _ _ (by omega), a8]
  rw [b9, b6, b7, b8] at e3
  have c9 : Y3 (q + 9) i = p := by rw [e3, u2_k _ _ _ _ (by omega), b9]
  have c4 : Y3 (q + 4) i = cut p (X (q + 7) i) (X (q + 6) i + X (q + 7) i + X (q + 8) i) := by rw [e3, u2_k _ _ _ _ (by omega), e2, u2_s]
  have c11 : Y3 (q + 11) i = cut p (X (q + 8) i) (X (q + 6) i + X (q + 7) i + X (q + 8) i) := by rw [e3, u2_s]
  rw [c9, c4, c11] at e4
  refine ⟨?_, ?_, ?_, ?_, fun c h1 h2 => ?_, fun c j hj => ?_⟩
  · rw [e4, u2_k _ _ _ _ (by omega), c9]
  · rw [e4, u2_k _ _ _ _ (by omega), c4]
  · rw [e4, u2_k _ _ _ _ (by omega), c11]
  · rw [e4, u2_s]
  · rw [e4, u2_other _ _ _ (by omega), e3, u2_other _ _ _ (by omega), e2, u2_other _ _ _ (by omega), e1, u2_other _ _ _ (by omega)]
  · rw [e4, u2_jj _ _ _ _ _ hj, e3, u2_jj _ _ _ _ _ hj, e2, u2_jj _ _ _ _ _ hj, e1, u2_jj _ _ _ _ _ hj]
theorem e_allDone' {q i : Nat} (hq : isMon q) (hi : i < 4) (S : Mem) {Qr : QR} {Qx : QX} (h : Qr (some (.long (S.2 (q + 6) (nI i).toNatClampNeg + S.2 (q + 7) (nI i).toNatClampNeg + S.2 (q + 8) (nI i).toNatClampNeg))) S) : vsp 156 4 (sX4_allDone 156) [.ref q, .int (nI i)] S Qr Qx := by
  rw [nI_clamp (by omega)] at h
  exact e_allDone hq hi S h
set_option maxHeartbeats 2000000 in
theorem e_shareKind {q i : Nat} (hq : isMon q) (hi : i < 4) (way : Int32) (S : Mem) {Qr : QR} {Qx : QX} (h : ∀ S' : Mem, S'.1 = S.1 → S'.2 (q + 9) i = plC S q i way → S'.2 (q + 4) i = rsC S q i way → S'.2 (q + 11) i = lsC S q i way → S'.2 (q + 10) i = fnC S q i way → (∀ c, c ≠ q + 4 → c < q + 9 ∨ q + 11 < c → S'.2 c = S.2 c) → (∀ c j, j ≠ i → S'.2 c j = S.2 c j) → Qr none S') : vsp 156 4 (sX4_shareKind 156) [.ref q, .int way, .int (nI i)] S Qr Qx := by
  have hq' := hq
  obtain ⟨h0, h1, h2, h3⟩ := hq
  have hc : (nI i).toNatClampNeg = i := nI_clamp (by omega)
  have k1 : ¬ way = 0 → ∀ Y, shrF S.2 Y q i (S.2 (q + 5) i + S.2 (q + 2) i) → Qr none (S.1, Y) := by
    intro hw Y this
    refine h (S.1, Y) rfl ?_ ?_ ?_ ?_ this.2.2.2.2.1 this.2.2.2.2.2
    · rw [plC, if_neg hw]; exact this.1
    · rw [rsC, plC, if_neg hw]; exact this.2.1
    · rw [lsC, plC, if_neg hw]; exact this.2.2.1
    · rw [fnC, rsC, lsC, plC, if_neg hw, if_neg hw]; exact this.2.2.2.1
  have k2 : way = 0 → ∀ Y, shrF S.2 Y q i (S.2 (q + 5) i) → Qr none (S.1, u2 Y (q + 10) i (Y (q + 10) i + S.2 (q + 2) i)) := by
    intro hw Y this
    refine h (S.1, u2 Y (q + 10) i (Y (q + 10) i + S.2 (q + 2) i)) rfl ((u2_k _ _ _ _ (by omega)).trans ?_) ((u2_k _ _ _ _ (by omega)).trans ?_) ((u2_k _ _ _ _ (by omega)).trans ?_) ((u2_s _ _ _ _).trans ?_) (fun c x y => (u2_other _ _ _ (by omega)).trans (this.2.2.2.2.1 c x y)) (fun c j hj => (u2_jj _ _ _ _ _ hj).trans (this.2.2.2.2.2 c j hj))
    · rw [plC, if_pos hw]; exact this.1
    · rw [rsC, plC, if_pos hw]; exact this.2.1
    · rw [lsC, plC, if_pos hw]; exact this.2.2.1
    · rw [fnC, rsC, lsC, plC, if_pos hw, if_pos hw]; exact congrArg (· + S.2 (q + 2) i) this.2.2.2.1
  rw [← hc] at k1 k2
  clear h
  refine ⟨h0, runG rfl 160 ⟨h0, h1.1, 4, h1.2, vp_nI hi, h0, And.intro (fun hw => ?_) (fun hw => ?_)⟩⟩
  · refine ⟨h0, 4, h3 0 (by decide), vp_nI hi, 4, h3 4 (by decide), vp_nI hi, h0, h2.1, h0, 4, h3 4 (by decide), vp_nI hi, h0, 4, h3 2 (by decide), vp_nI hi, ⟨Nat.le_of_ble_eq_true rfl, Nat.le_of_ble_eq_true rfl, Nat.le_of_ble_eq_true rfl⟩, e_allDone' hq' hi _ ⟨⟨Nat.le_of_ble_eq_true rfl, Nat.le_of_ble_eq_true rfl, Nat.le_of_ble_eq_true rfl⟩, e_partOf _ _ _ _ ⟨4, h2.2, vp_nI hi, ?_⟩⟩⟩
    refine ⟨h0, h0, 4, h3 4 (by decide), vp_nI hi, h0, 4, h3 3 (by decide), vp_nI hi, ⟨Nat.le_of_ble_eq_true rfl, Nat.le_of_ble_eq_true rfl, Nat.le_of_ble_eq_true rfl⟩, e_allDone' hq' hi _ ⟨⟨Nat.le_of_ble_eq_true rfl, Nat.le_of_ble_eq_true rfl, Nat.le_of_ble_eq_true rfl⟩, e_partOf _ _ _ _ ⟨4, h3 6 (by decide), vp_nI hi, ?_⟩⟩⟩
    refine ⟨h0, h0, 4, h3 4 (by decide), vp_nI hi, h0, h2.1, 4, h2.2, vp_nI hi, h0, 4, h3 6 (by decide), vp_nI hi, 4, h3 5 (by decide), vp_nI hi, And.intro (fun _ => ⟨rfl, ?_⟩) (fun x => absurd x hw)⟩
    exact k1 hw _ (shrY S.2 q _ _ _ rfl _ rfl _ rfl _ rfl)
  · refine ⟨h0, 4, h3 0 (by decide), vp_nI hi, 4, h3 4 (by decide), vp_nI hi, h0, h2.1, h0, 4, h3 4 (by decide), vp_nI hi, h0, 4, h3 2 (by decide), vp_nI hi, ⟨Nat.le_of_ble_eq_true rfl, Nat.le_of_ble_eq_true rfl, Nat.le_of_ble_eq_true rfl⟩, e_allDone' hq' hi _ ⟨⟨Nat.le_of_ble_eq_true rfl, Nat.le_of_ble_eq_true rfl, Nat.le_of_ble_eq_true rfl⟩, e_partOf _ _ _ _ ⟨4, h2.2, vp_nI hi, ?_⟩⟩⟩
    refine ⟨h0, h0, 4, h3 4 (by decide), vp_nI hi, h0, 4, h3 3 (by decide), vp_nI hi, ⟨Nat.le_of_ble_eq_true rfl, Nat.le_of_ble_eq_true rfl, Nat.le_of_ble_eq_true rfl⟩, e_allDone' hq' hi _ ⟨⟨Nat.le_of_ble_eq_true rfl, Nat.le_of_ble_eq_true rfl, Nat.le_of_ble_eq_true rfl⟩, e_partOf _ _ _ _ ⟨4, h3 6 (by decide), vp_nI hi, ?_⟩⟩⟩
    refine ⟨h0, h0, 4, h3 4 (by decide), vp_nI hi, h0, h2.1, 4, h2.2, vp_nI hi, h0, 4, h3 6 (by decide), vp_nI hi, 4, h3 5 (by decide), vp_nI hi, And.intro (fun x => absurd hw x) (fun _ => ⟨h0, 4, h3 5 (by decide), vp_nI hi, 4, h3 5 (by decide), vp_nI hi, rfl, ?_⟩)⟩
    exact k2 hw _ (shrY S.2 q _ _ _ rfl _ rfl _ rfl _ rfl)
