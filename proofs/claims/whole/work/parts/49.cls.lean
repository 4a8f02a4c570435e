/-! ===== a department's month ===== -/
/-- the month of k is given what is told -/
def preC (S P : Mem) (k : Nat) (rc : Int32) (ct : Int64) : Prop := (P.1 (k + 6) 0 = S.1 (k + 3) 0 ∧ P.1 (k + 6) 1 = S.1 (k + 3) 1 ∧ P.1 (k + 5) 3 = rc ∧ P.1 (k + 5) 4 = S.1 k 8 ∧ P.1 (k + 8) 0 = S.1 k 9 ∧ P.1 (k + 8) 1 = (if S.1 k 9 = 0 then 0 else S.1 k 10)) ∧ (∀ j, j < 4 → P.2 (k + 7) j = S.2 (k + 4) j) ∧ P.2 (k + 10) 0 = ct ∧ (∀ j, 1 ≤ j → j < 4 → P.2 (k + 10) j = S.2 (k + 2) j) ∧ (∀ c, c < k + 5 ∨ k + 8 < c → P.1 c = S.1 c) ∧ ∀ c, c < k + 7 ∨ k + 10 < c → P.2 c = S.2 c
/-- what is left is in work, nothing is told for the next month -/
def cloC (R S' : Mem) (k : Nat) : Prop := (S'.1 (k + 3) 0 = R.1 (k + 8) 0 ∧ S'.1 (k + 3) 1 = R.1 (k + 8) 1 ∧ S'.1 k 8 = 0 ∧ S'.1 k 9 = 0 ∧ S'.1 k 10 = 0) ∧ (∀ j, j < 3 → S'.2 (k + 4) j = R.2 (k + 9) j) ∧ S'.2 (k + 4) 3 = R.2 (k + 9) 3 + R.2 (k + 5) 15 ∧ (∀ j, j < 4 → S'.2 (k + 2) j = 0) ∧ (∀ j, j < 8 ∨ 10 < j → S'.1 k j = R.1 k j) ∧ (∀ c, c ≠ k → c ≠ k + 3 → S'.1 c = R.1 c) ∧ ∀ c, c ≠ k + 2 → c ≠ k + 4 → S'.2 c = R.2 c
theorem preY (S : Mem) (k : Nat) (rc : Int32) (ct : Int64) (v : Int32) (hv : v = if S.1 k 9 = 0 then 0 else S.1 k 10) : ∀ I0, I0 = u2 (u2 S.1 (k + 6) 0 (S.1 (k + 3) 0)) (k + 6) 1 (S.1 (k + 3) 1) → ∀ I1, I1 = u2 I0 (k + 5) 3 rc → ∀ I2, I2 = u2 I1 (k + 5) 4 (I1 k 8) → ∀ I3, I3 = u2 I2 (k + 8) 0 (I2 k 9) → preC S (u2 I3 (k + 8) 1 v, u2 (cpr (cpr S.2 (k + 4) (k + 7) 4) (k + 2) (k + 10) 4) (k + 10) 0 ct) k rc ct := by
  intro I0 e0 I1 e1 I2 e2 I3 e3
  have a0 : ∀ c, c ≠ k + 6 → I0 c = S.1 c := fun c hc => by rw [e0, u2_other _ _ _ hc, u2_other _ _ _ hc]
  have a1 : ∀ c, c ≠ k + 6 → c ≠ k + 5 → I1 c = S.1 c := fun c hc hd => by rw [e1, u2_other _ _ _ hd, a0 c hc]
  rw [a1 k (by omega) (by omega)] at e2
  have a2 : ∀ c, c ≠ k + 6 → c ≠ k + 5 → I2 c = S.1 c := fun c hc hd => by rw [e2, u2_other _ _ _ hd, a1 c hc hd]
  rw [a2 k (by omega) (by omega)] at e3
  refine ⟨⟨?_, ?_, ?_, ?_, ?_, ?_⟩, fun j hj => ?_, ?_, fun j x y => ?_, fun c hc => ?_, fun c hc => ?_⟩
  · show u2 I3 (k + 8) 1 v (k + 6) 0 = _
    rw [e3, e2, e1, e0]; simp (disch := omega) only [↓u2_s, ↓u2_k, ↓u2_j, ↓tkr_k, ↓tkr_i, ↓zr_k, ↓zr_i, ↓cpr_k, ↓cpr_i]
  · show u2 I3 (k + 8) 1 v (k + 6) 1 = _
    rw [e3, e2, e1, e0]; simp (disch := omega) only [↓u2_s, ↓u2_k, ↓u2_j, ↓tkr_k, ↓tkr_i, ↓zr_k, ↓zr_i, ↓cpr_k, ↓cpr_i]
  · show u2 I3 (k + 8) 1 v (k + 5) 3 = _
    rw [e3, e2, e1]; simp (disch := omega) only [↓u2_s, ↓u2_k, ↓u2_j, ↓tkr_k, ↓tkr_i, ↓zr_k, ↓zr_i, ↓cpr_k, ↓cpr_i]
  · show u2 I3 (k + 8) 1 v (k + 5) 4 = _
    rw [e3, e2]; simp (disch := omega) only [↓u2_s, ↓u2_k, ↓u2_j, ↓tkr_k, ↓tkr_i, ↓zr_k, ↓zr_i, ↓cpr_k, ↓cpr_i]
  · show u2 I3 (k + 8) 1 v (k + 8) 0 = _
    rw [e3]; simp (disch := omega) only [↓u2_s, ↓u2_k, ↓u2_j, ↓tkr_k, ↓tkr_i, ↓zr_k, ↓zr_i, ↓cpr_k, ↓cpr_i]
  · exact (u2_s _ _ _ _).trans hv
  · simp (disch := omega) only [↓u2_s, ↓u2_k, ↓u2_j, ↓tkr_k, ↓tkr_i, ↓zr_k, ↓zr_i, ↓cpr_k, ↓cpr_i]
  · simp (disch := omega) only [↓u2_s, ↓u2_k, ↓u2_j, ↓tkr_k, ↓tkr_i, ↓zr_k, ↓zr_i, ↓cpr_k, ↓cpr_i]
  · simp (disch := omega) only [↓u2_s, ↓u2_k, ↓u2_j, ↓tkr_k, ↓tkr_i, ↓zr_k, ↓zr_i, ↓cpr_k, ↓cpr_i]
  · exact (u2_other _ _ _ (by omega)).trans (by rw [e3, u2_other _ _ _ (by omega), a2 c (by omega) (by omega)])
  · funext j; simp (disch := omega) only [↓u2_s, ↓u2_k, ↓u2_j, ↓tkr_k, ↓tkr_i, ↓zr_k, ↓zr_i, ↓cpr_k, ↓cpr_i]
set_option maxHeartbeats 4000000 in
theorem e_depClose {k : Nat} (hk : isDepN 156 k) (rc : Int32) (ct : Int64) (S : Mem) {Qr : QR} {Qx : QX} (kF : ∀ P w, preC S P k rc ct → w = S.1 k 0 → ¬ canC P (k + 5) w → Qr (some (.int 0)) (u2 P.1 (k + 5) 5 (fiC P (k + 5)), P.2))
    (kT : ∀ P w R S', preC S P k rc ct → w = S.1 k 0 → canC P (k + 5) w → recR R (k + 5) k w → (∀ c, c ≠ k + 5 → R.1 c = P.1 c) → (∀ j, j < 5 ∨ 7 < j → R.1 (k + 5) j = P.1 (k + 5) j) → (∀ c, c < k + 5 ∨ (k + 5 < c ∧ c < k + 5 + 4) ∨ c = k + 5 + 5 ∨ k + 5 + 11 < c → R.2 c = P.2 c) → cloC R S' k → Qr (some (.int 1)) S') : vsp 156 0 (sX0_closeMonth 156) [.ref k, .int rc, .long ct] S Qr Qx := by
  have hk' := hk
  obtain ⟨h0, h1, h2, h3, h4⟩ := hk
  have hm : isMon (k + 5) := h4
  obtain ⟨q0, q1, q2, q3⟩ := h4
  have fin : ∀ R : Mem, cloC R (u2 (u2 (u2 (u2 (u2 R.1 (k + 3) 0 (R.1 (k + 8) 0)) (k + 3) 1 (R.1 (k + 8) 1)) k 8 0) k 9 0) k 10 0, zr (u2 (cpr R.2 (k + 9) (k + 4) 4) (k + 4) 3 (cpr R.2 (k + 9) (k + 4) 4 (k + 4) 3 + cpr R.2 (k + 9) (k + 4) 4 (k + 5) 15)) (k + 2) 4) k := by
    intro R
    refine ⟨⟨?_, ?_, ?_, ?_, ?_⟩, fun j hj => ?_, ?_, fun j hj => ?_, fun j hj => ?_, fun c x y => ?_, fun c x y => ?_⟩
    · simp (disch := omega) only [↓u2_s, ↓u2_k, ↓u2_j, ↓tkr_k, ↓tkr_i, ↓zr_k, ↓zr_i, ↓cpr_k, ↓cpr_i]
    · simp (disch := omega) only [↓u2_s, ↓u2_k, ↓u2_j, ↓tkr_k, ↓tkr_i, ↓zr_k, ↓zr_i, ↓cpr_k, ↓cpr_i]
    · simp (disch := omega) only [↓u2_s, ↓u2_k, ↓u2_j, ↓tkr_k, ↓tkr_i, ↓zr_k, ↓zr_i, ↓cpr_k, ↓cpr_i]
    · simp (disch := omega) only [↓u2_s, ↓u2_k, ↓u2_j, ↓tkr_k, ↓tkr_i, ↓zr_k, ↓zr_i, ↓cpr_k, ↓cpr_i]
    · simp (disch := omega) only [↓u2_s, ↓u2_k, ↓u2_j, ↓tkr_k, ↓tkr_i, ↓zr_k, ↓zr_i, ↓cpr_k, ↓cpr_i]
    · simp (disch := omega) only [↓u2_s, ↓u2_k, ↓u2_j, ↓tkr_k, ↓tkr_i, ↓zr_k, ↓zr_i, ↓cpr_k, ↓cpr_i]
    · simp (disch := omega) only [↓u2_s, ↓u2_k, ↓u2_j, ↓tkr_k, ↓tkr_i, ↓zr_k, ↓zr_i, ↓cpr_k, ↓cpr_i]
    · simp (disch := omega) only [↓u2_s, ↓u2_k, ↓u2_j, ↓tkr_k, ↓tkr_i, ↓zr_k, ↓zr_i, ↓cpr_k, ↓cpr_i]
    · simp (disch := omega) only [↓u2_s, ↓u2_k, ↓u2_j, ↓tkr_k, ↓tkr_i, ↓zr_k, ↓zr_i, ↓cpr_k, ↓cpr_i]
    · funext j; simp (disch := omega) only [↓u2_s, ↓u2_k, ↓u2_j, ↓tkr_k, ↓tkr_i, ↓zr_k, ↓zr_i, ↓cpr_k, ↓cpr_i]
    · funext j; simp (disch := omega) only [↓u2_s, ↓u2_k, ↓u2_j, ↓tkr_k, ↓tkr_i, ↓zr_k, ↓zr_i, ↓cpr_k, ↓cpr_i]
  refine ⟨h0, runG rfl 160 ⟨h0, q0, h0, ⟨Nat.le_of_ble_eq_true rfl, Nat.le_of_ble_eq_true rfl, Nat.le_of_ble_eq_true rfl⟩, e_lotCopy q1 h3 (by omega) _ ⟨h0, h0, q0, ⟨Nat.le_of_ble_eq_true rfl, Nat.le_of_ble_eq_true rfl, Nat.le_of_ble_eq_true rfl⟩, e_copyAll h2 (q3 0 (by decide)) (by omega) (by decide) (by decide) _ ⟨h0, q0, 4, q3 0 (by decide), vp_nI (n := 0) (by decide), h0, q0, h0, h0, q0, h0, q0, h0, q2.1, h0, q0, h0, And.intro (fun a1 => ?_) (fun a1 => ?_)⟩⟩⟩⟩
  · have a1' : ¬ S.1 k 9 = 0 := fun x => a1 (by rw [← x]; simp (disch := omega) only [↓u2_s, ↓u2_k, ↓u2_j, ↓tkr_k, ↓tkr_i, ↓zr_k, ↓zr_i, ↓cpr_k, ↓cpr_i])
    exact ⟨h0, q2.1, h0, h0, ⟨Nat.le_of_ble_eq_true rfl, Nat.le_of_ble_eq_true rfl, Nat.le_of_ble_eq_true rfl⟩, e_reckon hm hk' (by omega) _ _ (fun nc => And.intro (fun x => absurd rfl x) (fun _ => ⟨Or.inl rfl, kF _ _ (preY S k rc ct _ (by rw [if_neg a1']; simp (disch := omega) only [↓u2_s, ↓u2_k, ↓u2_j, ↓tkr_k, ↓tkr_i, ↓zr_k, ↓zr_i, ↓cpr_k, ↓cpr_i]) _ rfl _ rfl _ rfl _ rfl) (by simp (disch := omega) only [↓u2_s, ↓u2_k, ↓u2_j, ↓tkr_k, ↓tkr_i, ↓zr_k, ↓zr_i, ↓cpr_k, ↓cpr_i]) nc⟩)) (fun ca R r1 r2 r3 r4 => And.intro (fun _ => ⟨h0, h0, q0, ⟨Nat.le_of_ble_eq_true rfl, Nat.le_of_ble_eq_true rfl, Nat.le_of_ble_eq_true rfl⟩, e_lotCopy h3 q2 (by omega) _ ⟨h0, h3.1, 4, h3.2, vp_nI (n := 3) (by decide), h0, q0, 4, h3.2, vp_nI (n := 3) (by decide), ⟨Nat.le_of_ble_eq_true rfl, Nat.le_of_ble_eq_true rfl, Nat.le_of_ble_eq_true rfl⟩, e_clearNext h0 h2 _ ⟨Or.inr rfl, kT _ _ R _ (preY S k rc ct _ (by rw [if_neg a1']; simp (disch := omega) only [↓u2_s, ↓u2_k, ↓u2_j, ↓tkr_k, ↓tkr_i, ↓zr_k, ↓zr_i, ↓cpr_k, ↓cpr_i]) _ rfl _ rfl _ rfl _ rfl) (by simp (disch := omega) only [↓u2_s, ↓u2_k, ↓u2_j, ↓tkr_k, ↓tkr_i, ↓zr_k, ↓zr_i, ↓cpr_k, ↓cpr_i]) ca r1 r2 r3 r4 (fin R)⟩⟩⟩) (fun x => absurd x (by decide)))⟩
  · have a1' : S.1 k 9 = 0 := by
      rw [← a1]; simp (disch := omega) only [↓u2_s, ↓u2_k, ↓u2_j, ↓tkr_k, ↓tkr_i, ↓zr_k, ↓zr_i, ↓cpr_k, ↓cpr_i]
    exact ⟨q2.1, h0, h0, ⟨Nat.le_of_ble_eq_true rfl, Nat.le_of_ble_eq_true rfl, Nat.le_of_ble_eq_true rfl⟩, e_reckon hm hk' (by omega) _ _ (fun nc => And.intro (fun x => absurd rfl x) (fun _ => ⟨Or.inl rfl, kF _ _ (preY S k rc ct _ ((if_pos a1').symm) _ rfl _ rfl _ rfl _ rfl) (by simp (disch := omega) only [↓u2_s, ↓u2_k, ↓u2_j, ↓tkr_k, ↓tkr_i, ↓zr_k, ↓zr_i, ↓cpr_k, ↓cpr_i]) nc⟩)) (fun ca R r1 r2 r3 r4 => And.intro (fun _ => ⟨h0, h0, q0, ⟨Nat.le_of_ble_eq_true rfl, Nat.le_of_ble_eq_true rfl, Nat.le_of_ble_eq_true rfl⟩, e_lotCopy h3 q2 (by omega) _ ⟨h0, h3.1, 4, h3.2, vp_nI (n := 3) (by decide), h0, q0, 4, h3.2, vp_nI (n := 3) (by decide), ⟨Nat.le_of_ble_eq_true rfl, Nat.le_of_ble_eq_true rfl, Nat.le_of_ble_eq_true rfl⟩, e_clearNext h0 h2 _ ⟨Or.inr rfl, kT _ _ R _ (preY S k rc ct _ ((if_pos a1').symm) _ rfl _ rfl _ rfl _ rfl) (by simp (disch := omega) only [↓u2_s, ↓u2_k, ↓u2_j, ↓tkr_k, ↓tkr_i, ↓zr_k, ↓zr_i, ↓cpr_k, ↓cpr_i]) ca r1 r2 r3 r4 (fin R)⟩⟩⟩) (fun x => absurd x (by decide)))⟩
