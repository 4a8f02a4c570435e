/-! ===== copyGiven ===== -/
/-- month o is given what month m was given -/
def givC (S S' : Mem) (o m : Nat) : Prop := (S'.1 (o + 1) 0 = S.1 (m + 1) 0 ∧ S'.1 (o + 1) 1 = S.1 (m + 1) 1 ∧ S'.1 (o + 3) 0 = S.1 (m + 3) 0 ∧ S'.1 (o + 3) 1 = S.1 (m + 3) 1 ∧ S'.1 o 3 = S.1 m 3 ∧ S'.1 o 4 = S.1 m 4) ∧ (∀ j, j < 4 → S'.2 (o + 2) j = S.2 (m + 2) j ∧ S'.2 (o + 5) j = S.2 (m + 5) j) ∧ (∀ c, c < o ∨ o + 3 < c → S'.1 c = S.1 c) ∧ ∀ c, c < o + 2 ∨ o + 5 < c → S'.2 c = S.2 c
set_option maxHeartbeats 2000000 in
theorem e_copyGiven {o m : Nat} (ho : isMon o) (hm : isMon m) (hmo : m + 11 < o) (S : Mem) {Qr : QR} {Qx : QX} (h : ∀ S', givC S S' o m → Qr none S') : vsp 156 4 (sX4_copyGiven 156) [.ref o, .ref m] S Qr Qx := by
  obtain ⟨o0, o1, o2, o3⟩ := ho
  obtain ⟨m0, m1, m2, m3⟩ := hm
  refine ⟨o0, runG rfl 80 ⟨o0, m0, ⟨Nat.le_of_ble_eq_true rfl, Nat.le_of_ble_eq_true rfl, Nat.le_of_ble_eq_true rfl⟩, e_lotCopy o1 m1 (by omega) _ ⟨o0, m0, ⟨Nat.le_of_ble_eq_true rfl, Nat.le_of_ble_eq_true rfl, Nat.le_of_ble_eq_true rfl⟩, e_lotCopy o2 m2 (by omega) _ ⟨m0, o0, ⟨Nat.le_of_ble_eq_true rfl, Nat.le_of_ble_eq_true rfl, Nat.le_of_ble_eq_true rfl⟩, e_copyAll (m3 0 (by decide)) (o3 0 (by decide)) (by omega) (by decide) (by decide) _ ⟨m0, o0, m0, o0, rfl, h _ ⟨⟨?_, ?_, ?_, ?_, ?_, ?_⟩, fun j hj => ⟨?_, ?_⟩, fun c hc => ?_, fun c hc => ?_⟩⟩⟩⟩⟩⟩
  · simp (disch := omega) only [↓u2_s, ↓u2_k, ↓u2_j, ↓tkr_k, ↓tkr_i, ↓zr_k, ↓zr_i, ↓cpr_k, ↓cpr_i]
  · simp (disch := omega) only [↓u2_s, ↓u2_k, ↓u2_j, ↓tkr_k, ↓tkr_i, ↓zr_k, ↓zr_i, ↓cpr_k, ↓cpr_i]
  · simp (disch := omega) only [↓u2_s, ↓u2_k, ↓u2_j, ↓tkr_k, ↓tkr_i, ↓zr_k, ↓zr_i, ↓cpr_k, ↓cpr_i]
  · simp (disch := omega) only [↓u2_s, ↓u2_k, ↓u2_j, ↓tkr_k, ↓tkr_i, ↓zr_k, ↓zr_i, ↓cpr_k, ↓cpr_i]
  · simp (disch := omega) only [↓u2_s, ↓u2_k, ↓u2_j, ↓tkr_k, ↓tkr_i, ↓zr_k, ↓zr_i, ↓cpr_k, ↓cpr_i]
  · simp (disch := omega) only [↓u2_s, ↓u2_k, ↓u2_j, ↓tkr_k, ↓tkr_i, ↓zr_k, ↓zr_i, ↓cpr_k, ↓cpr_i]
  · simp (disch := omega) only [↓u2_s, ↓u2_k, ↓u2_j, ↓tkr_k, ↓tkr_i, ↓zr_k, ↓zr_i, ↓cpr_k, ↓cpr_i]
  · simp (disch := omega) only [↓u2_s, ↓u2_k, ↓u2_j, ↓tkr_k, ↓tkr_i, ↓zr_k, ↓zr_i, ↓cpr_k, ↓cpr_i]
  · funext j; simp (disch := omega) only [↓u2_s, ↓u2_k, ↓u2_j, ↓tkr_k, ↓tkr_i, ↓zr_k, ↓zr_i, ↓cpr_k, ↓cpr_i]
  · funext j; simp (disch := omega) only [↓u2_s, ↓u2_k, ↓u2_j, ↓tkr_k, ↓tkr_i, ↓zr_k, ↓zr_i, ↓cpr_k, ↓cpr_i]
