/-! ===== a month is reckoned ===== -/
def dnC (S : Mem) (k kind : Nat) (far : Int64) : Int64 := match kind with
  | 0 => 100
  | 3 => far
  | j => if ¬ S.1 k 4 < nI j ∧ S.2 (k + 1) (j - 1) ≤ far then 100 else 0
set_option maxHeartbeats 1000000 in
theorem e_doneAt {k kind : Nat} (hk : isDepN 156 k) (hi : kind < 4) (far : Int32) (S : Mem) {Qr : QR} {Qx : QX} (h : Qr (some (.long (dnC S k kind far.toInt64))) S) : vsp 156 0 (sX0_doneAt 156) [.ref k, .int (nI kind), .int far] S Qr Qx := by
  obtain ⟨h0, h1, -⟩ := hk
  refine ⟨h0, runG rfl 60 ?_⟩
  rcases (show kind = 0 ∨ kind = 1 ∨ kind = 2 ∨ kind = 3 by omega) with rfl | rfl | rfl | rfl
  · exact And.intro (fun h1 => absurd rfl h1) (fun _ => ⟨rfl, h⟩)
  · refine And.intro (fun _ => And.intro (fun _ => And.intro (fun h2 => absurd h2 (by decide)) (fun _ => ⟨h0, And.intro (fun h2 => ?_) (fun h2 => ⟨h0, 2, h1, vp_nI (n := 0) (by decide), And.intro (fun h3 => ?_) (fun h3 => ?_)⟩)⟩)) (fun h2 => absurd h2 (by decide))) (fun h2 => absurd h2 (by decide))
    · have e : dnC S k 1 far.toInt64 = 0 := if_neg (fun x => x.1 h2)
      rw [e] at h
      exact And.intro (fun _ => ⟨rfl, h⟩) (fun x => absurd rfl x)
    · have e : dnC S k 1 far.toInt64 = 0 := if_neg (fun x => Int64.not_le.mpr ((lg_cmp_gt _ _).mp h3) x.2)
      rw [e] at h
      exact And.intro (fun _ => ⟨rfl, h⟩) (fun x => absurd rfl x)
    · have e : dnC S k 1 far.toInt64 = 100 := if_pos ⟨h2, Int64.not_lt.mp (fun x => h3 ((lg_cmp_gt _ _).mpr x))⟩
      rw [e] at h
      exact And.intro (fun x => absurd x (by decide)) (fun _ => ⟨rfl, h⟩)
  · refine And.intro (fun _ => And.intro (fun _ => And.intro (fun h2 => absurd h2 (by decide)) (fun _ => ⟨h0, And.intro (fun h2 => ?_) (fun h2 => ⟨h0, 2, h1, vp_nI (n := 1) (by decide), And.intro (fun h3 => ?_) (fun h3 => ?_)⟩)⟩)) (fun h2 => absurd h2 (by decide))) (fun h2 => absurd h2 (by decide))
    · have e : dnC S k 2 far.toInt64 = 0 := if_neg (fun x => x.1 h2)
      rw [e] at h
      exact And.intro (fun _ => ⟨rfl, h⟩) (fun x => absurd rfl x)
    · have e : dnC S k 2 far.toInt64 = 0 := if_neg (fun x => Int64.not_le.mpr ((lg_cmp_gt _ _).mp h3) x.2)
      rw [e] at h
      exact And.intro (fun _ => ⟨rfl, h⟩) (fun x => absurd rfl x)
    · have e : dnC S k 2 far.toInt64 = 100 := if_pos ⟨h2, Int64.not_lt.mp (fun x => h3 ((lg_cmp_gt _ _).mpr x))⟩
      rw [e] at h
      exact And.intro (fun x => absurd x (by decide)) (fun _ => ⟨rfl, h⟩)
  · exact And.intro (fun _ => And.intro (fun x => absurd rfl x) (fun _ => ⟨rfl, h⟩)) (fun h2 => absurd h2 (by decide))
theorem e_allDone {q i : Nat} (hq : isMon q) (hi : i < 4) (S : Mem) {Qr : QR} {Qx : QX} (h : Qr (some (.long (S.2 (q + 6) i + S.2 (q + 7) i + S.2 (q + 8) i))) S) : vsp 156 4 (sX4_allDone 156) [.ref q, .int (nI i)] S Qr Qx := by
  obtain ⟨h0, h1, h2, h3⟩ := hq
  refine ⟨h0, runG rfl 60 ⟨h0, 4, h3 1 (by decide), vp_nI hi, h0, 4, h3 2 (by decide), vp_nI hi, h0, 4, h3 3 (by decide), vp_nI hi, rfl, ?_⟩⟩
  show Qr (some (.long (S.2 (q + 6) (nI i).toNatClampNeg + S.2 (q + 7) (nI i).toNatClampNeg + S.2 (q + 8) (nI i).toNatClampNeg))) S
  rw [nI_clamp (by omega)]
  exact h
theorem e_spent {q : Nat} (hq : isMon q) (S : Mem) {Qr : QR} {Qx : QX} (h : Qr (some (.long (sumN (S.2 (q + 5)) 4 - S.2 (q + 5) 0))) S) : vsp 156 4 (sX4_spent 156) [.ref q] S Qr Qx := by
  obtain ⟨h0, h1, h2, h3⟩ := hq
  exact ⟨h0, runG rfl 60 ⟨h0, ⟨Nat.le_of_ble_eq_true rfl, Nat.le_of_ble_eq_true rfl, Nat.le_of_ble_eq_true rfl⟩, e_sumOf (h3 0 (by decide)) (by decide) (by decide) S ⟨h0, 4, h3 0 (by decide), vp_nI (n := 0) (by decide), rfl, h⟩⟩⟩
