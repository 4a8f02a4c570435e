/-! ===== flows of a department ===== -/
def loC (S : Mem) (k : Nat) (f : Int64) : Int64 := f * (S.1 k 2).toInt64 / 100
theorem e_lostOf {k : Nat} (hk : isDepN 156 k) (f : Int64) (S : Mem) {Qr : QR} {Qx : QX} (h : Qr (some (.long (loC S k f))) S) : vsp 156 0 (sX0_lostOf 156) [.ref k, .long f] S Qr Qx :=
  ⟨hk.1, runG rfl 40 ⟨hk.1, by decide, rfl, h⟩⟩
theorem e_passingOf {k : Nat} (hk : isDepN 156 k) (f : Int64) (S : Mem) {Qr : QR} {Qx : QX} (h : Qr (some (.long (f - loC S k f))) S) : vsp 156 0 (sX0_passingOf 156) [.ref k, .long f] S Qr Qx :=
  ⟨hk.1, runG rfl 40 ⟨⟨Nat.le_of_ble_eq_true rfl, Nat.le_of_ble_eq_true rfl, Nat.le_of_ble_eq_true rfl⟩, e_lostOf hk f S ⟨rfl, h⟩⟩⟩
def bkC (S : Mem) (k : Nat) (f : Int64) : Int64 := if S.1 k 6 = -1 then 0 else loC S k f * (S.1 k 7).toInt64 / 100
theorem e_backOf {k : Nat} (hk : isDepN 156 k) (f : Int64) (S : Mem) {Qr : QR} {Qx : QX} (h : Qr (some (.long (bkC S k f))) S) : vsp 156 0 (sX0_backOf 156) [.ref k, .long f] S Qr Qx := by
  refine ⟨hk.1, runG rfl 40 ⟨hk.1, And.intro (fun a => ?_) (fun a => ?_)⟩⟩
  · rw [bkC, if_neg a] at h
    exact ⟨⟨Nat.le_of_ble_eq_true rfl, Nat.le_of_ble_eq_true rfl, Nat.le_of_ble_eq_true rfl⟩, e_lostOf hk f S ⟨hk.1, by decide, rfl, h⟩⟩
  · rw [bkC, if_pos a] at h
    exact ⟨rfl, h⟩
