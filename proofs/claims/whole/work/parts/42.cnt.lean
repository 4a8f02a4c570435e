/-! ===== countDone, shareKind ===== -/
theorem dnC_congr {S T : Mem} {k : Nat} (h1 : T.1 k 4 = S.1 k 4) (h2 : T.2 (k + 1) = S.2 (k + 1)) (i : Nat) (f : Int64) : dnC T k i f = dnC S k i f := by
  unfold dnC
  split
  · rfl
  · rfl
  · rw [h1, h2]
theorem u2_jj {α : Type} (f : Nat → Nat → α) (k i : Nat) (v : α) (c : Nat) {j : Nat} (h : j ≠ i) : u2 f k i v c j = f c j := by
  unfold u2
  by_cases e : c = k
  · rw [if_pos e, if_neg h]
  · rw [if_neg e]
/-- what is done, of one kind -/
def fdC (S : Mem) (q k i : Nat) (way : Int32) : Int64 := if way = 0 then 100 * (S.1 q 5).toInt64 - (S.1 (q + 1) 0).toInt64 * dnC S k i (S.1 (q + 1) 1).toInt64 else 100 * (S.1 q 5).toInt64
def ldC (S : Mem) (q k i : Nat) : Int64 := (S.1 (q + 3) 0).toInt64 * dnC S k i (S.1 (q + 3) 1).toInt64
def sdC (S : Mem) (q k i : Nat) : Int64 := (S.1 q 4).toInt64 * dnC S k i (S.1 k 1).toInt64
set_option maxHeartbeats 1000000 in
theorem e_countDone {q k i : Nat} (hq : isMon q) (hk : isDepN 156 k) (hkq : k + 4 < q) (hi : i < 4) (way : Int32) (S : Mem) {Qr : QR} {Qx : QX} (h : ∀ S' : Mem, S'.1 = S.1 → S'.2 (q + 6) i = fdC S q k i way → S'.2 (q + 7) i = ldC S q k i → S'.2 (q + 8) i = sdC S q k i → (∀ c, c < q + 6 ∨ q + 8 < c → S'.2 c = S.2 c) → (∀ c j, j ≠ i → S'.2 c j = S.2 c j) → Qr none S') : vsp 156 4 (sX4_countDone 156) [.ref q, .ref k, .int way, .int (nI i)] S Qr Qx := by
  obtain ⟨h0, h1, h2, h3⟩ := hq
  have hc : (nI i).toNatClampNeg = i := nI_clamp (by omega)
  have hkt := hk.1
  have fin : ∀ Y : Nat → Nat → Int64, Y (q + 6) i = fdC S q k i way → (∀ c, c ≠ q + 6 → Y c = S.2 c) → (∀ c j, j ≠ i → Y c j = S.2 c j) → Qr none (S.1, u2 (u2 Y (q + 7) i ((S.1 (q + 3) 0).toInt64 * dnC (S.1, Y) k i (S.1 (q + 3) 1).toInt64)) (q + 8) i ((S.1 q 4).toInt64 * dnC (S.1, u2 Y (q + 7) i ((S.1 (q + 3) 0).toInt64 * dnC (S.1, Y) k i (S.1 (q + 3) 1).toInt64)) k i (S.1 k 1).toInt64)) := by
    intro Y y1 y2 y3
    have e1 : ∀ f, dnC (S.1, Y) k i f = dnC S k i f := fun f => dnC_congr (T := (S.1, Y)) (S := S) rfl (y2 (k + 1) (by omega)) i f
    have e2 : ∀ v f, dnC (S.1, u2 Y (q + 7) i v) k i f = dnC S k i f := fun v f => dnC_congr (T := (S.1, u2 Y (q + 7) i v)) (S := S) rfl ((u2_other _ _ _ (by omega)).trans (y2 (k + 1) (by omega))) i f
    rw [e1, e2]
    refine h _ rfl ?_ ?_ ?_ (fun c hc => ?_) (fun c j hj => ?_)
    · show u2 (u2 Y (q + 7) i _) (q + 8) i _ (q + 6) i = _
      rw [u2_k _ _ _ _ (by omega), u2_k _ _ _ _ (by omega)]; exact y1
    · show u2 (u2 Y (q + 7) i _) (q + 8) i _ (q + 7) i = _
      rw [u2_k _ _ _ _ (by omega), u2_s]; rfl
    · show u2 (u2 Y (q + 7) i _) (q + 8) i _ (q + 8) i = _
      rw [u2_s]; rfl
    · show u2 (u2 Y (q + 7) i _) (q + 8) i _ c = _
      rw [u2_other _ _ _ (by omega), u2_other _ _ _ (by omega)]; exact y2 c (by omega)
    · show u2 (u2 Y (q + 7) i _) (q + 8) i _ c j = _
      rw [u2_jj _ _ _ _ _ hj, u2_jj _ _ _ _ _ hj]
      exact y3 c j hj
  refine ⟨h0, runG rfl 120 ⟨h0, h0, 4, h3 1 (by decide), vp_nI hi, And.intro (fun hw => ?_) (fun hw => ?_)⟩⟩
  · refine ⟨h0, h0, h2.1, h0, h2.1, ⟨Nat.le_of_ble_eq_true rfl, Nat.le_of_ble_eq_true rfl, Nat.le_of_ble_eq_true rfl⟩, e_doneAt hk hi _ _ ⟨4, h3 2 (by decide), vp_nI hi, h0, h0, hkt, ⟨Nat.le_of_ble_eq_true rfl, Nat.le_of_ble_eq_true rfl, Nat.le_of_ble_eq_true rfl⟩, e_doneAt hk hi _ _ ⟨4, h3 3 (by decide), vp_nI hi, rfl, ?_⟩⟩⟩
    have := fin (u2 S.2 (q + 6) i (100 * (S.1 q 5).toInt64)) ((u2_s _ _ _ _).trans (if_neg hw).symm) (fun c hc => u2_other _ _ _ hc) (fun c j hj => u2_jj _ _ _ _ _ hj)
    rw [hc]
    exact this
  · refine ⟨h0, 4, h3 1 (by decide), vp_nI hi, h0, h1.1, h0, h1.1, ⟨Nat.le_of_ble_eq_true rfl, Nat.le_of_ble_eq_true rfl, Nat.le_of_ble_eq_true rfl⟩, e_doneAt hk hi _ _ ⟨4, h3 1 (by decide), vp_nI hi, ?_⟩⟩
    refine ⟨h0, h0, h2.1, h0, h2.1, ⟨Nat.le_of_ble_eq_true rfl, Nat.le_of_ble_eq_true rfl, Nat.le_of_ble_eq_true rfl⟩, e_doneAt hk hi _ _ ⟨4, h3 2 (by decide), vp_nI hi, h0, h0, hkt, ⟨Nat.le_of_ble_eq_true rfl, Nat.le_of_ble_eq_true rfl, Nat.le_of_ble_eq_true rfl⟩, e_doneAt hk hi _ _ ⟨4, h3 3 (by decide), vp_nI hi, rfl, ?_⟩⟩⟩
    rw [hc]
    refine fin (u2 (u2 S.2 (q + 6) i (100 * (S.1 q 5).toInt64)) (q + 6) i _) ((u2_s _ _ _ _).trans ?_) (fun c hc => (u2_other _ _ _ hc).trans (u2_other _ _ _ hc)) (fun c j hj => (u2_jj _ _ _ _ _ hj).trans (u2_jj _ _ _ _ _ hj))
    show u2 S.2 (q + 6) i (100 * (S.1 q 5).toInt64) (q + 6) i - (S.1 (q + 1) 0).toInt64 * dnC (S.1, u2 S.2 (q + 6) i (100 * (S.1 q 5).toInt64)) k i (S.1 (q + 1) 1).toInt64 = _
    rw [u2_s, dnC_congr (T := (S.1, u2 S.2 (q + 6) i (100 * (S.1 q 5).toInt64))) (S := S) rfl (u2_other _ _ _ (by omega)), fdC, if_pos hw]
