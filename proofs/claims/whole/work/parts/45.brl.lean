/-! ===== bearLoss ===== -/
def olC (S : Mem) (q : Nat) : Int64 := sumN (S.2 (q + 11)) 4
def onC (S : Mem) (q : Nat) : Int64 := cut (olC S q) (S.1 q 7).toInt64 (S.1 q 4).toInt64
def ntV (x : Int64) : Int64 := if 0 < x then x else 0
def ntC (S : Mem) (q k : Nat) : Int64 := ntV (onC S q - (S.1 q 7).toInt64 * (S.1 k 3).toInt64)
def abC (S : Mem) (q k : Nat) : Int64 := olC S q - onC S q - (S.1 q 4 - S.1 q 7).toInt64 * (S.1 k 3).toInt64
def lbC (S : Mem) (q k : Nat) : Int32 := if S.1 (q + 3) 1 < S.1 k 1 then 0 else S.1 (q + 3) 0
def brC (S : Mem) (q k : Nat) : Int32 := lbC S q k + S.1 q 5
def tlC (S : Mem) (q k : Nat) : Int64 := cut (ntC S q k) (lbC S q k).toInt64 (brC S q k).toInt64
def ouC (S : Mem) (q k : Nat) : Int64 := if brC S q k = 0 then sumN (S.2 (q + 10)) 4 else sumN (S.2 (q + 10)) 4 + (ntC S q k - tlC S q k)
def aaC (S : Mem) (q k : Nat) : Int64 := if brC S q k = 0 then abC S q k + ntC S q k else abC S q k
def brlF (X Y : Nat → Nat → Int64) (q : Nat) (nt ab lb br : Int64) : Prop := Y q 14 = nt ∧ Y q 15 = cut nt lb br ∧ Y q 16 = ab ∧ Y q 17 = sumN (X (q + 10)) 4 ∧ (∀ c, c ≠ q → Y c = X c) ∧ ∀ j, j < 14 ∨ 17 < j → Y q j = X q j
theorem brlY (X : Nat → Nat → Int64) (q : Nat) (nt ab lb br : Int64) : ∀ Y1, Y1 = u2 X q 14 nt → ∀ Y2, Y2 = u2 Y1 q 16 ab → ∀ Y3, Y3 = u2 Y2 q 15 (cut (Y2 q 14) lb br) → ∀ Y4, Y4 = u2 Y3 q 17 (sumN (Y3 (q + 10)) 4) → brlF X Y4 q nt ab lb br := by
  intro Y1 e1 Y2 e2 Y3 e3 Y4 e4
  have a1 : Y2 q 14 = nt := by rw [e2, u2_j _ _ _ _ (by decide), e1, u2_s]
  rw [a1] at e3
  have a2 : Y3 (q + 10) = X (q + 10) := by rw [e3, u2_other _ _ _ (by omega), e2, u2_other _ _ _ (by omega), e1, u2_other _ _ _ (by omega)]
  rw [a2] at e4
  refine ⟨?_, ?_, ?_, ?_, fun c hc => ?_, fun j hj => ?_⟩
  · rw [e4, u2_j _ _ _ _ (by decide), e3, u2_j _ _ _ _ (by decide), a1]
  · rw [e4, u2_j _ _ _ _ (by decide), e3, u2_s]
  · rw [e4, u2_j _ _ _ _ (by decide), e3, u2_j _ _ _ _ (by decide), e2, u2_s]
  · rw [e4, u2_s]
  · rw [e4, u2_other _ _ _ hc, e3, u2_other _ _ _ hc, e2, u2_other _ _ _ hc, e1, u2_other _ _ _ hc]
  · rw [e4, u2_j _ _ _ _ (by omega), e3, u2_j _ _ _ _ (by omega), e2, u2_j _ _ _ _ (by omega), e1, u2_j _ _ _ _ (by omega)]
set_option maxHeartbeats 2000000 in
theorem e_bearLoss {q k : Nat} (hq : isMon q) (hk : isDepN 156 k) (S : Mem) {Qr : QR} {Qx : QX} (h : ∀ S' : Mem, S'.1 = S.1 → S'.2 q 14 = ntC S q k → S'.2 q 15 = tlC S q k → S'.2 q 16 = aaC S q k → S'.2 q 17 = ouC S q k → (∀ c, c ≠ q → S'.2 c = S.2 c) → Qr none S') : vsp 156 4 (sX4_bearLoss 156) [.ref q, .ref k] S Qr Qx := by
  obtain ⟨h0, h1, h2, h3⟩ := hq
  have hkt := hk.1
  have k1 : ∀ lb : Int32, lb = lbC S q k → ¬ lb + S.1 q 5 = 0 → ∀ Y, brlF S.2 Y q (ntC S q k) (abC S q k) lb.toInt64 (lb + S.1 q 5).toInt64 → Qr none (S.1, u2 Y q 17 (Y q 17 + (Y q 14 - Y q 15))) := by
    intro lb hlb hb Y ⟨y1, y2, y3, y4, y5, y6⟩
    subst hlb
    refine h _ rfl ((u2_j _ _ _ _ (by decide)).trans y1) ((u2_j _ _ _ _ (by decide)).trans y2) ((u2_j _ _ _ _ (by decide)).trans (y3.trans (if_neg hb).symm)) ((u2_s _ _ _ _).trans ?_) (fun c hc => (u2_other _ _ _ hc).trans (y5 c hc))
    rw [y4, y1, y2]
    exact (if_neg hb).symm
  have k2 : ∀ lb : Int32, lb = lbC S q k → lb + S.1 q 5 = 0 → ∀ Y, brlF S.2 Y q (ntC S q k) (abC S q k) lb.toInt64 (lb + S.1 q 5).toInt64 → Qr none (S.1, u2 Y q 16 (Y q 16 + Y q 14)) := by
    intro lb hlb hb Y ⟨y1, y2, y3, y4, y5, y6⟩
    subst hlb
    refine h _ rfl ((u2_j _ _ _ _ (by decide)).trans y1) ((u2_j _ _ _ _ (by decide)).trans y2) ((u2_s _ _ _ _).trans ?_) ((u2_j _ _ _ _ (by decide)).trans (y4.trans (if_pos hb).symm)) (fun c hc => (u2_other _ _ _ hc).trans (y5 c hc))
    rw [y3, y1]
    exact (if_pos hb).symm
  clear h
  refine ⟨h0, runG rfl 160 ⟨h0, ⟨Nat.le_of_ble_eq_true rfl, Nat.le_of_ble_eq_true rfl, Nat.le_of_ble_eq_true rfl⟩, e_sumOf (h3 6 (by decide)) (by decide) (by decide) S ⟨h0, h0, ⟨Nat.le_of_ble_eq_true rfl, Nat.le_of_ble_eq_true rfl, Nat.le_of_ble_eq_true rfl⟩, e_partOf _ _ _ _ ⟨h0, hkt, ⟨Nat.le_of_ble_eq_true rfl, Nat.le_of_ble_eq_true rfl, Nat.le_of_ble_eq_true rfl⟩, h0, h0, h0, hkt, h0, h0, h2.1, hkt, And.intro (fun a1 => ?_) (fun a1 => ?_)⟩⟩⟩⟩
  · have e : (0 : Int32) = lbC S q k := (if_pos a1).symm
    refine ⟨h0, h0, ⟨Nat.le_of_ble_eq_true rfl, Nat.le_of_ble_eq_true rfl, Nat.le_of_ble_eq_true rfl⟩, e_partOf _ _ _ _ ⟨h0, h0, ⟨Nat.le_of_ble_eq_true rfl, Nat.le_of_ble_eq_true rfl, Nat.le_of_ble_eq_true rfl⟩, e_sumOf (h3 5 (by decide)) (by decide) (by decide) _ ⟨h0, And.intro (fun a2 => ⟨h0, h0, h0, h0, rfl, ?_⟩) (fun a2 => ⟨h0, h0, h0, rfl, ?_⟩)⟩⟩⟩
    · exact k1 0 e a2 _ (brlY S.2 q _ _ _ _ _ rfl _ rfl _ rfl _ rfl)
    · exact k2 0 e a2 _ (brlY S.2 q _ _ _ _ _ rfl _ rfl _ rfl _ rfl)
  · have e : S.1 (q + 3) 0 = lbC S q k := (if_neg a1).symm
    refine ⟨h0, h2.1, h0, h0, ⟨Nat.le_of_ble_eq_true rfl, Nat.le_of_ble_eq_true rfl, Nat.le_of_ble_eq_true rfl⟩, e_partOf _ _ _ _ ⟨h0, h0, ⟨Nat.le_of_ble_eq_true rfl, Nat.le_of_ble_eq_true rfl, Nat.le_of_ble_eq_true rfl⟩, e_sumOf (h3 5 (by decide)) (by decide) (by decide) _ ⟨h0, And.intro (fun a2 => ⟨h0, h0, h0, h0, rfl, ?_⟩) (fun a2 => ⟨h0, h0, h0, rfl, ?_⟩)⟩⟩⟩
    · exact k1 _ e a2 _ (brlY S.2 q _ _ _ _ _ rfl _ rfl _ rfl _ rfl)
    · exact k2 _ e a2 _ (brlY S.2 q _ _ _ _ _ rfl _ rfl _ rfl _ rfl)
