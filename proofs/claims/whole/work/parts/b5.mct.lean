/-! ===== the model: a month is counted ===== -/
def fiW (w : Nat → Int64) (d : Nat) : Int64 := w (131 + 55 * d) + w ((131 + 55 * d) + 6) - w ((131 + 55 * d) + 12) - w ((131 + 55 * d) + 13)
def canW (w : Nat → Int64) (d : Nat) (way : Int32) : Prop := ¬ fiW w d < 0 ∧ (way = 0 → w (131 + 55 * d) ≤ fiW w d)
def ltW (w : Nat → Int64) (d : Nat) : Int64 := if w ((131 + 55 * d) + 14) < w (5 + 9 * d + 1) then 0 else w ((131 + 55 * d) + 13)
def otW (w : Nat → Int64) (d : Nat) : Int64 := if w ((131 + 55 * d) + 1) < w (5 + 9 * d + 1) then 0 else w (131 + 55 * d)
def cmW (w : Nat → Int64) (d : Nat) : Int64 := fiW w d + w ((131 + 55 * d) + 12) + ltW w d - otW w d
def nmW (w : Nat → Int64) (d : Nat) : Int64 := lessL (w ((131 + 55 * d) + 12)) (moreL 0 (cmW w d) * w (5 + 9 * d + 2) / 100)
def lfW (w : Nat → Int64) (d k : Nat) : Int64 := w ((131 + 55 * d) + 13) * dnW w d k (w ((131 + 55 * d) + 14))
def lsW (w : Nat → Int64) (d k : Nat) : Int64 := w ((131 + 55 * d) + 12) * dnW w d k (w (5 + 9 * d + 1))
def fnW (w : Nat → Int64) (d : Nat) (way : Int32) (k : Nat) : Int64 := 100 * fiW w d - (if way = 0 then w (131 + 55 * d) * dnW w d k (w ((131 + 55 * d) + 1)) else 0)
def alW (w : Nat → Int64) (d : Nat) (way : Int32) (k : Nat) : Int64 := lfW w d k + lsW w d k + fnW w d way k
def plW (w : Nat → Int64) (d : Nat) (way : Int32) (k : Nat) : Int64 := (if k = 0 then w ((131 + 55 * d) + 7) else w ((131 + 55 * d) + (8 + k))) + (if way = 1 then w ((131 + 55 * d) + (2 + k)) else 0)
def tlW (w : Nat → Int64) (d : Nat) (way : Int32) (k : Nat) : Int64 := cut (plW w d way k) (lfW w d k) (alW w d way k)
def tsW (w : Nat → Int64) (d : Nat) (way : Int32) (k : Nat) : Int64 := cut (plW w d way k) (lsW w d k) (alW w d way k)
def tfW (w : Nat → Int64) (d : Nat) (way : Int32) (k : Nat) : Int64 := plW w d way k - tlW w d way k - tsW w d way k + (if way = 0 then w ((131 + 55 * d) + (2 + k)) else 0)
def cnS (r w : Nat → Int64) (d : Nat) (way : Int32) (k : Nat) : Nat → Int64 := u1L (u1L (u1L (u1L (u1L (u1L (u1L (u1L r ((131 + 55 * d) + (18 + 4 * k)) (alW w d way k)) ((131 + 55 * d) + (18 + 4 * k) + 1) (fnW w d way k)) ((131 + 55 * d) + (18 + 4 * k) + 2) (lfW w d k)) ((131 + 55 * d) + (18 + 4 * k) + 3) (lsW w d k)) ((131 + 55 * d) + (34 + 4 * k)) (plW w d way k)) ((131 + 55 * d) + (34 + 4 * k) + 1) (tfW w d way k)) ((131 + 55 * d) + (34 + 4 * k) + 2) (tlW w d way k)) ((131 + 55 * d) + (34 + 4 * k) + 3) (tsW w d way k)
def cnR (w : Nat → Int64) (d : Nat) (way : Int32) : Nat → Nat → Int64
  | 0 => u1L (u1L (u1L w ((131 + 55 * d) + 15) (fiW w d)) ((131 + 55 * d) + 16) (nmW w d)) ((131 + 55 * d) + 17) (cmW w d)
  | k + 1 => cnS (cnR w d way k) w d way k
theorem cnR_o (w : Nat → Int64) (d : Nat) (way : Int32) : ∀ k, k ≤ 4 → ∀ i, i < (131 + 55 * d) + 15 ∨ (131 + 55 * d) + 50 ≤ i → cnR w d way k i = w i
  | 0, _, i, hi => by
    show u1L (u1L (u1L w _ _) _ _) _ _ i = w i
    rw [u1L_o _ _ (by omega), u1L_o _ _ (by omega), u1L_o _ _ (by omega)]
  | k + 1, hk, i, hi => by
    show cnS (cnR w d way k) w d way k i = w i
    unfold cnS
    rw [u1L_o _ _ (by omega), u1L_o _ _ (by omega), u1L_o _ _ (by omega), u1L_o _ _ (by omega), u1L_o _ _ (by omega), u1L_o _ _ (by omega), u1L_o _ _ (by omega), u1L_o _ _ (by omega)]
    exact cnR_o w d way k (by omega) i hi
theorem cnR_h (w : Nat → Int64) (d : Nat) (way : Int32) : ∀ k, k ≤ 4 → cnR w d way k ((131 + 55 * d) + 15) = fiW w d ∧ cnR w d way k ((131 + 55 * d) + 16) = nmW w d ∧ cnR w d way k ((131 + 55 * d) + 17) = cmW w d
  | 0, _ => by
    refine ⟨?_, ?_, ?_⟩
    · show u1L (u1L (u1L w _ _) _ _) _ _ _ = _
      rw [u1L_o _ _ (by omega), u1L_o _ _ (by omega), u1L_s]
    · show u1L (u1L (u1L w _ _) _ _) _ _ _ = _
      rw [u1L_o _ _ (by omega), u1L_s]
    · exact u1L_s _ _ _
  | k + 1, hk => by
    obtain ⟨a, b, c⟩ := cnR_h w d way k (by omega)
    refine ⟨?_, ?_, ?_⟩ <;> (show cnS (cnR w d way k) w d way k _ = _; unfold cnS; rw [u1L_o _ _ (by omega), u1L_o _ _ (by omega), u1L_o _ _ (by omega), u1L_o _ _ (by omega), u1L_o _ _ (by omega), u1L_o _ _ (by omega), u1L_o _ _ (by omega), u1L_o _ _ (by omega)]; assumption)
theorem cnR_v (w : Nat → Int64) (d : Nat) (way : Int32) {j : Nat} : ∀ k, k ≤ 4 → j < k → (cnR w d way k ((131 + 55 * d) + (18 + 4 * j)) = alW w d way j ∧ cnR w d way k ((131 + 55 * d) + (18 + 4 * j) + 1) = fnW w d way j ∧ cnR w d way k ((131 + 55 * d) + (18 + 4 * j) + 2) = lfW w d j ∧ cnR w d way k ((131 + 55 * d) + (18 + 4 * j) + 3) = lsW w d j) ∧ (cnR w d way k ((131 + 55 * d) + (34 + 4 * j)) = plW w d way j ∧ cnR w d way k ((131 + 55 * d) + (34 + 4 * j) + 1) = tfW w d way j ∧ cnR w d way k ((131 + 55 * d) + (34 + 4 * j) + 2) = tlW w d way j ∧ cnR w d way k ((131 + 55 * d) + (34 + 4 * j) + 3) = tsW w d way j)
  | 0, _, h => absurd h (by omega)
  | k + 1, hk, h => by
    by_cases e : j = k
    · subst e
      refine ⟨⟨?_, ?_, ?_, ?_⟩, ?_, ?_, ?_, ?_⟩ <;> (show cnS (cnR w d way j) w d way j _ = _; unfold cnS; repeat (first | rw [u1L_s] | rw [u1L_o _ _ (by omega)]))
    · obtain ⟨⟨a1, a2, a3, a4⟩, b1, b2, b3, b4⟩ := cnR_v w d way (j := j) k (by omega) (by omega)
      refine ⟨⟨?_, ?_, ?_, ?_⟩, ?_, ?_, ?_, ?_⟩ <;> (show cnS (cnR w d way k) w d way k _ = _; unfold cnS; rw [u1L_o _ _ (by omega), u1L_o _ _ (by omega), u1L_o _ _ (by omega), u1L_o _ _ (by omega), u1L_o _ _ (by omega), u1L_o _ _ (by omega), u1L_o _ _ (by omega), u1L_o _ _ (by omega)]; assumption)
/-- losses of the counted month -/
def cAL (w : Nat → Int64) (d : Nat) (way : Int32) : Int64 := sumN (tsW w d way) 4
def cOU (w : Nat → Int64) (d : Nat) (way : Int32) : Int64 := sumN (tfW w d way) 4
def cFN (w : Nat → Int64) (d : Nat) (way : Int32) : Int64 := cut (cAL w d way) (nmW w d) (w ((131 + 55 * d) + 12))
def cNT (w : Nat → Int64) (d : Nat) (way : Int32) : Int64 := lsN (cFN w d way) (nmW w d) (w (5 + 9 * d + 3))
def cTL (w : Nat → Int64) (d : Nat) (way : Int32) : Int64 := lsT (cNT w d way) (ltW w d) (fiW w d)
def cAB (w : Nat → Int64) (d : Nat) (way : Int32) : Int64 := lsA (cAL w d way) (cFN w d way) (nmW w d) (w ((131 + 55 * d) + 12)) (w (5 + 9 * d + 3)) (cNT w d way) (ltW w d) (fiW w d)
def cOT (w : Nat → Int64) (d : Nat) (way : Int32) : Int64 := lsO (cOU w d way) (cNT w d way) (cTL w d way) (ltW w d) (fiW w d)
def ctW (w : Nat → Int64) (d : Nat) (way : Int32) : Nat → Int64 := losR (cnR w d way 4) (131 + 55 * d) (cNT w d way) (cTL w d way) (cAB w d way) (w ((131 + 55 * d) + 12) * w (5 + 9 * d + 3)) (cOT w d way)
theorem dnW_0 (w : Nat → Int64) (d : Nat) (f : Int64) : dnW w d 0 f = 100 := rfl
theorem dnW_3 (w : Nat → Int64) (d : Nat) (f : Int64) : dnW w d 3 f = f := rfl
theorem dnW_1 (w : Nat → Int64) (d : Nat) (f : Int64) : dnW w d 1 f = if ¬ w (5 + 9 * d + 4 + 1) = -1 ∧ w (5 + 9 * d + 4 + 1) ≤ f then 100 else 0 := rfl
theorem dnW_2 (w : Nat → Int64) (d : Nat) (f : Int64) : dnW w d 2 f = if ¬ w (5 + 9 * d + 4 + 2) = -1 ∧ w (5 + 9 * d + 4 + 2) ≤ f then 100 else 0 := rfl
theorem dnW_congr {w v : Nat → Int64} {d : Nat} (h : ∀ i, 5 + 9 * d ≤ i → i < 14 + 9 * d → v i = w i) {k : Nat} (hk : k < 4) (f : Int64) : dnW v d k f = dnW w d k f := by
  rcases (show k = 0 ∨ k = 3 ∨ k = 1 ∨ k = 2 by omega) with rfl | rfl | rfl | rfl
  · rw [dnW_0, dnW_0]
  · rw [dnW_3, dnW_3]
  · rw [dnW_1, dnW_1, h (5 + 9 * d + 4 + 1) (by omega) (by omega)]
  · rw [dnW_2, dnW_2, h (5 + 9 * d + 4 + 2) (by omega) (by omega)]
theorem e_latestV {d x : Nat} {v : Int32} (hv : v = nI x) (S : Mem) {Qr : QR} {Qx : QX} (h : Qr (some (.int (nI ((131 + 55 * d) + x)))) S) : sX10_latest 156 [.int (nI d), .int v] S Qr Qx := by
  subst hv
  exact e_latest d x S h
