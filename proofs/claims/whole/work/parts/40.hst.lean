/-! ===== the history ===== -/
theorem e_histRow {i : Nat} (hi : i < 9) (S : Mem) (hn : S.1 101 1 = nI i) {Qr : QR} {Qx : QX} (h : Qr (some (.ref (103 + 2 * i))) (u2 S.1 (103 + 2 * i) 1 0, S.2)) : vsp 156 2 (sX2_row 156) [.ref 101] S Qr Qx := by
  have t1 : tyN 156 101 = (0, 2, 0, 0) := rfl
  have t2 : tyN 156 102 = (6, 9, 103, 2) := rfl
  refine ⟨t1, runG rfl 40 ⟨t1, t1, 2, 9, 103, 2, t2, by decide, by rw [hn]; exact vp_nI hi, ⟨Nat.le_of_ble_eq_true rfl, Nat.le_of_ble_eq_true rfl, Nat.le_of_ble_eq_true rfl⟩, ?_⟩⟩
  show vsp 156 7 (sX7_rewind 156) [.ref (103 + 2 * (S.1 101 1).toNatClampNeg)] S _ _
  have hc : (S.1 101 1).toNatClampNeg = i := by rw [hn]; exact nI_clamp (by omega)
  rw [hc]
  have h9 : u2 S.1 (103 + 2 * i) 1 0 101 1 = nI i := (u2_k _ _ _ _ (by omega)).trans hn
  refine e_rewind (isRow_at i hi) S ⟨t1, t1, 2, 9, 103, 2, t2, by decide, ?_, ?_⟩
  · show vp_in (u2 S.1 (103 + 2 * i) 1 0 101 1) 9
    rw [h9]; exact vp_nI hi
  · show Qr (some (.ref (103 + 2 * (u2 S.1 (103 + 2 * i) 1 0 101 1).toNatClampNeg))) (u2 S.1 (103 + 2 * i) 1 0, S.2)
    rw [h9, nI_clamp (by omega)]
    exact h
def nx9 (i : Nat) : Nat := if i + 1 < 9 then i + 1 else 0
def pv9 (i : Nat) : Nat := if 0 < i then i - 1 else 8
theorem minI_nI {a b : Nat} (ha : a < 2 ^ 31) (hb : b < 2 ^ 31) : (if nI b < nI a then nI b else nI a) = nI (min a b) := by
  by_cases h : b < a
  · rw [if_pos (nI_lt h ha), Nat.min_eq_right (by omega)]
  · rw [if_neg (nI_nlt (by omega) hb), Nat.min_eq_left (by omega)]
theorem e_histKeep {i m : Nat} (hi : i < 9) (hm : m ≤ 8) (S : Mem) (hn : S.1 101 1 = nI i) (hk : S.1 101 2 = nI m) {Qr : QR} {Qx : QX} (h : Qr none (u2 (u2 S.1 101 1 (nI (nx9 i))) 101 2 (nI (min (m + 1) 8)), S.2)) : vsp 156 2 (sX2_keep 156) [.ref 101] S Qr Qx := by
  have t1 : tyN 156 101 = (0, 2, 0, 0) := rfl
  have t2 : tyN 156 102 = (6, 9, 103, 2) := rfl
  have h8 : ∀ v, (if (8 : Int32) < u2 S.1 101 1 v 101 2 + 1 then (8 : Int32) else u2 S.1 101 1 v 101 2 + 1) = nI (min (m + 1) 8) := fun v => by
    rw [u2_j _ _ _ _ (by decide), hk, show nI m + 1 = nI (m + 1) from (nI_succ m).symm]
    exact minI_nI (by omega) (by decide)
  have hi1 : S.1 101 1 + 1 = nI (i + 1) := by rw [hn]; exact (nI_succ i).symm
  refine ⟨t1, runG rfl 40 ⟨t1, t1, Or.inl ⟨5, 9, 103, 2, t2, by decide, by decide, And.intro (fun h1 => ?_) (fun h1 => ?_)⟩⟩⟩
  · have h1 : nI 9 ≤ nI (i + 1) := hi1 ▸ h1
    have e : nx9 i = 0 := by
      unfold nx9
      by_cases e : i + 1 < 9
      · exact absurd h1 (nI_ge e (by decide))
      · rw [if_neg e]
    refine ⟨t1, t1, ⟨Nat.le_of_ble_eq_true rfl, Nat.le_of_ble_eq_true rfl, Nat.le_of_ble_eq_true rfl⟩, t1, rfl, ?_⟩
    show Qr none (u2 (u2 S.1 101 1 0) 101 2 (if (8 : Int32) < u2 S.1 101 1 0 101 2 + 1 then (8 : Int32) else u2 S.1 101 1 0 101 2 + 1), S.2)
    rw [h8]
    rw [e] at h
    exact h
  · have h1 : ¬ nI 9 ≤ nI (i + 1) := hi1 ▸ h1
    have e : nx9 i = i + 1 := by
      unfold nx9
      by_cases e : i + 1 < 9
      · rw [if_pos e]
      · exact absurd (nI_le (by omega) (by omega)) h1
    refine ⟨t1, t1, t1, ⟨Nat.le_of_ble_eq_true rfl, Nat.le_of_ble_eq_true rfl, Nat.le_of_ble_eq_true rfl⟩, t1, rfl, ?_⟩
    show Qr none (u2 (u2 S.1 101 1 (S.1 101 1 + 1)) 101 2 (if (8 : Int32) < u2 S.1 101 1 (S.1 101 1 + 1) 101 2 + 1 then (8 : Int32) else u2 S.1 101 1 (S.1 101 1 + 1) 101 2 + 1), S.2)
    rw [h8, hi1]
    rw [e] at h
    exact h
theorem nI_pr {n : Nat} (h : 0 < n) : nI n - 1 = nI (n - 1) := by
  obtain ⟨m, rfl⟩ : ∃ m, n = m + 1 := ⟨n - 1, by omega⟩
  rw [nI_succ]
  show nI m + 1 - 1 = nI m
  exact Int32.add_sub_cancel _ _
theorem e_histBack {i m : Nat} (hi : i < 9) (hm : m ≤ 8) (S : Mem) (hn : S.1 101 1 = nI i) (hk : S.1 101 2 = nI m) {Qr : QR} {Qx : QX} (h0 : m = 0 → Qr (some (.int 0)) S) (h : 0 < m → Qr (some (.int 1)) (u2 (u2 S.1 101 1 (nI (pv9 i))) 101 2 (nI (m - 1)), S.2)) : vsp 156 2 (sX2_stepBack 156) [.ref 101] S Qr Qx := by
  have t1 : tyN 156 101 = (0, 2, 0, 0) := rfl
  have t2 : tyN 156 102 = (6, 9, 103, 2) := rfl
  refine ⟨t1, runG rfl 40 ⟨t1, And.intro (fun h1 => ?_) (fun h1 => ?_)⟩⟩
  · have hm0 : 0 < m := by
      rcases Nat.eq_zero_or_pos m with e | e
      · subst e; exact absurd hk h1
      · exact e
    have h8 : ∀ v, u2 S.1 101 1 v 101 2 - 1 = nI (m - 1) := fun v => by rw [u2_j _ _ _ _ (by decide), hk, nI_pr hm0]
    refine ⟨t1, And.intro (fun h2 => ?_) (fun h2 => ?_)⟩
    · have h2 : nI i ≤ nI 0 := hn ▸ h2
      have e : pv9 i = 8 := by
        unfold pv9
        by_cases e : 0 < i
        · exact absurd h2 (nI_ge e (by omega))
        · rw [if_neg e]
      refine ⟨t1, Or.inl ⟨5, 9, 103, 2, t2, by decide, by decide, t1, t1, t1, Or.inr rfl, ?_⟩⟩
      show Qr (some (.int 1)) (u2 (u2 S.1 101 1 (nI 8)) 101 2 (u2 S.1 101 1 (nI 8) 101 2 - 1), S.2)
      rw [h8]
      have := h hm0
      rw [e] at this
      exact this
    · have h2 : ¬ nI i ≤ nI 0 := hn ▸ h2
      have hi0 : 0 < i := by
        rcases Nat.eq_zero_or_pos i with e | e
        · subst e; exact absurd (nI_le (Nat.le_refl 0) (by decide)) h2
        · exact e
      have e : pv9 i = i - 1 := if_pos hi0
      refine ⟨t1, t1, t1, t1, Or.inr rfl, ?_⟩
      show Qr (some (.int 1)) (u2 (u2 S.1 101 1 (S.1 101 1 - 1)) 101 2 (u2 S.1 101 1 (S.1 101 1 - 1) 101 2 - 1), S.2)
      rw [h8, hn, nI_pr hi0]
      have := h hm0
      rw [e] at this
      exact this
  · have : m = 0 := by
      rcases Nat.eq_zero_or_pos m with e | e
      · exact e
      · have h1 : S.1 101 2 = 0 := h1
        rw [hk] at h1
        have := congrArg Int32.toNatClampNeg h1
        rw [nI_clamp (by omega)] at this
        exact this
    exact ⟨Or.inl rfl, h0 this⟩
/-- a desk as it is told first -/
def dskF (S S' : Mem) : Prop := ∃ Z, dskZ S Z ∧ S'.2 = Z.2 ∧ S'.1 = u2 (u2 (u2 (u2 Z.1 1 2 1) 1 3 1) 89 0 100) 89 1 100
theorem e_tellFirst {N : Nat} (hN : 138 ≤ N) (S : Mem) {Qr : QR} {Qx : QX} (h : ∀ S', dskF S S' → Qr none S') : vsp N 1 (sX1_tellFirst N) [.ref 1] S Qr Qx := by
  have t1 : tyN N 1 = (0, 1, 0, 0) := tyN_mono (N := 138) rfl (by decide) hN
  have t3 : tyN N 3 = (5, 4, 89, 3) := tyN_mono (N := 138) rfl (by decide) hN
  have t6 : tyN N 89 = (0, 6, 0, 0) := tyN_mono (N := 138) rfl (by decide) hN
  refine ⟨t1, runG rfl 40 ⟨⟨Nat.le_of_ble_eq_true rfl, Nat.le_of_ble_eq_true rfl, Nat.le_of_ble_eq_true rfl⟩, e_dskClear hN S (fun Z z => ⟨t1, t1, t1, 1, 4, 89, 3, t3, by decide, vp_nI (n := 0) (N := 4) (by decide), t6, t1, 1, 4, 89, 3, t3, by decide, vp_nI (n := 0) (N := 4) (by decide), t6, rfl, h _ ⟨Z, z, rfl, rfl⟩⟩)⟩⟩
theorem e_lastDep {n : Nat} (hn : n < 5) (S : Mem) (hd : S.1 1 2 = nI (n + 1)) {Qr : QR} {Qx : QX} (h : Qr (some (.ref (4 + 17 * n))) S) : vsp 156 1 (sX1_lastDepartment 156) [.ref 1] S Qr Qx := by
  have t1 : tyN 156 1 = (0, 1, 0, 0) := rfl
  have t2 : tyN 156 2 = (4, 5, 4, 17) := rfl
  have e : (if S.1 1 2 - 1 < (0 : Int32) then (0 : Int32) else S.1 1 2 - 1) = nI n := by
    rw [hd, nI_pr (by omega), Nat.add_sub_cancel, if_neg (nI_pos (by omega))]
  refine ⟨t1, runG rfl 40 ⟨t1, t1, ⟨Nat.le_of_ble_eq_true rfl, Nat.le_of_ble_eq_true rfl, Nat.le_of_ble_eq_true rfl⟩, 0, 5, 4, 17, t2, by decide, ?_, ?_⟩⟩
  · show vp_in (if S.1 1 2 - 1 < (0 : Int32) then (0 : Int32) else S.1 1 2 - 1) 5
    rw [e]; exact vp_nI hn
  · show Qr (some (.ref (4 + 17 * (if S.1 1 2 - 1 < (0 : Int32) then (0 : Int32) else S.1 1 2 - 1).toNatClampNeg))) S
    rw [e, nI_clamp (by omega)]; exact h
