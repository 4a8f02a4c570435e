/-! ===== the model: counts ===== -/
theorem tri_rd {X : Nat → Nat → Int64} {w : Nat → Int64} (h : ∀ i, X 143 i = w i) {i : Nat} (hi : i < 754) : X 143 (nI i).toNatClampNeg = w i := by rw [nI_clamp (by omega)]; exact h i
theorem tri_rd2 {X : Nat → Nat → Int64} {w : Nat → Int64} (h : ∀ i, X 143 i = w i) {d x : Nat} (hi : 5 + 9 * d + x < 754) : X 143 (nI 5 + nI 9 * nI d + nI x).toNatClampNeg = w (5 + 9 * d + x) := by rw [ix2, nI_clamp (by omega)]; exact h _
theorem cnY (X : Nat → Nat → Int64) (a c : Nat) (ha : a + 3 < 754) (hc : c + 3 < 754) (a0 a1 a2 a3 c0 c1 c2 c3 : Int64) (Y : Nat → Nat → Int64) (hY : Y = u2 (u2 (u2 (u2 (u2 (u2 (u2 (u2 X 143 (nI a).toNatClampNeg a0) 143 (nI a + nI 1).toNatClampNeg a1) 143 (nI a + nI 2).toNatClampNeg a2) 143 (nI a + nI 3).toNatClampNeg a3) 143 (nI c).toNatClampNeg c0) 143 (nI c + nI 1).toNatClampNeg c1) 143 (nI c + nI 2).toNatClampNeg c2) 143 (nI c + nI 3).toNatClampNeg c3) : Y 143 = u1L (u1L (u1L (u1L (u1L (u1L (u1L (u1L (X 143) a a0) (a + 1) a1) (a + 2) a2) (a + 3) a3) c c0) (c + 1) c1) (c + 2) c2) (c + 3) c3 ∧ ∀ k, k ≠ 143 → Y k = X k := by
  subst hY
  constructor
  · rw [u2_rowL, u2_rowL, u2_rowL, u2_rowL, u2_rowL, u2_rowL, u2_rowL, u2_rowL, nI_add, nI_add, nI_add, nI_add, nI_add, nI_add, nI_clamp (by omega), nI_clamp (by omega), nI_clamp (by omega), nI_clamp (by omega), nI_clamp (by omega), nI_clamp (by omega), nI_clamp (by omega), nI_clamp (by omega)]
  · intro k hk
    rw [u2_other _ _ _ hk, u2_other _ _ _ hk, u2_other _ _ _ hk, u2_other _ _ _ hk, u2_other _ _ _ hk, u2_other _ _ _ hk, u2_other _ _ _ hk, u2_other _ _ _ hk]
theorem tlW_eq (w : Nat → Int64) (d : Nat) (way : Int32) (k : Nat) : cut (plW w d way k) (lfW w d k) (alW w d way k) = tlW w d way k := by unfold tlW; exact Eq.refl _
theorem tsW_eq (w : Nat → Int64) (d : Nat) (way : Int32) (k : Nat) : cut (plW w d way k) (lsW w d k) (alW w d way k) = tsW w d way k := by unfold tsW; exact Eq.refl _
set_option maxRecDepth 20000 in
set_option maxHeartbeats 8000000 in
theorem e_counts {d : Nat} (hd : d < 5) (way : Int32) (w : Nat → Int64) (S : Mem) (hW : S.2 143 = w) {Qr : QR} {Qx : QX} (h0 : ¬ canW w d way → Qr (some (.int 0)) S)
    (h1 : canW w d way → ∀ X, X 143 = ctW w d way → (∀ c, c ≠ 143 → X c = S.2 c) → Qr (some (.int 1)) (S.1, X)) : sX10_counts 156 [.ref 143, .int (nI d), .int way] S Qr Qx := by
  have v0 : ∀ x, x < 754 → vp_in (nI x) 754 := fun x hx => vp_nI hx
  have v1 : ∀ x y, x + y < 754 → vp_in (nI x + nI y) 754 := fun x y hx => by rw [nI_add]; exact vp_nI hx
  have hw : ∀ i, S.2 143 i = w i := fun i => by rw [hW]
  have vd : ∀ x, x < 9 → vp_in (nI 5 + nI 9 * nI d + nI x) 754 := fun x hx => by rw [ix2]; exact vp_nI (by omega)
  have vd1 := vd 1 (by decide)
  have vd2 := vd 2 (by decide)
  have vd3 := vd 3 (by decide)
  refine runM (ι := Nat × LL × Mem × Nat) rfl 300 0 [47, 85, 121, 177, 216, 288, 337, 359, 388] (fun a => a.1) (fun a => a.2.1) (fun a => a.2.2.1) (fun a => a.2.2.2)
    (fun a => a = (47, [(0, .ref 143), (1, .int (nI d)), (2, .int way), (3, .long (w (131 + 55 * d))), (5, .long (w ((131 + 55 * d) + 1))), (7, .long (w ((131 + 55 * d) + 12))), (9, .long (w ((131 + 55 * d) + 13))), (11, .long (w ((131 + 55 * d) + 14)))], S, 900) ∨ (canW w d way ∧ a = (85, [(13, .long (fiW w d)), (0, .ref 143), (1, .int (nI d)), (2, .int way), (3, .long (w (131 + 55 * d))), (5, .long (w ((131 + 55 * d) + 1))), (7, .long (w ((131 + 55 * d) + 12))), (9, .long (w ((131 + 55 * d) + 13))), (11, .long (w ((131 + 55 * d) + 14)))], S, 800)) ∨ (canW w d way ∧ a = (121, [(17, .long (w (5 + 9 * d + 2))), (15, .long (w (5 + 9 * d + 1))), (19, .long (w (5 + 9 * d + 3))), (13, .long (fiW w d)), (0, .ref 143), (1, .int (nI d)), (2, .int way), (3, .long (w (131 + 55 * d))), (5, .long (w ((131 + 55 * d) + 1))), (7, .long (w ((131 + 55 * d) + 12))), (9, .long (w ((131 + 55 * d) + 13))), (11, .long (w ((131 + 55 * d) + 14)))], S, 700)) ∨ (canW w d way ∧ a = (177, [(21, .long (cmW w d)), (23, .long (nmW w d)), (15, .long (w (5 + 9 * d + 1))), (19, .long (w (5 + 9 * d + 3))), (13, .long (fiW w d)), (0, .ref 143), (1, .int (nI d)), (2, .int way), (3, .long (w (131 + 55 * d))), (5, .long (w ((131 + 55 * d) + 1))), (7, .long (w ((131 + 55 * d) + 12))), (9, .long (w ((131 + 55 * d) + 13))), (11, .long (w ((131 + 55 * d) + 14)))], S, 600)) ∨
      (∃ k X, canW w d way ∧ k ≤ 4 ∧ X 143 = cnR w d way k ∧ (∀ c, c ≠ 143 → X c = S.2 c) ∧ (a = (216, [(29, .int (nI k)), (25, .long (sumN (tsW w d way) k)), (27, .long (sumN (tfW w d way) k)), (15, .long (w (5 + 9 * d + 1))), (19, .long (w (5 + 9 * d + 3))), (13, .long (fiW w d)), (0, .ref 143), (1, .int (nI d)), (2, .int way), (3, .long (w (131 + 55 * d))), (5, .long (w ((131 + 55 * d) + 1))), (7, .long (w ((131 + 55 * d) + 12))), (9, .long (w ((131 + 55 * d) + 13))), (11, .long (w ((131 + 55 * d) + 14)))], (S.1, X), (4 - k) * 10 + 9) ∨ (k < 4 ∧ (a = (288, [(30, .long (lfW w d k)), (32, .long (lsW w d k)), (36, .long (alW w d way k)), (34, .long (fnW w d way k)), (29, .int (nI k)), (25, .long (sumN (tsW w d way) k)), (27, .long (sumN (tfW w d way) k)), (15, .long (w (5 + 9 * d + 1))), (19, .long (w (5 + 9 * d + 3))), (13, .long (fiW w d)), (0, .ref 143), (1, .int (nI d)), (2, .int way), (3, .long (w (131 + 55 * d))), (5, .long (w ((131 + 55 * d) + 1))), (7, .long (w ((131 + 55 * d) + 12))), (9, .long (w ((131 + 55 * d) + 13))), (11, .long (w ((131 + 55 * d) + 14)))], (S.1, X), (4 - k) * 10 + 8) ∨ a = (337, [(38, .long (plW w d way k)), (30, .long (lfW w d k)), (32, .long (lsW w d k)), (36, .long (alW w d way k)), (34, .long (fnW w d way k)), (29, .int (nI k)), (25, .long (sumN (tsW w d way) k)), (27, .long (sumN (tfW w d way) k)), (15, .long (w (5 + 9 * d + 1))), (19, .long (w (5 + 9 * d + 3))), (13, .long (fiW w d)), (0, .ref 143), (1, .int (nI d)), (2, .int way), (3, .long (w (131 + 55 * d))), (5, .long (w ((131 + 55 * d) + 1))), (7, .long (w ((131 + 55 * d) + 12))), (9, .long (w ((131 + 55 * d) + 13))), (11, .long (w ((131 + 55 * d) + 14)))], (S.1, X), (4 - k) * 10 + 7) ∨ a = (388, [(40, .long (tlW w d way k)), (42, .long (tsW w d way k)), (44, .long (tfW w d way k)), (38, .long (plW w d way k)), (30, .long (lfW w d k)), (32, .long (lsW w d k)), (36, .long (alW w d way k)), (34, .long (fnW w d way k)), (29, .int (nI k)), (25, .long (sumN (tsW w d way) k)), (27, .long (sumN (tfW w d way) k)), (15, .long (w (5 + 9 * d + 1))), (19, .long (w (5 + 9 * d + 3))), (13, .long (fiW w d)), (0, .ref 143), (1, .int (nI d)), (2, .int way), (3, .long (w (131 + 55 * d))), (5, .long (w ((131 + 55 * d) + 1))), (7, .long (w ((131 + 55 * d) + 12))), (9, .long (w ((131 + 55 * d) + 13))), (11, .long (w ((131 + 55 * d) + 14)))], (S.1, X), (4 - k) * 10 + 5) ∨ a = (359, [(40, .long (tlW w d way k)), (42, .long (tsW w d way k)), (38, .long (plW w d way k)), (30, .long (lfW w d k)), (32, .long (lsW w d k)), (36, .long (alW w d way k)), (34, .long (fnW w d way k)), (29, .int (nI k)), (25, .long (sumN (tsW w d way) k)), (27, .long (sumN (tfW w d way) k)), (15, .long (w (5 + 9 * d + 1))), (19, .long (w (5 + 9 * d + 3))), (13, .long (fiW w d)), (0, .ref 143), (1, .int (nI d)), (2, .int way), (3, .long (w (131 + 55 * d))), (5, .long (w ((131 + 55 * d) + 1))), (7, .long (w ((131 + 55 * d) + 12))), (9, .long (w ((131 + 55 * d) + 13))), (11, .long (w ((131 + 55 * d) + 14)))], (S.1, X), (4 - k) * 10 + 6)))))) ?_ ?_
  · rintro a (rfl | ⟨can, rfl⟩ | ⟨can, rfl⟩ | ⟨can, rfl⟩ | ⟨k, X, can, hk, hX, hc, (rfl | ⟨hk4, (rfl | rfl | rfl | rfl)⟩)⟩)
    · -- 47
      sorry
    · -- 85
      sorry
    · -- 121
      sorry
    · -- 177
      sorry
    · -- 216
      sorry
    · -- 288
      sorry
    · -- 337
      exact ⟨⟨Nat.le_of_ble_eq_true rfl, Nat.le_of_ble_eq_true rfl, Nat.le_of_ble_eq_true rfl⟩, e_mcutV (tlW_eq w d way k) _ ⟨⟨Nat.le_of_ble_eq_true rfl, Nat.le_of_ble_eq_true rfl, Nat.le_of_ble_eq_true rfl⟩, e_mcutV (tsW_eq w d way k) _ ⟨rfl, rfl, (359, [(40, .long (tlW w d way k)), (42, .long (tsW w d way k)), (38, .long (plW w d way k)), (30, .long (lfW w d k)), (32, .long (lsW w d k)), (36, .long (alW w d way k)), (34, .long (fnW w d way k)), (29, .int (nI k)), (25, .long (sumN (tsW w d way) k)), (27, .long (sumN (tfW w d way) k)), (15, .long (w (5 + 9 * d + 1))), (19, .long (w (5 + 9 * d + 3))), (13, .long (fiW w d)), (0, .ref 143), (1, .int (nI d)), (2, .int way), (3, .long (w (131 + 55 * d))), (5, .long (w ((131 + 55 * d) + 1))), (7, .long (w ((131 + 55 * d) + 12))), (9, .long (w ((131 + 55 * d) + 13))), (11, .long (w ((131 + 55 * d) + 14)))], (S.1, X), (4 - k) * 10 + 6), rfl, ⟨Or.inr (Or.inr (Or.inr (Or.inr ⟨k, X, can, hk, hX, hc, Or.inr ⟨hk4, Or.inr (Or.inr (Or.inr rfl))⟩⟩))), show (4 - k) * 10 + 6 < (4 - k) * 10 + 7 by omega⟩, rfl, rfl, rfl, rfl, rfl, rfl, rfl, rfl, rfl, rfl, rfl, rfl, rfl, rfl, rfl, rfl, rfl, rfl, rfl, rfl, rfl, rfl, trivial⟩⟩⟩
    · -- 388
      sorry
    · -- 359
      sorry
  · sorry
