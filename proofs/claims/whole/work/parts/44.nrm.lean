/-! ===== countNormal ===== -/
def cm1 (S : Mem) (q k : Nat) : Int32 := if S.1 (q + 3) 1 < S.1 k 1 then S.1 q 5 + S.1 q 4 else S.1 q 5 + S.1 q 4 + S.1 (q + 3) 0
def cmC (S : Mem) (q k : Nat) : Int32 := if S.1 (q + 1) 1 < S.1 k 1 then cm1 S q k else cm1 S q k - S.1 (q + 1) 0
def nmV (c r l : Int32) : Int32 := if (if c < 0 then 0 else c) * r / 100 < l then (if c < 0 then 0 else c) * r / 100 else l
def nmC (S : Mem) (q k : Nat) : Int32 := nmV (cmC S q k) (S.1 k 2) (S.1 q 4)
set_option maxHeartbeats 1000000 in
theorem e_countNormal {q k : Nat} (hq : isMon q) (hk : isDepN 156 k) (hkq : k + 4 < q) (S : Mem) {Qr : QR} {Qx : QX} (h : ∀ S' : Mem, S'.1 q 6 = cmC S q k → S'.1 q 7 = nmC S q k → (∀ j, j ≠ 6 → j ≠ 7 → S'.1 q j = S.1 q j) → (∀ c, c ≠ q → S'.1 c = S.1 c) → S'.2 = S.2 → Qr none S') : vsp 156 4 (sX4_countNormal 156) [.ref q, .ref k] S Qr Qx := by
  obtain ⟨h0, h1, h2, h3⟩ := hq
  have hkt := hk.1
  have fin : ∀ I : Nat → Nat → Int32, I q 6 = cmC S q k → (∀ c, c ≠ q → I c = S.1 c) → (∀ j, j ≠ 6 → I q j = S.1 q j) → Qr none (u2 I q 7 (nmV (I q 6) (I k 2) (I q 4)), S.2) := by
    intro I i1 i2 i3
    rw [i1, i2 k (by omega), i3 4 (by decide)]
    refine h _ ((u2_j _ _ _ _ (by decide)).trans i1) (u2_s _ _ _ _) (fun j a b => (u2_j _ _ _ _ b).trans (i3 j a)) (fun c hc => (u2_other _ _ _ hc).trans (i2 c hc)) rfl
  have o1 : ∀ (v : Int32) c j, c ≠ q → u2 S.1 q 6 v c j = S.1 c j := fun v c j hc => u2_k _ _ _ _ hc
  have o2 : ∀ (v w : Int32) c j, c ≠ q → u2 (u2 S.1 q 6 v) q 6 w c j = S.1 c j := fun v w c j hc => (u2_k _ _ _ _ hc).trans (u2_k _ _ _ _ hc)
  refine ⟨h0, runG rfl 160 ⟨h0, h0, h0, h0, h2.1, hkt, And.intro (fun a1 => ?_) (fun a1 => ?_)⟩⟩
  · have a1 : u2 S.1 q 6 (S.1 q 5 + S.1 q 4) (q + 3) 1 < u2 S.1 q 6 (S.1 q 5 + S.1 q 4) k 1 := a1
    rw [o1 _ _ _ (by omega), o1 _ _ _ (by omega)] at a1
    have e1 : cm1 S q k = S.1 q 5 + S.1 q 4 := if_pos a1
    refine ⟨h0, h1.1, hkt, And.intro (fun a2 => ?_) (fun a2 => ?_)⟩
    · have a2 : u2 S.1 q 6 (S.1 q 5 + S.1 q 4) (q + 1) 1 < u2 S.1 q 6 (S.1 q 5 + S.1 q 4) k 1 := a2
      rw [o1 _ _ _ (by omega), o1 _ _ _ (by omega)] at a2
      refine ⟨h0, h0, ⟨Nat.le_of_ble_eq_true rfl, Nat.le_of_ble_eq_true rfl, Nat.le_of_ble_eq_true rfl⟩, hkt, by decide, ⟨Nat.le_of_ble_eq_true rfl, Nat.le_of_ble_eq_true rfl, Nat.le_of_ble_eq_true rfl⟩, h0, rfl, ?_⟩
      exact fin (u2 S.1 q 6 (S.1 q 5 + S.1 q 4)) ((u2_s _ _ _ _).trans (by rw [cmC, if_pos a2, e1])) (fun c hc => u2_other _ _ _ hc) (fun j hj => u2_j _ _ _ _ hj)
    · have a2 : ¬ u2 S.1 q 6 (S.1 q 5 + S.1 q 4) (q + 1) 1 < u2 S.1 q 6 (S.1 q 5 + S.1 q 4) k 1 := a2
      rw [o1 _ _ _ (by omega), o1 _ _ _ (by omega)] at a2
      refine ⟨h0, h0, h1.1, h0, h0, h0, ⟨Nat.le_of_ble_eq_true rfl, Nat.le_of_ble_eq_true rfl, Nat.le_of_ble_eq_true rfl⟩, hkt, by decide, ⟨Nat.le_of_ble_eq_true rfl, Nat.le_of_ble_eq_true rfl, Nat.le_of_ble_eq_true rfl⟩, h0, rfl, ?_⟩
      refine fin (u2 (u2 S.1 q 6 (S.1 q 5 + S.1 q 4)) q 6 (u2 S.1 q 6 (S.1 q 5 + S.1 q 4) q 6 - u2 S.1 q 6 (S.1 q 5 + S.1 q 4) (q + 1) 0)) ((u2_s _ _ _ _).trans ?_) (fun c hc => (u2_other _ _ _ hc).trans (u2_other _ _ _ hc)) (fun j hj => (u2_j _ _ _ _ hj).trans (u2_j _ _ _ _ hj))
      rw [u2_s, o1 _ _ _ (by omega), cmC, if_neg a2, e1]
  · have a1 : ¬ u2 S.1 q 6 (S.1 q 5 + S.1 q 4) (q + 3) 1 < u2 S.1 q 6 (S.1 q 5 + S.1 q 4) k 1 := a1
    rw [o1 _ _ _ (by omega), o1 _ _ _ (by omega)] at a1
    have e1 : cm1 S q k = S.1 q 5 + S.1 q 4 + S.1 (q + 3) 0 := if_neg a1
    refine ⟨h0, h0, h2.1, h0, h0, h1.1, hkt, ?_⟩
    have ev : u2 S.1 q 6 (S.1 q 5 + S.1 q 4) q 6 + u2 S.1 q 6 (S.1 q 5 + S.1 q 4) (q + 3) 0 = cm1 S q k := by rw [u2_s, o1 _ _ _ (by omega), e1]
    refine And.intro (fun a2 => ?_) (fun a2 => ?_)
    · have a2 : u2 (u2 S.1 q 6 (S.1 q 5 + S.1 q 4)) q 6 (u2 S.1 q 6 (S.1 q 5 + S.1 q 4) q 6 + u2 S.1 q 6 (S.1 q 5 + S.1 q 4) (q + 3) 0) (q + 1) 1 < u2 (u2 S.1 q 6 (S.1 q 5 + S.1 q 4)) q 6 (u2 S.1 q 6 (S.1 q 5 + S.1 q 4) q 6 + u2 S.1 q 6 (S.1 q 5 + S.1 q 4) (q + 3) 0) k 1 := a2
      rw [o2 _ _ _ _ (by omega), o2 _ _ _ _ (by omega)] at a2
      refine ⟨h0, h0, ⟨Nat.le_of_ble_eq_true rfl, Nat.le_of_ble_eq_true rfl, Nat.le_of_ble_eq_true rfl⟩, hkt, by decide, ⟨Nat.le_of_ble_eq_true rfl, Nat.le_of_ble_eq_true rfl, Nat.le_of_ble_eq_true rfl⟩, h0, rfl, ?_⟩
      exact fin (u2 (u2 S.1 q 6 (S.1 q 5 + S.1 q 4)) q 6 (u2 S.1 q 6 (S.1 q 5 + S.1 q 4) q 6 + u2 S.1 q 6 (S.1 q 5 + S.1 q 4) (q + 3) 0)) ((u2_s _ _ _ _).trans (by rw [ev, cmC, if_pos a2])) (fun c hc => (u2_other _ _ _ hc).trans (u2_other _ _ _ hc)) (fun j hj => (u2_j _ _ _ _ hj).trans (u2_j _ _ _ _ hj))
    · have a2 : ¬ u2 (u2 S.1 q 6 (S.1 q 5 + S.1 q 4)) q 6 (u2 S.1 q 6 (S.1 q 5 + S.1 q 4) q 6 + u2 S.1 q 6 (S.1 q 5 + S.1 q 4) (q + 3) 0) (q + 1) 1 < u2 (u2 S.1 q 6 (S.1 q 5 + S.1 q 4)) q 6 (u2 S.1 q 6 (S.1 q 5 + S.1 q 4) q 6 + u2 S.1 q 6 (S.1 q 5 + S.1 q 4) (q + 3) 0) k 1 := a2
      rw [o2 _ _ _ _ (by omega), o2 _ _ _ _ (by omega)] at a2
      refine ⟨h0, h0, h1.1, h0, h0, h0, ⟨Nat.le_of_ble_eq_true rfl, Nat.le_of_ble_eq_true rfl, Nat.le_of_ble_eq_true rfl⟩, hkt, by decide, ⟨Nat.le_of_ble_eq_true rfl, Nat.le_of_ble_eq_true rfl, Nat.le_of_ble_eq_true rfl⟩, h0, rfl, ?_⟩
      refine fin (u2 (u2 (u2 S.1 q 6 (S.1 q 5 + S.1 q 4)) q 6 (u2 S.1 q 6 (S.1 q 5 + S.1 q 4) q 6 + u2 S.1 q 6 (S.1 q 5 + S.1 q 4) (q + 3) 0)) q 6 (u2 (u2 S.1 q 6 (S.1 q 5 + S.1 q 4)) q 6 (u2 S.1 q 6 (S.1 q 5 + S.1 q 4) q 6 + u2 S.1 q 6 (S.1 q 5 + S.1 q 4) (q + 3) 0) q 6 - u2 (u2 S.1 q 6 (S.1 q 5 + S.1 q 4)) q 6 (u2 S.1 q 6 (S.1 q 5 + S.1 q 4) q 6 + u2 S.1 q 6 (S.1 q 5 + S.1 q 4) (q + 3) 0) (q + 1) 0)) ((u2_s _ _ _ _).trans ?_) (fun c hc => (u2_other _ _ _ hc).trans ((u2_other _ _ _ hc).trans (u2_other _ _ _ hc))) (fun j hj => (u2_j _ _ _ _ hj).trans ((u2_j _ _ _ _ hj).trans (u2_j _ _ _ _ hj)))
      rw [ev, u2_s, o2 _ _ _ _ (by omega), cmC, if_neg a2]
