/-! ===== departments: save, load ===== -/
theorem isLot_of {k : Nat} (h : isLotN 156 k) : isLot k := h
theorem isMon_of {q : Nat} (h : isMonN 156 q) : isMon q := h
def depL (S : Mem) (k : Nat) : List Int64 := (S.1 k 0).toInt64 :: (S.1 k 1).toInt64 :: (S.1 k 2).toInt64 :: (S.1 k 3).toInt64 :: (S.1 k 4).toInt64 :: (arrL (S.2 (k + 1)) 2 ++ ((S.1 k 6).toInt64 :: (S.1 k 7).toInt64 :: (S.1 k 8).toInt64 :: (S.1 k 9).toInt64 :: (S.1 k 10).toInt64 :: (arrL (S.2 (k + 2)) 4 ++ (lotL S (k + 3) ++ monL S (k + 5)))))
theorem depL_len (S : Mem) (k : Nat) : (depL S k).length = 71 := by simp [depL, lotL_len, arrL_len, monL_len]
set_option maxHeartbeats 1000000 in
theorem e_depSave {k r a : Nat} (hk : isDepN 156 k) (hr : isRow r) (hkr : k + 16 < r) (S : Mem) (l : List Int64) (hl : a + l.length + 71 ≤ 716) {Qr : QR} {Qx : QX} (h : Qr none (PW S r a (l ++ depL S k))) : vsp 156 0 (sX0_save 156) [.ref k, .ref r] (PW S r a l) Qr Qx := by
  obtain ⟨h0, h1, h2, h3, h4⟩ := hk
  refine ⟨h0, runG rfl 120 ⟨h0, ⟨Nat.le_of_ble_eq_true rfl, Nat.le_of_ble_eq_true rfl, Nat.le_of_ble_eq_true rfl⟩, e_put hr S _ _ (by omega) ⟨h0, ⟨Nat.le_of_ble_eq_true rfl, Nat.le_of_ble_eq_true rfl, Nat.le_of_ble_eq_true rfl⟩, e_put hr S _ _ (by simp only [List.length_append, List.length_cons, List.length_nil, arrL_len, lotL_len]; omega) ⟨h0, ⟨Nat.le_of_ble_eq_true rfl, Nat.le_of_ble_eq_true rfl, Nat.le_of_ble_eq_true rfl⟩, e_put hr S _ _ (by simp only [List.length_append, List.length_cons, List.length_nil, arrL_len, lotL_len]; omega) ⟨h0, ⟨Nat.le_of_ble_eq_true rfl, Nat.le_of_ble_eq_true rfl, Nat.le_of_ble_eq_true rfl⟩, e_put hr S _ _ (by simp only [List.length_append, List.length_cons, List.length_nil, arrL_len, lotL_len]; omega) ⟨h0, ⟨Nat.le_of_ble_eq_true rfl, Nat.le_of_ble_eq_true rfl, Nat.le_of_ble_eq_true rfl⟩, e_put hr S _ _ (by simp only [List.length_append, List.length_cons, List.length_nil, arrL_len, lotL_len]; omega) ?_⟩⟩⟩⟩⟩⟩
  refine ⟨h0, ⟨Nat.le_of_ble_eq_true rfl, Nat.le_of_ble_eq_true rfl, Nat.le_of_ble_eq_true rfl⟩, e_putAll hr h1 (by omega) (by decide) S _ (by simp only [List.length_append, List.length_cons, List.length_nil, arrL_len, lotL_len]; omega) ?_⟩
  refine ⟨h0, ⟨Nat.le_of_ble_eq_true rfl, Nat.le_of_ble_eq_true rfl, Nat.le_of_ble_eq_true rfl⟩, e_put hr S _ _ (by simp only [List.length_append, List.length_cons, List.length_nil, arrL_len, lotL_len]; omega) ⟨h0, ⟨Nat.le_of_ble_eq_true rfl, Nat.le_of_ble_eq_true rfl, Nat.le_of_ble_eq_true rfl⟩, e_put hr S _ _ (by simp only [List.length_append, List.length_cons, List.length_nil, arrL_len, lotL_len]; omega) ⟨h0, ⟨Nat.le_of_ble_eq_true rfl, Nat.le_of_ble_eq_true rfl, Nat.le_of_ble_eq_true rfl⟩, e_put hr S _ _ (by simp only [List.length_append, List.length_cons, List.length_nil, arrL_len, lotL_len]; omega) ⟨h0, ⟨Nat.le_of_ble_eq_true rfl, Nat.le_of_ble_eq_true rfl, Nat.le_of_ble_eq_true rfl⟩, e_put hr S _ _ (by simp only [List.length_append, List.length_cons, List.length_nil, arrL_len, lotL_len]; omega) ⟨h0, ⟨Nat.le_of_ble_eq_true rfl, Nat.le_of_ble_eq_true rfl, Nat.le_of_ble_eq_true rfl⟩, e_put hr S _ _ (by simp only [List.length_append, List.length_cons, List.length_nil, arrL_len, lotL_len]; omega) ?_⟩⟩⟩⟩⟩
  refine ⟨h0, ⟨Nat.le_of_ble_eq_true rfl, Nat.le_of_ble_eq_true rfl, Nat.le_of_ble_eq_true rfl⟩, e_putAll hr h2 (by omega) (by decide) S _ (by simp only [List.length_append, List.length_cons, List.length_nil, arrL_len, lotL_len]; omega) ⟨h0, ⟨Nat.le_of_ble_eq_true rfl, Nat.le_of_ble_eq_true rfl, Nat.le_of_ble_eq_true rfl⟩, e_lotSave h3 hr (by omega) (by omega) (by omega) S _ (by simp only [List.length_append, List.length_cons, List.length_nil, arrL_len, lotL_len]; omega) ⟨h0, ⟨Nat.le_of_ble_eq_true rfl, Nat.le_of_ble_eq_true rfl, Nat.le_of_ble_eq_true rfl⟩, e_monSave h4 hr (by omega) S _ (by simp only [List.length_append, List.length_cons, List.length_nil, arrL_len, lotL_len]; omega) ⟨rfl, ?_⟩⟩⟩⟩
  have e1 : k ≠ r := by omega
  simp only [PW_I _ e1]
  simp only [depL, List.append_assoc, List.cons_append, List.nil_append] at h ⊢
  exact h
theorem clampI_nI {n m : Nat} (h : n ≤ m) (hm : m < 2 ^ 31) : clampI (nI n) (nI m) = nI n := by
  have h1 : ¬ nI n < 0 := fun x => absurd ((nI_ltI (a := n) (b := 0) (by omega) (by decide)).mp x) (by omega)
  have h2 : ¬ nI m < nI n := fun x => absurd ((nI_ltI hm (by omega)).mp x) (by omega)
  unfold clampI
  rw [if_neg h1, if_neg h2]
theorem e_takeCountO {k a n m : Nat} (hk : isRow k) (S : Mem) (ha : S.1 k 1 = nI a) (hl : a < 716) (hn : (S.2 (k + 1) a).toInt32 = nI n) (hnm : n ≤ m) (hm : m < 2 ^ 31) {Qr : QR} {Qx : QX} (h : ∀ S' : Mem, S'.1 k 1 = nI (a + 1) → (∀ c, c ≠ k → S'.1 c = S.1 c) → S'.2 = S.2 → Qr (some (.int (nI n))) S') : vsp 156 7 (sX7_takeCount 156) [.ref k, .int (nI m)] S Qr Qx :=
  e_takeCount hk S (nI m) ha hl (by rw [hn, clampI_nI hnm hm]; exact h _ (u2_s _ _ _ _) (fun c hc => u2_other _ _ _ hc) rfl)
/-- n ints taken, one after the other, into places p .. of k -/
def LdI (S T : Mem) (k r a p n : Nat) : Prop := T.1 r 1 = nI (a + n) ∧ T.2 = S.2 ∧ (∀ c, c ≠ k → c ≠ r → T.1 c = S.1 c) ∧ (∀ i, i < n → T.1 k (p + i) = (S.2 (r + 1) (a + i)).toInt32) ∧ ∀ j, j < p ∨ p + n ≤ j → T.1 k j = S.1 k j
theorem LdI.zero {S : Mem} {r a : Nat} (k p : Nat) (h : S.1 r 1 = nI a) : LdI S S k r a p 0 := ⟨h, rfl, fun _ _ _ => rfl, fun i hi => absurd hi (Nat.not_lt_zero i), fun _ _ => rfl⟩
theorem LdI.step {S T U : Mem} {k r a p n : Nat} (h : LdI S T k r a p n) (hkr : k ≠ r) (u1 : U.1 r 1 = nI (a + n + 1)) (u2' : ∀ c, c ≠ r → U.1 c = T.1 c) (u3 : U.2 = T.2) : LdI S (u2 U.1 k (p + n) (T.2 (r + 1) (a + n)).toInt32, U.2) k r a p (n + 1) := by
  obtain ⟨h1, h2, h3, h4, h5⟩ := h
  refine ⟨(u2_k _ _ _ _ (Ne.symm hkr)).trans u1, u3.trans h2, fun c hc hr => ?_, fun i hi => ?_, fun j hj => ?_⟩
  · exact (u2_other _ _ _ hc).trans ((u2' c hr).trans (h3 c hc hr))
  · by_cases e : i = n
    · subst e
      exact (u2_s _ _ _ _).trans (by rw [h2])
    · exact (u2_j _ _ _ _ (by omega)).trans ((congrFun (u2' k hkr) _).trans (h4 i (by omega)))
  · exact (u2_j _ _ _ _ (by omega)).trans ((congrFun (u2' k hkr) _).trans (h5 j (by omega)))
theorem LdI.stepV {S T U : Mem} {k r a p n : Nat} {v : Int32} (h : LdI S T k r a p n) (hkr : k ≠ r) (u1 : U.1 r 1 = nI (a + n + 1)) (u2' : ∀ c, c ≠ r → U.1 c = T.1 c) (u3 : U.2 = T.2) (hv : (S.2 (r + 1) (a + n)).toInt32 = v) : LdI S (u2 U.1 k (p + n) v, U.2) k r a p (n + 1) := by
  have h9 := h.step hkr u1 u2' u3
  rw [h.2.1, hv] at h9
  exact h9
def lotC (X : Nat → Int64) (S' : Mem) (k a : Nat) : Prop := S'.1 k 0 = (X a).toInt32 ∧ S'.1 k 1 = (X (a + 1)).toInt32 ∧ ∀ j, j < 4 → S'.2 (k + 1) j = X (a + 2 + j)
/-- a month as the cells X have it, from a on -/
def monC (X : Nat → Int64) (S' : Mem) (q a : Nat) : Prop :=
  lotC X S' (q + 1) a ∧ lotC X S' (q + 3) (a + 6) ∧ (∀ j, j < 4 → S'.2 (q + 5) j = X (a + 12 + j)) ∧ (∀ j, j < 5 → S'.1 q (3 + j) = (X (a + 16 + j)).toInt32) ∧ (∀ i, i < 6 → ∀ j, j < 4 → S'.2 (q + 6 + i) j = X (a + 21 + 4 * i + j)) ∧ ∀ j, j < 4 → S'.2 q (14 + j) = X (a + 45 + j)
theorem monC_of {S S' : Mem} {q r a : Nat} (h : monT S S' q r a) : monC (S.2 (r + 1)) S' q a := by
  obtain ⟨⟨a1, a2, a3⟩, ⟨b1, b2, b3⟩, c1, ⟨d0, d1, d2, d3, d4⟩, e, ⟨f0, f1, f2, f3⟩, -, -, -⟩ := h
  refine ⟨⟨a1, a2, a3⟩, ⟨b1, b2, b3⟩, c1, fun j hj => ?_, e, fun j hj => ?_⟩
  · rcases (show j = 0 ∨ j = 1 ∨ j = 2 ∨ j = 3 ∨ j = 4 by omega) with rfl | rfl | rfl | rfl | rfl
    · exact d0
    · exact d1
    · exact d2
    · exact d3
    · exact d4
  · rcases (show j = 0 ∨ j = 1 ∨ j = 2 ∨ j = 3 by omega) with rfl | rfl | rfl | rfl
    · exact f0
    · exact f1
    · exact f2
    · exact f3
theorem lotC.move {X : Nat → Int64} {S T : Mem} {k a : Nat} (h : lotC X S k a) (e : ∀ c, k ≤ c → c ≤ k + 1 → T.1 c = S.1 c ∧ T.2 c = S.2 c) : lotC X T k a := by
  obtain ⟨h1, h2, h3⟩ := h
  refine ⟨?_, ?_, fun j hj => ?_⟩
  · rw [(e k (by omega) (by omega)).1]; exact h1
  · rw [(e k (by omega) (by omega)).1]; exact h2
  · rw [(e (k + 1) (by omega) (by omega)).2]; exact h3 j hj
theorem monC.move {X : Nat → Int64} {S T : Mem} {q a : Nat} (h : monC X S q a) (e : ∀ c, q ≤ c → c ≤ q + 11 → T.1 c = S.1 c ∧ T.2 c = S.2 c) : monC X T q a := by
  obtain ⟨h1, h2, h3, h4, h5, h6⟩ := h
  refine ⟨h1.move (fun c x y => e c (by omega) (by omega)), h2.move (fun c x y => e c (by omega) (by omega)), fun j hj => ?_, fun j hj => ?_, fun i hi j hj => ?_, fun j hj => ?_⟩
  · rw [(e _ (by omega) (by omega)).2]; exact h3 j hj
  · rw [(e _ (by omega) (by omega)).1]; exact h4 j hj
  · rw [(e _ (by omega) (by omega)).2]; exact h5 i hi j hj
  · rw [(e _ (by omega) (by omega)).2]; exact h6 j hj
/-- a department as the cells X have it, from a on -/
def depC (X : Nat → Int64) (S' : Mem) (k a : Nat) : Prop :=
  (∀ j, j < 5 → S'.1 k j = (X (a + j)).toInt32) ∧ (∀ j, j < 2 → S'.2 (k + 1) j = X (a + 5 + j)) ∧ (∀ j, j < 5 → S'.1 k (6 + j) = (X (a + 7 + j)).toInt32) ∧ (∀ j, j < 4 → S'.2 (k + 2) j = X (a + 12 + j)) ∧ lotC X S' (k + 3) (a + 16) ∧ monC X S' (k + 5) (a + 22)
theorem depC.move {X : Nat → Int64} {S T : Mem} {k a : Nat} (h : depC X S k a) (e : ∀ c, k ≤ c → c ≤ k + 16 → T.1 c = S.1 c ∧ T.2 c = S.2 c) : depC X T k a := by
  obtain ⟨h1, h2, h3, h4, h5, h6⟩ := h
  refine ⟨fun j hj => ?_, fun j hj => ?_, fun j hj => ?_, fun j hj => ?_, h5.move (fun c x y => e c (by omega) (by omega)), h6.move (fun c x y => e c (by omega) (by omega))⟩
  · rw [(e _ (by omega) (by omega)).1]; exact h1 j hj
  · rw [(e _ (by omega) (by omega)).2]; exact h2 j hj
  · rw [(e _ (by omega) (by omega)).1]; exact h3 j hj
  · rw [(e _ (by omega) (by omega)).2]; exact h4 j hj
set_option maxHeartbeats 2000000 in
theorem e_depLoad {k r a n : Nat} (hk : isDepN 156 k) (hr : isRow r) (hkr : k + 16 < r) (S : Mem) (ha : S.1 r 1 = nI a) (hl : a + 71 ≤ 716) (hn : (S.2 (r + 1) (a + 4)).toInt32 = nI n) (hn2 : n ≤ 2) {Qr : QR} {Qx : QX} (h : ∀ S', depC (S.2 (r + 1)) S' k a → S'.1 r 1 = nI (a + 71) → (∀ c, c < k ∨ k + 16 < c → c ≠ r → S'.1 c = S.1 c) → (∀ c, c < k ∨ k + 16 < c → S'.2 c = S.2 c) → Qr none S') : vsp 156 0 (sX0_load 156) [.ref k, .ref r] S Qr Qx := by
  obtain ⟨h0, h1, h2, h3, h4⟩ := hk
  have nr : k ≠ r := by omega
  have L0 := LdI.zero k 0 ha
  refine ⟨h0, runG rfl 120 ⟨⟨Nat.le_of_ble_eq_true rfl, Nat.le_of_ble_eq_true rfl, Nat.le_of_ble_eq_true rfl⟩, e_takeIntO (a := a) hr S ha (by omega) (fun T1 b1 b2 b3 => ⟨h0, ?_⟩)⟩⟩
  have L1 := L0.step nr b1 b2 b3
  refine ⟨⟨Nat.le_of_ble_eq_true rfl, Nat.le_of_ble_eq_true rfl, Nat.le_of_ble_eq_true rfl⟩, e_takeIntO (a := a + 1) hr _ L1.1 (by omega) (fun T2 b1 b2 b3 => ⟨h0, ?_⟩)⟩
  have L2 := L1.step nr b1 b2 b3
  refine ⟨⟨Nat.le_of_ble_eq_true rfl, Nat.le_of_ble_eq_true rfl, Nat.le_of_ble_eq_true rfl⟩, e_takeIntO (a := a + 2) hr _ L2.1 (by omega) (fun T3 b1 b2 b3 => ⟨h0, ?_⟩)⟩
  have L3 := L2.step nr b1 b2 b3
  refine ⟨⟨Nat.le_of_ble_eq_true rfl, Nat.le_of_ble_eq_true rfl, Nat.le_of_ble_eq_true rfl⟩, e_takeIntO (a := a + 3) hr _ L3.1 (by omega) (fun T4 b1 b2 b3 => ⟨h0, ?_⟩)⟩
  have L4 := L3.step nr b1 b2 b3
  refine ⟨⟨Nat.le_of_ble_eq_true rfl, Nat.le_of_ble_eq_true rfl, Nat.le_of_ble_eq_true rfl⟩, e_takeCountO (a := a + 4) (n := n) (m := 2) hr _ L4.1 (by omega) ((congrArg (fun f => (f (r + 1) (a + 4)).toInt32) L4.2.1).trans hn) hn2 (by decide) (fun T5 b1 b2 b3 => ⟨h0, h0, ?_⟩)⟩
  have L5 := L4.stepV nr b1 b2 b3 hn
  clear L0 L1 L2 L3 L4
  refine ⟨⟨Nat.le_of_ble_eq_true rfl, Nat.le_of_ble_eq_true rfl, Nat.le_of_ble_eq_true rfl⟩, e_takeAllO (a := a + 5) hr h1 (by omega) (by decide) _ L5.1 (by omega) (fun A a1 a2 a3 a4 => ?_)⟩
  obtain ⟨p1, p2, p3, p4, p5⟩ := L5
  have M0 := LdI.zero k 6 a1
  refine ⟨⟨Nat.le_of_ble_eq_true rfl, Nat.le_of_ble_eq_true rfl, Nat.le_of_ble_eq_true rfl⟩, e_takeIntO (a := a + 7) hr _ a1 (by omega) (fun U1 b1 b2 b3 => ⟨h0, ?_⟩)⟩
  have M1 := M0.step nr b1 b2 b3
  refine ⟨⟨Nat.le_of_ble_eq_true rfl, Nat.le_of_ble_eq_true rfl, Nat.le_of_ble_eq_true rfl⟩, e_takeIntO (a := a + 8) hr _ M1.1 (by omega) (fun U2 b1 b2 b3 => ⟨h0, ?_⟩)⟩
  have M2 := M1.step nr b1 b2 b3
  refine ⟨⟨Nat.le_of_ble_eq_true rfl, Nat.le_of_ble_eq_true rfl, Nat.le_of_ble_eq_true rfl⟩, e_takeIntO (a := a + 9) hr _ M2.1 (by omega) (fun U3 b1 b2 b3 => ⟨h0, ?_⟩)⟩
  have M3 := M2.step nr b1 b2 b3
  refine ⟨⟨Nat.le_of_ble_eq_true rfl, Nat.le_of_ble_eq_true rfl, Nat.le_of_ble_eq_true rfl⟩, e_takeIntO (a := a + 10) hr _ M3.1 (by omega) (fun U4 b1 b2 b3 => ⟨h0, ?_⟩)⟩
  have M4 := M3.step nr b1 b2 b3
  refine ⟨⟨Nat.le_of_ble_eq_true rfl, Nat.le_of_ble_eq_true rfl, Nat.le_of_ble_eq_true rfl⟩, e_takeIntO (a := a + 11) hr _ M4.1 (by omega) (fun U5 b1 b2 b3 => ⟨h0, h0, ?_⟩)⟩
  have M5 := M4.step nr b1 b2 b3
  clear M0 M1 M2 M3 M4
  refine ⟨⟨Nat.le_of_ble_eq_true rfl, Nat.le_of_ble_eq_true rfl, Nat.le_of_ble_eq_true rfl⟩, e_takeAllO (a := a + 12) hr h2 (by omega) (by decide) _ M5.1 (by omega) (fun B c1 c2 c3 c4 => ?_)⟩
  obtain ⟨q1, q2, q3, q4, q5⟩ := M5
  refine ⟨h0, ⟨Nat.le_of_ble_eq_true rfl, Nat.le_of_ble_eq_true rfl, Nat.le_of_ble_eq_true rfl⟩, e_lotLoad (a := a + 16) h3 hr (by omega) (by omega) B c1 (by omega) (fun D d => ?_)⟩
  obtain ⟨d1, d2, d3, d4, d5, d6⟩ := d
  refine ⟨h0, ⟨Nat.le_of_ble_eq_true rfl, Nat.le_of_ble_eq_true rfl, Nat.le_of_ble_eq_true rfl⟩, e_monLoad (a := a + 22) h4 hr (by omega) D d4 (by omega) (fun S' m => ⟨rfl, ?_⟩)⟩
  have mc := monC_of m
  obtain ⟨-, -, -, -, -, -, m1, m2, m3⟩ := m
  have g1 : A.2 (r + 1) = S.2 (r + 1) := (a4 _ (by omega)).trans (congrFun p2 _)
  have g2 : B.2 (r + 1) = S.2 (r + 1) := (c4 _ (by omega)).trans ((congrFun q2 _).trans g1)
  have g3 : D.2 (r + 1) = S.2 (r + 1) := (d6 _ (by omega)).trans g2
  have hS : S'.1 k = B.1 k := (m2 k (by omega) (by omega)).trans (d5 k (by omega) (by omega))
  have hB : ∀ j, B.1 k j = u2 U5.1 k 10 _ k j := fun j => congrFun (c2 k nr) j
  have hA : ∀ j, A.1 k j = u2 T5.1 k 4 _ k j := fun j => congrFun (a2 k nr) j
  rw [g3] at mc
  refine h S' ⟨fun j hj => ?_, fun j hj => ?_, fun j hj => ?_, fun j hj => ?_, ⟨?_, ?_, fun j hj => ?_⟩, mc⟩ m1 (fun c hc hcr => ?_) (fun c hc => ?_)
  · rw [hS, hB]
    refine (q5 j (by omega)).trans ((hA j).trans ?_)
    have := p4 j hj
    rw [Nat.zero_add j] at this
    exact this
  · rw [m3 _ (by omega), d6 _ (by omega), c4 _ (by omega)]
    refine (congrFun (congrFun q2 _) _).trans ((a3 j hj).trans ?_)
    exact congrFun (congrFun p2 _) _
  · rw [hS, hB]
    refine (q4 j hj).trans ?_
    rw [g1]
  · rw [m3 _ (by omega), d6 _ (by omega)]
    refine (c3 j hj).trans ?_
    exact (congrFun (congrFun q2 _) _).trans (by rw [g1])
  · rw [m2 _ (by omega) (by omega), d1, g2]
  · rw [m2 _ (by omega) (by omega), d2, g2]
  · rw [m3 _ (by omega), d3 j hj, g2]
  · rw [m2 _ (by omega) hcr, d5 _ (by omega) hcr, c2 _ hcr]
    refine (q3 c (by omega) hcr).trans ((a2 c hcr).trans (p3 c (by omega) hcr))
  · rw [m3 _ (by omega), d6 _ (by omega), c4 _ (by omega)]
    refine (congrFun q2 _).trans ((a4 c (by omega)).trans (congrFun p2 _))
