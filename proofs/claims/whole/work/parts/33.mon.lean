/-! ===== months and departments: clear, save, load ===== -/
theorem tkr_k {X : Nat → Nat → Int64} {k a kt n c i : Nat} (h : c ≠ kt) : tkr X k a kt n c i = X c i := by simp [tkr, h]
theorem tkr_i {X : Nat → Nat → Int64} {k a kt n i : Nat} (h : i < n) : tkr X k a kt n kt i = X (k + 1) (a + i) := by simp [tkr, h]
theorem zr_k {X : Nat → Nat → Int64} {k n c i : Nat} (h : c ≠ k) : zr X k n c i = X c i := by simp [zr, h]
theorem zr_i {X : Nat → Nat → Int64} {k n i : Nat} (h : i < n) : zr X k n k i = 0 := by simp [zr, h]
theorem cpr_k {X : Nat → Nat → Int64} {kf kt n c i : Nat} (h : c ≠ kt) : cpr X kf kt n c i = X c i := by simp [cpr, h]
theorem cpr_i {X : Nat → Nat → Int64} {kf kt n i : Nat} (h : i < n) : cpr X kf kt n kt i = X kf i := by simp [cpr, h]
theorem lotL_len (S : Mem) (k : Nat) : (lotL S k).length = 6 := by simp [lotL, arrL]
def isMon (q : Nat) : Prop := tyN 156 q = (0, 4, 0, 0) ∧ isLot (q + 1) ∧ isLot (q + 3) ∧ ∀ j, j < 7 → tyN 156 (q + 5 + j) = (1, 4, 0, 0)
def monL (S : Mem) (q : Nat) : List Int64 := lotL S (q + 1) ++ (lotL S (q + 3) ++ (arrL (S.2 (q + 5)) 4 ++ ((S.1 q 3).toInt64 :: (S.1 q 4).toInt64 :: (S.1 q 5).toInt64 :: (S.1 q 6).toInt64 :: (S.1 q 7).toInt64 :: (arrL (S.2 (q + 6)) 4 ++ (arrL (S.2 (q + 7)) 4 ++ (arrL (S.2 (q + 8)) 4 ++ (arrL (S.2 (q + 9)) 4 ++ (arrL (S.2 (q + 10)) 4 ++ (arrL (S.2 (q + 11)) 4 ++ [S.2 q 14, S.2 q 15, S.2 q 16, S.2 q 17])))))))))
theorem monL_len (S : Mem) (q : Nat) : (monL S q).length = 49 := by simp [monL, lotL_len, arrL_len]
set_option maxHeartbeats 1000000 in
theorem e_monSave {q r a : Nat} (hq : isMon q) (hr : isRow r) (hqr : q + 11 < r) (S : Mem) (l : List Int64) (hl : a + l.length + 49 ≤ 716) {Qr : QR} {Qx : QX} (h : Qr none (PW S r a (l ++ monL S q))) : vsp 156 4 (sX4_save 156) [.ref q, .ref r] (PW S r a l) Qr Qx := by
  obtain ⟨h0, h1, h2, h3⟩ := hq
  refine ⟨h0, runG rfl 120 ⟨h0, ⟨Nat.le_of_ble_eq_true rfl, Nat.le_of_ble_eq_true rfl, Nat.le_of_ble_eq_true rfl⟩, e_lotSave h1 hr (by omega) (by omega) (by omega) S _ (by omega) ⟨h0, ⟨Nat.le_of_ble_eq_true rfl, Nat.le_of_ble_eq_true rfl, Nat.le_of_ble_eq_true rfl⟩, e_lotSave h2 hr (by omega) (by omega) (by omega) S _ (by simp only [List.length_append, List.length_cons, List.length_nil, arrL_len, lotL_len]; omega) ?_⟩⟩⟩
  refine ⟨h0, ⟨Nat.le_of_ble_eq_true rfl, Nat.le_of_ble_eq_true rfl, Nat.le_of_ble_eq_true rfl⟩, e_putAll hr (h3 0 (by decide)) (by omega) (by decide) S _ (by simp only [List.length_append, List.length_cons, List.length_nil, arrL_len, lotL_len]; omega) ?_⟩
  refine ⟨h0, ⟨Nat.le_of_ble_eq_true rfl, Nat.le_of_ble_eq_true rfl, Nat.le_of_ble_eq_true rfl⟩, e_put hr S _ _ (by simp only [List.length_append, List.length_cons, List.length_nil, arrL_len, lotL_len]; omega) ⟨h0, ⟨Nat.le_of_ble_eq_true rfl, Nat.le_of_ble_eq_true rfl, Nat.le_of_ble_eq_true rfl⟩, e_put hr S _ _ (by simp only [List.length_append, List.length_cons, List.length_nil, arrL_len, lotL_len]; omega) ⟨h0, ⟨Nat.le_of_ble_eq_true rfl, Nat.le_of_ble_eq_true rfl, Nat.le_of_ble_eq_true rfl⟩, e_put hr S _ _ (by simp only [List.length_append, List.length_cons, List.length_nil, arrL_len, lotL_len]; omega) ⟨h0, ⟨Nat.le_of_ble_eq_true rfl, Nat.le_of_ble_eq_true rfl, Nat.le_of_ble_eq_true rfl⟩, e_put hr S _ _ (by simp only [List.length_append, List.length_cons, List.length_nil, arrL_len, lotL_len]; omega) ⟨h0, ⟨Nat.le_of_ble_eq_true rfl, Nat.le_of_ble_eq_true rfl, Nat.le_of_ble_eq_true rfl⟩, e_put hr S _ _ (by simp only [List.length_append, List.length_cons, List.length_nil, arrL_len, lotL_len]; omega) ?_⟩⟩⟩⟩⟩
  refine ⟨h0, ⟨Nat.le_of_ble_eq_true rfl, Nat.le_of_ble_eq_true rfl, Nat.le_of_ble_eq_true rfl⟩, e_putAll hr (h3 1 (by decide)) (by omega) (by decide) S _ (by simp only [List.length_append, List.length_cons, List.length_nil, arrL_len, lotL_len]; omega) ⟨h0, ⟨Nat.le_of_ble_eq_true rfl, Nat.le_of_ble_eq_true rfl, Nat.le_of_ble_eq_true rfl⟩, e_putAll hr (h3 2 (by decide)) (by omega) (by decide) S _ (by simp only [List.length_append, List.length_cons, List.length_nil, arrL_len, lotL_len]; omega) ⟨h0, ⟨Nat.le_of_ble_eq_true rfl, Nat.le_of_ble_eq_true rfl, Nat.le_of_ble_eq_true rfl⟩, e_putAll hr (h3 3 (by decide)) (by omega) (by decide) S _ (by simp only [List.length_append, List.length_cons, List.length_nil, arrL_len, lotL_len]; omega) ?_⟩⟩⟩
  refine ⟨h0, ⟨Nat.le_of_ble_eq_true rfl, Nat.le_of_ble_eq_true rfl, Nat.le_of_ble_eq_true rfl⟩, e_putAll hr (h3 4 (by decide)) (by omega) (by decide) S _ (by simp only [List.length_append, List.length_cons, List.length_nil, arrL_len, lotL_len]; omega) ⟨h0, ⟨Nat.le_of_ble_eq_true rfl, Nat.le_of_ble_eq_true rfl, Nat.le_of_ble_eq_true rfl⟩, e_putAll hr (h3 5 (by decide)) (by omega) (by decide) S _ (by simp only [List.length_append, List.length_cons, List.length_nil, arrL_len, lotL_len]; omega) ⟨h0, ⟨Nat.le_of_ble_eq_true rfl, Nat.le_of_ble_eq_true rfl, Nat.le_of_ble_eq_true rfl⟩, e_putAll hr (h3 6 (by decide)) (by omega) (by decide) S _ (by simp only [List.length_append, List.length_cons, List.length_nil, arrL_len, lotL_len]; omega) ?_⟩⟩⟩
  refine ⟨h0, ⟨Nat.le_of_ble_eq_true rfl, Nat.le_of_ble_eq_true rfl, Nat.le_of_ble_eq_true rfl⟩, e_put hr S _ _ (by simp only [List.length_append, List.length_cons, List.length_nil, arrL_len, lotL_len]; omega) ⟨h0, ⟨Nat.le_of_ble_eq_true rfl, Nat.le_of_ble_eq_true rfl, Nat.le_of_ble_eq_true rfl⟩, e_put hr S _ _ (by simp only [List.length_append, List.length_cons, List.length_nil, arrL_len, lotL_len]; omega) ⟨h0, ⟨Nat.le_of_ble_eq_true rfl, Nat.le_of_ble_eq_true rfl, Nat.le_of_ble_eq_true rfl⟩, e_put hr S _ _ (by simp only [List.length_append, List.length_cons, List.length_nil, arrL_len, lotL_len]; omega) ⟨h0, ⟨Nat.le_of_ble_eq_true rfl, Nat.le_of_ble_eq_true rfl, Nat.le_of_ble_eq_true rfl⟩, e_put hr S _ _ (by simp only [List.length_append, List.length_cons, List.length_nil, arrL_len, lotL_len]; omega) ⟨rfl, ?_⟩⟩⟩⟩⟩
  have e1 : q ≠ r := by omega
  have e2 : q ≠ r + 1 := by omega
  simp only [PW_I _ e1, PW_X _ e2]
  simp only [monL, List.append_assoc, List.cons_append, List.nil_append] at h ⊢
  exact h
/-- what taking a month leaves; g: the cells -/
def monT (S S' : Mem) (q r a : Nat) : Prop :=
  (S'.1 (q + 1) 0 = (S.2 (r + 1) a).toInt32 ∧ S'.1 (q + 1) 1 = (S.2 (r + 1) (a + 1)).toInt32 ∧ ∀ j, j < 4 → S'.2 (q + 2) j = S.2 (r + 1) (a + 2 + j)) ∧
  (S'.1 (q + 3) 0 = (S.2 (r + 1) (a + 6)).toInt32 ∧ S'.1 (q + 3) 1 = (S.2 (r + 1) (a + 7)).toInt32 ∧ ∀ j, j < 4 → S'.2 (q + 4) j = S.2 (r + 1) (a + 8 + j)) ∧
  (∀ j, j < 4 → S'.2 (q + 5) j = S.2 (r + 1) (a + 12 + j)) ∧
  (S'.1 q 3 = (S.2 (r + 1) (a + 16)).toInt32 ∧ S'.1 q 4 = (S.2 (r + 1) (a + 17)).toInt32 ∧ S'.1 q 5 = (S.2 (r + 1) (a + 18)).toInt32 ∧ S'.1 q 6 = (S.2 (r + 1) (a + 19)).toInt32 ∧ S'.1 q 7 = (S.2 (r + 1) (a + 20)).toInt32) ∧
  (∀ i, i < 6 → ∀ j, j < 4 → S'.2 (q + 6 + i) j = S.2 (r + 1) (a + 21 + 4 * i + j)) ∧
  (S'.2 q 14 = S.2 (r + 1) (a + 45) ∧ S'.2 q 15 = S.2 (r + 1) (a + 46) ∧ S'.2 q 16 = S.2 (r + 1) (a + 47) ∧ S'.2 q 17 = S.2 (r + 1) (a + 48)) ∧
  S'.1 r 1 = nI (a + 49) ∧ (∀ c, c < q ∨ q + 11 < c → c ≠ r → S'.1 c = S.1 c) ∧ ∀ c, c < q ∨ q + 11 < c → S'.2 c = S.2 c
theorem e_takeAllO {k a kt n : Nat} (hk : isRow k) (ht : tyN 156 kt = (1, n, 0, 0)) (hne : kt ≠ k + 1) (hn : 0 < n) (S : Mem) (ha : S.1 k 1 = nI a) (hl : a + n ≤ 716) {Qr : QR} {Qx : QX} (h : ∀ S' : Mem, S'.1 k 1 = nI (a + n) → (∀ c, c ≠ k → S'.1 c = S.1 c) → (∀ j, j < n → S'.2 kt j = S.2 (k + 1) (a + j)) → (∀ c, c ≠ kt → S'.2 c = S.2 c) → Qr none S') : vsp 156 7 (sX7_takeAll 156) [.ref k, .ref kt] S Qr Qx :=
  e_takeAll hk ht hne hn S ha hl (h _ (u2_s _ _ _ _) (fun c hc => u2_other _ _ _ hc) (fun j hj => tkr_i hj) (fun c hc => funext (fun j => tkr_k hc)))
theorem e_takeIntO {k a : Nat} (hk : isRow k) (S : Mem) (ha : S.1 k 1 = nI a) (hl : a < 716) {Qr : QR} {Qx : QX} (h : ∀ S' : Mem, S'.1 k 1 = nI (a + 1) → (∀ c, c ≠ k → S'.1 c = S.1 c) → S'.2 = S.2 → Qr (some (.int (S.2 (k + 1) a).toInt32)) S') : vsp 156 7 (sX7_takeInt 156) [.ref k] S Qr Qx :=
  e_takeInt hk S ha hl (h _ (u2_s _ _ _ _) (fun c hc => u2_other _ _ _ hc) rfl)
theorem e_takeO {k a : Nat} (hk : isRow k) (S : Mem) (ha : S.1 k 1 = nI a) (hl : a < 716) {Qr : QR} {Qx : QX} (h : ∀ S' : Mem, S'.1 k 1 = nI (a + 1) → (∀ c, c ≠ k → S'.1 c = S.1 c) → S'.2 = S.2 → Qr (some (.long (S.2 (k + 1) a))) S') : vsp 156 7 (sX7_take 156) [.ref k] S Qr Qx :=
  e_take hk S ha hl (h _ (u2_s _ _ _ _) (fun c hc => u2_other _ _ _ hc) rfl)
set_option maxHeartbeats 4000000 in
theorem e_monLoad {q r a : Nat} (hq : isMon q) (hr : isRow r) (hqr : q + 11 < r) (S : Mem) (ha : S.1 r 1 = nI a) (hl : a + 49 ≤ 716) {Qr : QR} {Qx : QX} (h : ∀ S', monT S S' q r a → Qr none S') : vsp 156 4 (sX4_load 156) [.ref q, .ref r] S Qr Qx := by
  obtain ⟨h0, h1, h2, h3⟩ := hq
  have nr : q ≠ r := by omega
  have nr1 : q ≠ r + 1 := by omega
  refine ⟨h0, runG rfl 120 ⟨h0, ⟨Nat.le_of_ble_eq_true rfl, Nat.le_of_ble_eq_true rfl, Nat.le_of_ble_eq_true rfl⟩, e_lotLoad h1 hr (by omega) (by omega) S ha (by omega) (fun S1 L1 => ?_)⟩⟩
  refine ⟨h0, ⟨Nat.le_of_ble_eq_true rfl, Nat.le_of_ble_eq_true rfl, Nat.le_of_ble_eq_true rfl⟩, e_lotLoad (a := a + 6) h2 hr (by omega) (by omega) S1 L1.2.2.2.1 (by omega) (fun S2 L2 => ?_)⟩
  obtain ⟨p1, p2, p3, p4, p5, p6⟩ := L1
  obtain ⟨q1, q2, q3, q4, q5, q6⟩ := L2
  have g1 : S1.2 (r + 1) = S.2 (r + 1) := p6 _ (by omega)
  have g2 : S2.2 (r + 1) = S.2 (r + 1) := (q6 _ (by omega)).trans g1
  refine ⟨h0, ⟨Nat.le_of_ble_eq_true rfl, Nat.le_of_ble_eq_true rfl, Nat.le_of_ble_eq_true rfl⟩, e_takeAllO (a := a + 12) hr (h3 0 (by decide)) (by omega) (by decide) _ q4 (by omega) (fun S3 a1 a2 a3 a4 => ?_)⟩
  have g3 : S3.2 (r + 1) = S.2 (r + 1) := (a4 _ (by omega)).trans g2
  refine ⟨⟨Nat.le_of_ble_eq_true rfl, Nat.le_of_ble_eq_true rfl, Nat.le_of_ble_eq_true rfl⟩, e_takeIntO (a := a + 16) hr _ a1 (by omega) (fun T1 b1 b2 b3 => ⟨h0, ⟨Nat.le_of_ble_eq_true rfl, Nat.le_of_ble_eq_true rfl, Nat.le_of_ble_eq_true rfl⟩, e_takeIntO (a := a + 17) hr _ ((u2_k _ _ _ _ (Ne.symm nr)).trans b1) (by omega) (fun T2 c1 c2 c3 => ⟨h0, ⟨Nat.le_of_ble_eq_true rfl, Nat.le_of_ble_eq_true rfl, Nat.le_of_ble_eq_true rfl⟩, e_takeIntO (a := a + 18) hr _ ((u2_k _ _ _ _ (Ne.symm nr)).trans c1) (by omega) (fun T3 d1 d2 d3 => ?_)⟩)⟩)⟩
  refine ⟨h0, ⟨Nat.le_of_ble_eq_true rfl, Nat.le_of_ble_eq_true rfl, Nat.le_of_ble_eq_true rfl⟩, e_takeIntO (a := a + 19) hr _ ((u2_k _ _ _ _ (Ne.symm nr)).trans d1) (by omega) (fun T4 e1 e2 e3 => ⟨h0, ⟨Nat.le_of_ble_eq_true rfl, Nat.le_of_ble_eq_true rfl, Nat.le_of_ble_eq_true rfl⟩, e_takeIntO (a := a + 20) hr _ ((u2_k _ _ _ _ (Ne.symm nr)).trans e1) (by omega) (fun T5 f1 f2 f3 => ⟨h0, h0, ?_⟩)⟩)⟩
  have k5 : T5.2 = S3.2 := f3.trans (e3.trans (d3.trans (c3.trans b3)))
  have k4 : T4.2 = S3.2 := e3.trans (d3.trans (c3.trans b3))
  have k3 : T3.2 = S3.2 := d3.trans (c3.trans b3)
  have k2 : T2.2 = S3.2 := c3.trans b3
  refine ⟨⟨Nat.le_of_ble_eq_true rfl, Nat.le_of_ble_eq_true rfl, Nat.le_of_ble_eq_true rfl⟩, e_takeAllO (a := a + 21) hr (h3 1 (by decide)) (by omega) (by decide) _ ((u2_k _ _ _ _ (Ne.symm nr)).trans f1) (by omega) (fun U1 i1 i2 i3 i4 => ⟨h0, ⟨Nat.le_of_ble_eq_true rfl, Nat.le_of_ble_eq_true rfl, Nat.le_of_ble_eq_true rfl⟩, e_takeAllO (a := a + 25) hr (h3 2 (by decide)) (by omega) (by decide) _ i1 (by omega) (fun U2 j1 j2 j3 j4 => ⟨h0, ⟨Nat.le_of_ble_eq_true rfl, Nat.le_of_ble_eq_true rfl, Nat.le_of_ble_eq_true rfl⟩, e_takeAllO (a := a + 29) hr (h3 3 (by decide)) (by omega) (by decide) _ j1 (by omega) (fun U3 k1 k2' k3' k4' => ?_)⟩)⟩)⟩
  refine ⟨h0, ⟨Nat.le_of_ble_eq_true rfl, Nat.le_of_ble_eq_true rfl, Nat.le_of_ble_eq_true rfl⟩, e_takeAllO (a := a + 33) hr (h3 4 (by decide)) (by omega) (by decide) _ k1 (by omega) (fun U4 l1 l2 l3 l4 => ⟨h0, ⟨Nat.le_of_ble_eq_true rfl, Nat.le_of_ble_eq_true rfl, Nat.le_of_ble_eq_true rfl⟩, e_takeAllO (a := a + 37) hr (h3 5 (by decide)) (by omega) (by decide) _ l1 (by omega) (fun U5 m1 m2 m3 m4 => ⟨h0, ⟨Nat.le_of_ble_eq_true rfl, Nat.le_of_ble_eq_true rfl, Nat.le_of_ble_eq_true rfl⟩, e_takeAllO (a := a + 41) hr (h3 6 (by decide)) (by omega) (by decide) _ m1 (by omega) (fun U6 n1 n2 n3 n4 => ?_)⟩)⟩)⟩
  refine ⟨⟨Nat.le_of_ble_eq_true rfl, Nat.le_of_ble_eq_true rfl, Nat.le_of_ble_eq_true rfl⟩, e_takeO (a := a + 45) hr _ n1 (by omega) (fun V1 o1 o2 o3 => ⟨h0, ⟨Nat.le_of_ble_eq_true rfl, Nat.le_of_ble_eq_true rfl, Nat.le_of_ble_eq_true rfl⟩, e_takeO (a := a + 46) hr _ (by exact o1) (by omega) (fun V2 s1 s2 s3 => ⟨h0, ⟨Nat.le_of_ble_eq_true rfl, Nat.le_of_ble_eq_true rfl, Nat.le_of_ble_eq_true rfl⟩, e_takeO (a := a + 47) hr _ (by exact s1) (by omega) (fun V3 t1 t2 t3 => ⟨h0, ⟨Nat.le_of_ble_eq_true rfl, Nat.le_of_ble_eq_true rfl, Nat.le_of_ble_eq_true rfl⟩, e_takeO (a := a + 48) hr _ (by exact t1) (by omega) (fun V4 v1 v2 v3 => ⟨h0, rfl, h _ ?_⟩)⟩)⟩)⟩)⟩
  have W0 : ∀ c, c ≠ r → V4.1 c = U1.1 c := fun c hc => (v2 c hc).trans ((t2 c hc).trans ((s2 c hc).trans ((o2 c hc).trans ((n2 c hc).trans ((m2 c hc).trans ((l2 c hc).trans ((k2' c hc).trans (j2 c hc))))))))
  have W1 : ∀ c, c ≠ r → c ≠ q → V4.1 c = S2.1 c := by
    intro c hc hq
    rw [W0 c hc, i2 c hc]
    show u2 T5.1 q 7 _ c = _
    rw [u2_other _ _ _ hq, f2 c hc]
    show u2 T4.1 q 6 _ c = _
    rw [u2_other _ _ _ hq, e2 c hc]
    show u2 T3.1 q 5 _ c = _
    rw [u2_other _ _ _ hq, d2 c hc]
    show u2 T2.1 q 4 _ c = _
    rw [u2_other _ _ _ hq, c2 c hc]
    show u2 T1.1 q 3 _ c = _
    rw [u2_other _ _ _ hq, b2 c hc, a2 c hc]
  have Z0 : ∀ c, c ≠ q → V4.2 c = U6.2 c := by
    intro c hc
    rw [v3]
    show u2 V3.2 q 16 _ c = _
    rw [u2_other _ _ _ hc, t3]
    show u2 V2.2 q 15 _ c = _
    rw [u2_other _ _ _ hc, s3]
    show u2 V1.2 q 14 _ c = _
    rw [u2_other _ _ _ hc, o3]
  have Z6 : ∀ c, c < q + 6 ∨ q + 11 < c → U6.2 c = S3.2 c := by
    intro c hc
    rw [n4 c (by omega), m4 c (by omega), l4 c (by omega), k4' c (by omega), j4 c (by omega), i4 c (by omega)]
    exact congrFun k5 c
  have x1 : T5.2 (r + 1) = S.2 (r + 1) := by rw [k5]; exact g3
  have y1 : U1.2 (r + 1) = S.2 (r + 1) := (i4 _ (by omega)).trans x1
  have y2 : U2.2 (r + 1) = S.2 (r + 1) := (j4 _ (by omega)).trans y1
  have y3 : U3.2 (r + 1) = S.2 (r + 1) := (k4' _ (by omega)).trans y2
  have y4 : U4.2 (r + 1) = S.2 (r + 1) := (l4 _ (by omega)).trans y3
  have y5 : U5.2 (r + 1) = S.2 (r + 1) := (m4 _ (by omega)).trans y4
  have y6 : U6.2 (r + 1) = S.2 (r + 1) := (n4 _ (by omega)).trans y5
  have y7 : V1.2 (r + 1) = S.2 (r + 1) := by rw [o3]; exact y6
  have y8 : V2.2 (r + 1) = S.2 (r + 1) := by rw [s3]; exact (u2_other _ _ _ (by omega)).trans y7
  have y9 : V3.2 (r + 1) = S.2 (r + 1) := by rw [t3]; exact (u2_other _ _ _ (by omega)).trans y8
  have hb3 : T1.2 (r + 1) = S.2 (r + 1) := by rw [b3]; exact g3
  have hc3 : T2.2 (r + 1) = S.2 (r + 1) := by rw [k2]; exact g3
  have hd3 : T3.2 (r + 1) = S.2 (r + 1) := by rw [k3]; exact g3
  have he3 : T4.2 (r + 1) = S.2 (r + 1) := by rw [k4]; exact g3
  have Vq : ∀ j, V4.1 q j = u2 T5.1 q 7 (T4.2 (r + 1) (a + 20)).toInt32 q j := fun j => congrFun ((W0 q nr).trans (i2 q nr)) j
  have Tf : ∀ j, T5.1 q j = u2 T4.1 q 6 (T3.2 (r + 1) (a + 19)).toInt32 q j := fun j => congrFun (f2 q nr) j
  have Te : ∀ j, T4.1 q j = u2 T3.1 q 5 (T2.2 (r + 1) (a + 18)).toInt32 q j := fun j => congrFun (e2 q nr) j
  have Td : ∀ j, T3.1 q j = u2 T2.1 q 4 (T1.2 (r + 1) (a + 17)).toInt32 q j := fun j => congrFun (d2 q nr) j
  have Tc : ∀ j, T2.1 q j = u2 T1.1 q 3 (S3.2 (r + 1) (a + 16)).toInt32 q j := fun j => congrFun (c2 q nr) j
  refine ⟨⟨?_, ?_, fun j hj => ?_⟩, ⟨?_, ?_, fun j hj => ?_⟩, fun j hj => ?_, ⟨?_, ?_, ?_, ?_, ?_⟩, fun i hi j hj => ?_, ⟨?_, ?_, ?_, ?_⟩, ?_, fun c hc hcr => ?_, fun c hc => ?_⟩
  · show V4.1 (q + 1) 0 = _
    rw [W1 _ (by omega) (by omega), q5 _ (by omega) (by omega)]; exact p1
  · show V4.1 (q + 1) 1 = _
    rw [W1 _ (by omega) (by omega), q5 _ (by omega) (by omega)]; exact p2
  · show u2 V4.2 q 17 _ (q + 2) j = _
    rw [u2_k _ _ _ _ (by omega), Z0 _ (by omega), Z6 _ (by omega), a4 _ (by omega), q6 _ (by omega)]; exact p3 j hj
  · show V4.1 (q + 3) 0 = _
    rw [W1 _ (by omega) (by omega), q1, g1]
  · show V4.1 (q + 3) 1 = _
    rw [W1 _ (by omega) (by omega), q2, g1]
  · show u2 V4.2 q 17 _ (q + 4) j = _
    rw [u2_k _ _ _ _ (by omega), Z0 _ (by omega), Z6 _ (by omega), a4 _ (by omega), q3 j hj, g1]
  · show u2 V4.2 q 17 _ (q + 5) j = _
    rw [u2_k _ _ _ _ (by omega), Z0 _ (by omega), Z6 _ (by omega)]
    exact (a3 j hj).trans (by rw [g2])
  · show V4.1 q 3 = _
    rw [Vq, u2_j _ _ _ _ (by decide), Tf, u2_j _ _ _ _ (by decide), Te, u2_j _ _ _ _ (by decide), Td, u2_j _ _ _ _ (by decide), Tc, u2_s, g3]
  · show V4.1 q 4 = _
    rw [Vq, u2_j _ _ _ _ (by decide), Tf, u2_j _ _ _ _ (by decide), Te, u2_j _ _ _ _ (by decide), Td, u2_s, hb3]
  · show V4.1 q 5 = _
    rw [Vq, u2_j _ _ _ _ (by decide), Tf, u2_j _ _ _ _ (by decide), Te, u2_s, hc3]
  · show V4.1 q 6 = _
    rw [Vq, u2_j _ _ _ _ (by decide), Tf, u2_s, hd3]
  · show V4.1 q 7 = _
    rw [Vq, u2_s, he3]
  · show u2 V4.2 q 17 _ (q + 6 + i) j = _
    rw [u2_k _ _ _ _ (by omega), Z0 _ (by omega)]
    rcases (show i = 0 ∨ i = 1 ∨ i = 2 ∨ i = 3 ∨ i = 4 ∨ i = 5 by omega) with rfl | rfl | rfl | rfl | rfl | rfl
    · rw [n4 _ (by omega), m4 _ (by omega), l4 _ (by omega), k4' _ (by omega), j4 _ (by omega)]
      exact (i3 j hj).trans (by show T5.2 (r + 1) _ = _; rw [x1])
    · rw [n4 _ (by omega), m4 _ (by omega), l4 _ (by omega), k4' _ (by omega)]
      exact (j3 j hj).trans (by rw [y1])
    · rw [n4 _ (by omega), m4 _ (by omega), l4 _ (by omega)]
      exact (k3' j hj).trans (by rw [y2])
    · rw [n4 _ (by omega), m4 _ (by omega)]
      exact (l3 j hj).trans (by rw [y3])
    · rw [n4 _ (by omega)]
      exact (m3 j hj).trans (by rw [y4])
    · exact (n3 j hj).trans (by rw [y5])
  · show u2 V4.2 q 17 _ q 14 = _
    rw [u2_j _ _ _ _ (by decide), v3]
    show u2 V3.2 q 16 _ q 14 = _
    rw [u2_j _ _ _ _ (by decide), t3]
    show u2 V2.2 q 15 _ q 14 = _
    rw [u2_j _ _ _ _ (by decide), s3]
    show u2 V1.2 q 14 (U6.2 (r + 1) (a + 45)) q 14 = _
    rw [u2_s, y6]
  · show u2 V4.2 q 17 _ q 15 = _
    rw [u2_j _ _ _ _ (by decide), v3]
    show u2 V3.2 q 16 _ q 15 = _
    rw [u2_j _ _ _ _ (by decide), t3]
    show u2 V2.2 q 15 (u2 V1.2 q 14 _ (r + 1) (a + 46)) q 15 = _
    rw [u2_s, u2_k _ _ _ _ (by omega), y7]
  · show u2 V4.2 q 17 _ q 16 = _
    rw [u2_j _ _ _ _ (by decide), v3]
    show u2 V3.2 q 16 (u2 V2.2 q 15 _ (r + 1) (a + 47)) q 16 = _
    rw [u2_s, u2_k _ _ _ _ (by omega), y8]
  · show u2 V4.2 q 17 (u2 V3.2 q 16 _ (r + 1) (a + 48)) q 17 = _
    rw [u2_s, u2_k _ _ _ _ (by omega), y9]
  · exact v1
  · exact (W1 c hcr (by omega)).trans ((q5 _ (by omega) hcr).trans (p5 _ (by omega) hcr))
  · show u2 V4.2 q 17 _ c = _
    rw [u2_other _ _ _ (by omega), Z0 _ (by omega), Z6 _ (by omega), a4 _ (by omega), q6 _ (by omega), p6 _ (by omega)]
