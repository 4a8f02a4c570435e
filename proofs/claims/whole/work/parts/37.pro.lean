/-! ===== products: save, load ===== -/
def layL (S : Mem) (k : Nat) : Nat → List Int64
  | 0 => []
  | n + 1 => layL S k n ++ [S.2 (k + 1) n, S.2 (k + 2) n]
theorem layL_len (S : Mem) (k : Nat) : ∀ n, (layL S k n).length = 2 * n
  | 0 => rfl
  | n + 1 => by simp [layL, layL_len S k n]; omega
def proH (S : Mem) (k : Nat) : List Int64 := [(S.1 k 0).toInt64, (S.1 k 1).toInt64, (S.1 k 2).toInt64, (S.1 k 3).toInt64, (S.1 k 4).toInt64, S.2 k 5, S.2 k 6, (S.1 k 7).toInt64]
theorem proH_len (S : Mem) (k : Nat) : (proH S k).length = 8 := rfl
def proL (S : Mem) (k n : Nat) : List Int64 := proH S k ++ layL S k n
theorem proL_len (S : Mem) (k n : Nat) : (proL S k n).length = 8 + 2 * n := by simp [proL, proH_len, layL_len]
set_option maxHeartbeats 1000000 in
theorem e_proSave {k r a n : Nat} (hk : isProN 156 k) (hr : isRow r) (hkr : k + 2 < r) (S : Mem) (hn : S.1 k 7 = nI n) (hn4 : n ≤ 40) (l : List Int64) (hl : a + l.length + 8 + 2 * n ≤ 716) {Qr : QR} {Qx : QX} (h : Qr none (PW S r a (l ++ proL S k n))) : vsp 156 6 (sX6_save 156) [.ref k, .ref r] (PW S r a l) Qr Qx := by
  obtain ⟨h0, h1, h2⟩ := hk
  have e1 : k ≠ r := by omega
  have e2 : k ≠ r + 1 := by omega
  have e3 : k + 1 ≠ r + 1 := by omega
  have e4 : k + 2 ≠ r + 1 := by omega
  refine ⟨h0, runL (α := Nat) rfl 90 72 0 (fun i => [(2, .int (nI i)), (0, .ref k), (1, .ref r)]) (fun i => PW S r a (l ++ (proH S k ++ layL S k i))) (fun i => n - i) (fun i => i ≤ n) (fun i hi => ?_) ?_⟩
  · have eb : (PW S r a (l ++ (proH S k ++ layL S k i))).1 k 7 = nI n := (PW_I 7 e1).trans hn
    refine ⟨h0, And.intro (fun h1 => ?_) (fun h1 => ?_)⟩
    · have h1 : nI n ≤ nI i := eb ▸ h1
      obtain rfl := le_of_nI (by omega) hi h1
      exact ⟨rfl, h⟩
    · have h1' : ¬ nI n ≤ nI i := eb ▸ h1
      have hlt := lt_of_nI (by omega) hi h1'
      refine ⟨h0, 40, by assumption, vp_nI (by omega), ⟨Nat.le_of_ble_eq_true rfl, Nat.le_of_ble_eq_true rfl, Nat.le_of_ble_eq_true rfl⟩, e_put hr S _ _ (by simp only [List.length_append, proH_len, layL_len]; omega) ⟨h0, 40, h2, vp_nI (by omega), ⟨Nat.le_of_ble_eq_true rfl, Nat.le_of_ble_eq_true rfl, Nat.le_of_ble_eq_true rfl⟩, e_put hr S _ _ (by simp only [List.length_append, proH_len, layL_len, List.length_cons, List.length_nil]; omega) ⟨rfl, rfl, i + 1, ⟨by omega, by omega⟩, ?_, congrArg (fun z => some (Value.int z)) (nI_1 i), rfl, rfl, trivial⟩⟩⟩
      rw [nI_clamp (by omega), PW_X _ e3, PW_X _ e4]
      simp only [layL, List.append_assoc, List.cons_append, List.nil_append]
  · refine ⟨h0, ⟨Nat.le_of_ble_eq_true rfl, Nat.le_of_ble_eq_true rfl, Nat.le_of_ble_eq_true rfl⟩, e_put hr S _ _ (by omega) ⟨h0, ⟨Nat.le_of_ble_eq_true rfl, Nat.le_of_ble_eq_true rfl, Nat.le_of_ble_eq_true rfl⟩, e_put hr S _ _ (by simp only [List.length_append, List.length_cons, List.length_nil, arrL_len, lotL_len]; omega) ⟨h0, ⟨Nat.le_of_ble_eq_true rfl, Nat.le_of_ble_eq_true rfl, Nat.le_of_ble_eq_true rfl⟩, e_put hr S _ _ (by simp only [List.length_append, List.length_cons, List.length_nil, arrL_len, lotL_len]; omega) ⟨h0, ⟨Nat.le_of_ble_eq_true rfl, Nat.le_of_ble_eq_true rfl, Nat.le_of_ble_eq_true rfl⟩, e_put hr S _ _ (by simp only [List.length_append, List.length_cons, List.length_nil, arrL_len, lotL_len]; omega) ⟨h0, ⟨Nat.le_of_ble_eq_true rfl, Nat.le_of_ble_eq_true rfl, Nat.le_of_ble_eq_true rfl⟩, e_put hr S _ _ (by simp only [List.length_append, List.length_cons, List.length_nil, arrL_len, lotL_len]; omega) ?_⟩⟩⟩⟩⟩
    refine ⟨h0, ⟨Nat.le_of_ble_eq_true rfl, Nat.le_of_ble_eq_true rfl, Nat.le_of_ble_eq_true rfl⟩, e_put hr S _ _ (by simp only [List.length_append, List.length_cons, List.length_nil, arrL_len, lotL_len]; omega) ⟨h0, ⟨Nat.le_of_ble_eq_true rfl, Nat.le_of_ble_eq_true rfl, Nat.le_of_ble_eq_true rfl⟩, e_put hr S _ _ (by simp only [List.length_append, List.length_cons, List.length_nil, arrL_len, lotL_len]; omega) ⟨h0, ⟨Nat.le_of_ble_eq_true rfl, Nat.le_of_ble_eq_true rfl, Nat.le_of_ble_eq_true rfl⟩, e_put hr S _ _ (by simp only [List.length_append, List.length_cons, List.length_nil, arrL_len, lotL_len]; omega) ⟨rfl, rfl, 0, Nat.zero_le n, ?_, rfl, rfl, rfl, trivial⟩⟩⟩⟩
    simp only [PW_I _ e1, PW_X _ e2]
    simp only [layL, proH, List.append_assoc, List.cons_append, List.nil_append, List.append_nil]
/-- a product as the cells X have it, from a on; n layers, of which i -/
def proC (X : Nat → Int64) (S' : Mem) (k a n i : Nat) : Prop := (∀ j, j < 5 → S'.1 k j = (X (a + j)).toInt32) ∧ S'.2 k 5 = X (a + 5) ∧ S'.2 k 6 = X (a + 6) ∧ S'.1 k 7 = nI n ∧ ∀ j, j < i → S'.2 (k + 1) j = X (a + 8 + 2 * j) ∧ S'.2 (k + 2) j = X (a + 9 + 2 * j)
theorem proC.move {X : Nat → Int64} {S T : Mem} {k a n i : Nat} (h : proC X S k a n i) (e : ∀ c, k ≤ c → c ≤ k + 2 → T.1 c = S.1 c ∧ T.2 c = S.2 c) : proC X T k a n i := by
  obtain ⟨h1, h2, h3, h4, h5⟩ := h
  have e0 := e k (by omega) (by omega)
  refine ⟨fun j hj => ?_, ?_, ?_, ?_, fun j hj => ⟨?_, ?_⟩⟩
  · rw [e0.1]; exact h1 j hj
  · rw [e0.2]; exact h2
  · rw [e0.2]; exact h3
  · rw [e0.1]; exact h4
  · rw [(e (k + 1) (by omega) (by omega)).2]; exact (h5 j hj).1
  · rw [(e (k + 2) (by omega) (by omega)).2]; exact (h5 j hj).2
set_option maxHeartbeats 2000000 in
theorem e_proLoad {k r a n : Nat} (hk : isProN 156 k) (hr : isRow r) (hkr : k + 2 < r) (S : Mem) (ha : S.1 r 1 = nI a) (hn : (S.2 (r + 1) (a + 7)).toInt32 = nI n) (hn4 : n ≤ 40) (hl : a + 8 + 2 * n ≤ 716) {Qr : QR} {Qx : QX} (h : ∀ S', proC (S.2 (r + 1)) S' k a n n → S'.1 r 1 = nI (a + 8 + 2 * n) → (∀ c, c ≠ k → c ≠ r → S'.1 c = S.1 c) → (∀ c, c < k ∨ k + 2 < c → S'.2 c = S.2 c) → Qr none S') : vsp 156 6 (sX6_load 156) [.ref k, .ref r] S Qr Qx := by
  obtain ⟨h0, h1, h2⟩ := hk
  have nr : k ≠ r := by omega
  refine ⟨h0, runL (α := Nat × Mem) rfl 90 68 0 (fun a => [(2, .int (nI a.1)), (0, .ref k), (1, .ref r)]) (fun a => a.2) (fun a => n - a.1) (fun b => b.1 ≤ n ∧ b.2.1 r 1 = nI (a + 8 + 2 * b.1) ∧ proC (S.2 (r + 1)) b.2 k a n b.1 ∧ (∀ c, c ≠ k → c ≠ r → b.2.1 c = S.1 c) ∧ ∀ c, c < k ∨ k + 2 < c → b.2.2 c = S.2 c) ?_ ?_⟩
  · rintro ⟨i, T⟩ ⟨hi, i1, i2, i3, i4⟩
    dsimp only at hi i1 i2 i3 i4
    refine ⟨h0, And.intro (fun h1 => ?_) (fun h1 => ?_)⟩
    · have h1 : nI n ≤ nI i := i2.2.2.2.1 ▸ h1
      obtain rfl := le_of_nI (by omega) hi h1
      exact ⟨rfl, h _ i2 i1 i3 i4⟩
    · have h1' : ¬ nI n ≤ nI i := i2.2.2.2.1 ▸ h1
      have hlt := lt_of_nI (by omega) hi h1'
      have hcl : (nI i).toNatClampNeg = i := nI_clamp (by omega)
      refine ⟨h0, ⟨Nat.le_of_ble_eq_true rfl, Nat.le_of_ble_eq_true rfl, Nat.le_of_ble_eq_true rfl⟩, e_takeO (a := a + 8 + 2 * i) hr T i1 (by omega) (fun V o1 o2 o3 => ⟨40, by assumption, vp_nI (by omega), h0, ⟨Nat.le_of_ble_eq_true rfl, Nat.le_of_ble_eq_true rfl, Nat.le_of_ble_eq_true rfl⟩, e_takeO (a := a + 8 + 2 * i + 1) hr _ (by exact o1) (by omega) (fun V2 s1 s2 s3 => ⟨40, h2, vp_nI (by omega), rfl, rfl, (i + 1, _), ⟨⟨?_, ?_, ⟨fun j hj => ?_, ?_, ?_, ?_, fun j hj => ?_⟩, fun c hc hcr => ?_, fun c hc => ?_⟩, ?_⟩, rfl, congrArg (fun z => some (Value.int z)) (nI_1 i), rfl, rfl, trivial⟩)⟩)⟩
      · show i + 1 ≤ n; omega
      · exact s1
      · exact (congrFun (s2 k nr) _).trans ((congrFun (o2 k nr) _).trans (i2.1 j hj))
      · show u2 V2.2 (k + 2) _ _ k 5 = _
        rw [u2_k _ _ _ _ (by omega), s3]
        show u2 V.2 (k + 1) _ _ k 5 = _
        rw [u2_k _ _ _ _ (by omega), o3]
        exact i2.2.1
      · show u2 V2.2 (k + 2) _ _ k 6 = _
        rw [u2_k _ _ _ _ (by omega), s3]
        show u2 V.2 (k + 1) _ _ k 6 = _
        rw [u2_k _ _ _ _ (by omega), o3]
        exact i2.2.2.1
      · exact (congrFun (s2 k nr) _).trans ((congrFun (o2 k nr) _).trans i2.2.2.2.1)
      · have g : T.2 (r + 1) = S.2 (r + 1) := i4 _ (by omega)
        have hj : j < i + 1 := hj
        constructor
        · show u2 V2.2 (k + 2) _ _ (k + 1) j = _
          rw [u2_k _ _ _ _ (by omega), s3]
          show u2 V.2 (k + 1) (nI i).toNatClampNeg (T.2 (r + 1) (a + 8 + 2 * i)) (k + 1) j = _
          rw [hcl, g]
          by_cases e : j = i
          · subst e; exact u2_s _ _ _ _
          · rw [u2_j _ _ _ _ e, o3]; exact (i2.2.2.2.2 j (by omega)).1
        · show u2 V2.2 (k + 2) (nI i).toNatClampNeg (u2 V.2 (k + 1) _ _ (r + 1) (a + 8 + 2 * i + 1)) (k + 2) j = _
          rw [hcl, u2_k _ _ _ _ (show r + 1 ≠ k + 1 by omega), o3, g]
          by_cases e : j = i
          · subst e; rw [u2_s]; exact congrArg _ (by omega)
          · rw [u2_j _ _ _ _ e, s3]
            show u2 V.2 (k + 1) _ _ (k + 2) j = _
            rw [u2_k _ _ _ _ (by omega), o3]; exact (i2.2.2.2.2 j (by omega)).2
      · exact (s2 c hcr).trans ((o2 c hcr).trans (i3 c hc hcr))
      · show u2 V2.2 (k + 2) _ _ c = _
        rw [u2_other _ _ _ (by omega), s3]
        show u2 V.2 (k + 1) _ _ c = _
        rw [u2_other _ _ _ (by omega), o3]
        exact i4 c hc
      · show n - (i + 1) < n - i; omega
  · have L0 := LdI.zero k 0 ha
    refine ⟨⟨Nat.le_of_ble_eq_true rfl, Nat.le_of_ble_eq_true rfl, Nat.le_of_ble_eq_true rfl⟩, e_takeIntO (a := a) hr S ha (by omega) (fun T1 b1 b2 b3 => ⟨h0, ?_⟩)⟩
    have L1 := L0.step nr b1 b2 b3
    refine ⟨⟨Nat.le_of_ble_eq_true rfl, Nat.le_of_ble_eq_true rfl, Nat.le_of_ble_eq_true rfl⟩, e_takeIntO (a := a + 1) hr _ L1.1 (by omega) (fun T2 b1 b2 b3 => ⟨h0, ?_⟩)⟩
    have L2 := L1.step nr b1 b2 b3
    refine ⟨⟨Nat.le_of_ble_eq_true rfl, Nat.le_of_ble_eq_true rfl, Nat.le_of_ble_eq_true rfl⟩, e_takeIntO (a := a + 2) hr _ L2.1 (by omega) (fun T3 b1 b2 b3 => ⟨h0, ?_⟩)⟩
    have L3 := L2.step nr b1 b2 b3
    refine ⟨⟨Nat.le_of_ble_eq_true rfl, Nat.le_of_ble_eq_true rfl, Nat.le_of_ble_eq_true rfl⟩, e_takeIntO (a := a + 3) hr _ L3.1 (by omega) (fun T4 b1 b2 b3 => ⟨h0, ?_⟩)⟩
    have L4 := L3.step nr b1 b2 b3
    refine ⟨⟨Nat.le_of_ble_eq_true rfl, Nat.le_of_ble_eq_true rfl, Nat.le_of_ble_eq_true rfl⟩, e_takeIntO (a := a + 4) hr _ L4.1 (by omega) (fun T5 b1 b2 b3 => ⟨h0, ?_⟩)⟩
    have L5 := L4.step nr b1 b2 b3
    clear L0 L1 L2 L3 L4
    obtain ⟨p1, p2, p3, p4, p5⟩ := L5
    refine ⟨⟨Nat.le_of_ble_eq_true rfl, Nat.le_of_ble_eq_true rfl, Nat.le_of_ble_eq_true rfl⟩, e_takeO (a := a + 5) hr _ p1 (by omega) (fun A a1 a2 a3 => ⟨h0, ⟨Nat.le_of_ble_eq_true rfl, Nat.le_of_ble_eq_true rfl, Nat.le_of_ble_eq_true rfl⟩, e_takeO (a := a + 6) hr _ (by exact a1) (by omega) (fun B c1 c2 c3 => ⟨h0, ?_⟩)⟩)⟩
    have q2 : T5.2 = S.2 := p2
    have g3 : B.2 (r + 1) = S.2 (r + 1) := by
      rw [c3]
      show u2 A.2 k 5 _ (r + 1) = _
      rw [u2_other _ _ _ (by omega), a3]
      exact congrFun q2 _
    refine ⟨⟨Nat.le_of_ble_eq_true rfl, Nat.le_of_ble_eq_true rfl, Nat.le_of_ble_eq_true rfl⟩, e_takeCountO (a := a + 7) (n := n) (m := 40) hr _ (by exact c1) (by omega) ?_ hn4 (by decide) (fun D d1 d2 d3 => ⟨h0, rfl, rfl, (0, _), ⟨Nat.zero_le _, ?_, ⟨fun j hj => ?_, ?_, ?_, ?_, fun j hj => absurd hj (Nat.not_lt_zero j)⟩, fun c hc hcr => ?_, fun c hc => ?_⟩, rfl, rfl, rfl, rfl, trivial⟩)⟩
    · show (u2 B.2 k 6 _ (r + 1) (a + 7)).toInt32 = _
      rw [u2_k _ _ _ _ (by omega), g3]; exact hn
    · exact (u2_k _ _ _ _ (Ne.symm nr)).trans d1
    · refine (u2_j _ _ _ _ (by omega)).trans ((congrFun (d2 k nr) _).trans ((congrFun (c2 k nr) _).trans ((congrFun (a2 k nr) _).trans ?_)))
      have := p4 j hj
      rw [Nat.zero_add j] at this
      exact this
    · show D.2 k 5 = _
      rw [d3]
      show u2 B.2 k 6 _ k 5 = _
      rw [u2_j _ _ _ _ (by decide), c3]
      show u2 A.2 k 5 (T5.2 (r + 1) (a + 5)) k 5 = _
      rw [u2_s, q2]
    · show D.2 k 6 = _
      rw [d3]
      show u2 B.2 k 6 (u2 A.2 k 5 _ (r + 1) (a + 6)) k 6 = _
      rw [u2_s, u2_k _ _ _ _ (by omega), a3]
      exact congrFun (congrFun q2 _) _
    · exact u2_s _ _ _ _
    · exact (u2_other _ _ _ hc).trans ((d2 c hcr).trans ((c2 c hcr).trans ((a2 c hcr).trans (p3 c hc hcr))))
    · show D.2 c = _
      rw [d3]
      show u2 B.2 k 6 _ c = _
      rw [u2_other _ _ _ (by omega), c3]
      show u2 A.2 k 5 _ c = _
      rw [u2_other _ _ _ (by omega), a3]
      exact congrFun q2 _
