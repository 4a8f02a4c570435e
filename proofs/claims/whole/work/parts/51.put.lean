/-! ===== putIn ===== -/
set_option maxHeartbeats 1000000 in
theorem e_putIn {k n : Nat} (hk : isProN 156 k) (way : Int32) (S : Mem) (hn : S.1 k 7 = nI n) (hn4 : n ≤ 40) {Qr : QR} {Qx : QX} (c0 : S.1 k 4 = 0 → Qr (some (.int 1)) S)
    (c1 : ¬ S.1 k 4 = 0 → way = 1 → 0 < n → Qr (some (.int 1)) (S.1, u2 (u2 S.2 (k + 1) 0 (S.2 (k + 1) 0 + (S.1 k 4).toInt64)) (k + 2) 0 (S.2 (k + 2) 0 + S.2 k 6)))
    (c2 : ¬ S.1 k 4 = 0 → (¬ way = 1 ∨ n = 0) → n < 40 → Qr (some (.int 1)) (u2 S.1 k 7 (nI (n + 1)), u2 (u2 S.2 (k + 1) n (S.1 k 4).toInt64) (k + 2) n (S.2 k 6)))
    (c3 : ¬ S.1 k 4 = 0 → (¬ way = 1 ∨ n = 0) → n = 40 → Qr (some (.int 0)) S) : vsp 156 6 (sX6_putIn 156) [.ref k, .int way] S Qr Qx := by
  obtain ⟨h0, h1, h2⟩ := hk
  have hcl : (S.1 k 7).toNatClampNeg = n := by rw [hn]; exact nI_clamp (by omega)
  have g1 : ∀ (P : Prop), P → (¬ S.1 k 4 = 0 → (¬ way = 1 ∨ n = 0) → n < 40 → Qr (some (.int 1)) (u2 S.1 k 7 (S.1 k 7 + 1), u2 (u2 S.2 (k + 1) (S.1 k 7).toNatClampNeg (S.1 k 4).toInt64) (k + 2) (S.1 k 7).toNatClampNeg (u2 S.2 (k + 1) (S.1 k 7).toNatClampNeg (S.1 k 4).toInt64 k 6))) := by
    intro _ _ a b c
    have := c2 a b c
    rw [hcl, u2_k _ _ _ _ (by omega), show S.1 k 7 + 1 = nI (n + 1) by rw [hn]; exact (nI_succ n).symm]
    exact this
  have vp : n < 40 → vp_in (S.1 k 7) 40 := fun x => by rw [hn]; exact vp_nI x
  refine ⟨h0, runG rfl 80 ⟨h0, And.intro (fun a0 => And.intro (fun a1 => ?_) (fun a1 => ⟨h0, And.intro (fun a2 => ?_) (fun a2 => ?_)⟩)) (fun a0 => ⟨Or.inr rfl, c0 a0⟩)⟩⟩
  · refine ⟨h0, And.intro (fun a3 => ?_) (fun a3 => ⟨Or.inl rfl, c3 a0 (Or.inl a1) ?_⟩)⟩
    · have a3 : nI n < nI 40 := hn ▸ a3
      have h40 : n < 40 := (nI_ltI (by omega) (by decide)).mp a3
      exact ⟨h0, h0, h0, 40, h1, vp h40, h0, h0, h0, 40, h2, vp h40, h0, h0, Or.inr rfl, g1 True trivial a0 (Or.inl a1) h40⟩
    · have a3 : ¬ nI n < nI 40 := hn ▸ a3
      have : ¬ n < 40 := fun x => a3 ((nI_ltI (a := n) (b := 40) (by omega) (by decide)).mpr x)
      omega
  · have a2 : nI n ≤ nI 0 := hn ▸ a2
    have n0 : n = 0 := by
      rcases Nat.eq_zero_or_pos n with e | e
      · exact e
      · exact absurd a2 (nI_ge e (by omega))
    refine ⟨h0, And.intro (fun a3 => ?_) (fun a3 => ⟨Or.inl rfl, c3 a0 (Or.inr n0) ?_⟩)⟩
    · have a3 : nI n < nI 40 := hn ▸ a3
      have h40 : n < 40 := (nI_ltI (by omega) (by decide)).mp a3
      exact ⟨h0, h0, h0, 40, h1, vp h40, h0, h0, h0, 40, h2, vp h40, h0, h0, Or.inr rfl, g1 True trivial a0 (Or.inr n0) h40⟩
    · have a3 : ¬ nI n < nI 40 := hn ▸ a3
      have : ¬ n < 40 := fun x => a3 ((nI_ltI (a := n) (b := 40) (by omega) (by decide)).mpr x)
      omega
  · have a2 : ¬ nI n ≤ nI 0 := hn ▸ a2
    have n0 : 0 < n := by
      rcases Nat.eq_zero_or_pos n with e | e
      · subst e; exact absurd (nI_le (Nat.le_refl 0) (by decide)) a2
      · exact e
    have a1 : way = 1 := a1
    refine ⟨h0, 40, h1, vp_nI (n := 0) (by decide), h0, 40, h1, vp_nI (n := 0) (by decide), h0, 40, h2, vp_nI (n := 0) (by decide), h0, 40, h2, vp_nI (n := 0) (by decide), Or.inr rfl, ?_⟩
    have := c1 a0 a1 n0
    show Qr (some (.int 1)) (S.1, u2 (u2 S.2 (k + 1) 0 (S.2 (k + 1) 0 + (S.1 k 4).toInt64)) (k + 2) 0 (u2 S.2 (k + 1) 0 (S.2 (k + 1) 0 + (S.1 k 4).toInt64) (k + 2) 0 + u2 S.2 (k + 1) 0 (S.2 (k + 1) 0 + (S.1 k 4).toInt64) k 6))
    rw [u2_k _ _ _ _ (by omega), u2_k _ _ _ _ (by omega)]
    exact this
