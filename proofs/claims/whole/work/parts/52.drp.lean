/-! ===== dropOldest ===== -/
theorem nI_subL (a b : Nat) : nI (a + b) - nI a = nI b := by
  rw [← nI_add, Int32.add_comm, Int32.add_sub_cancel]
def drpC (S S' : Mem) (k g m : Nat) : Prop := (∀ j, j < m → S'.2 (k + 1) j = S.2 (k + 1) (g + j) ∧ S'.2 (k + 2) j = S.2 (k + 2) (g + j)) ∧ (∀ j, m ≤ j → S'.2 (k + 1) j = S.2 (k + 1) j ∧ S'.2 (k + 2) j = S.2 (k + 2) j) ∧ ∀ c, c ≠ k + 1 → c ≠ k + 2 → S'.2 c = S.2 c
set_option maxHeartbeats 1000000 in
theorem e_dropOldest {k g m : Nat} (hk : isProN 156 k) (S : Mem) (hn : S.1 k 7 = nI (g + m)) (hn4 : g + m ≤ 40) {Qr : QR} {Qx : QX} (h : ∀ X, drpC S (S.1, X) k g m → Qr none (u2 S.1 k 7 (nI m), X)) : vsp 156 6 (sX6_dropOldest 156) [.ref k, .int (nI g)] S Qr Qx := by
  obtain ⟨h0, h1, h2⟩ := hk
  refine ⟨h0, runL (α := Nat × (Nat → Nat → Int64)) rfl 60 2 0 (fun b => [(2, .int (nI (g + b.1))), (0, .ref k), (1, .int (nI g))]) (fun b => (S.1, b.2)) (fun b => m - b.1) (fun b => b.1 ≤ m ∧ drpC S (S.1, b.2) k g b.1) ?_ ?_⟩
  · rintro ⟨i, X⟩ ⟨hi, d1, d2, d3⟩
    dsimp only at hi d1 d2 d3
    refine ⟨h0, And.intro (fun a1 => ?_) (fun a1 => ?_)⟩
    · have a1 : nI (g + m) ≤ nI (g + i) := hn ▸ a1
      have e := le_of_nI (i := g + i) (n := g + m) (by omega) (by omega) a1
      obtain rfl : i = m := by omega
      refine ⟨h0, h0, rfl, ?_⟩
      show Qr none (u2 S.1 k 7 (S.1 k 7 - nI g), X)
      rw [hn, nI_subL]
      exact h X ⟨d1, d2, d3⟩
    · have a1 : ¬ nI (g + m) ≤ nI (g + i) := hn ▸ a1
      have hlt := lt_of_nI (i := g + i) (n := g + m) (by omega) (by omega) a1
      have s1 : nI (g + i) - nI g = nI i := nI_subL g i
      have v1 : vp_in (nI (g + i) - nI g) 40 := by rw [s1]; exact vp_nI (by omega)
      have v2 : (nI (g + i) - nI g).toNatClampNeg = i := by rw [s1]; exact nI_clamp (by omega)
      have v3 : (nI (g + i)).toNatClampNeg = g + i := nI_clamp (by omega)
      have d4 := d2 (g + i) (by omega)
      refine ⟨h0, h0, 40, h1, vp_nI (by omega), 40, h1, v1, h0, h0, 40, h2, vp_nI (by omega), 40, h2, v1, rfl, rfl, (i + 1, u2 (u2 X (k + 1) i (S.2 (k + 1) (g + i))) (k + 2) i (S.2 (k + 2) (g + i))), ⟨⟨by show i + 1 ≤ m; omega, fun j hj => ?_, fun j hj => ?_, fun c x y => ?_⟩, by show m - (i + 1) < m - i; omega⟩, ?_, congrArg (fun z => some (Value.int z)) (nI_1 (g + i)), rfl, rfl, trivial⟩
      · have hj : j < i + 1 := hj
        show u2 (u2 X (k + 1) i _) (k + 2) i _ (k + 1) j = _ ∧ u2 (u2 X (k + 1) i _) (k + 2) i _ (k + 2) j = _
        by_cases e : j = i
        · subst e
          rw [u2_k _ _ _ _ (by omega), u2_s, u2_s]; exact ⟨rfl, rfl⟩
        · rw [u2_k _ _ _ _ (by omega), u2_j _ _ _ _ e, u2_j _ _ _ _ e, u2_k _ _ _ _ (by omega)]; exact d1 j (by omega)
      · have hj : i + 1 ≤ j := hj
        show u2 (u2 X (k + 1) i _) (k + 2) i _ (k + 1) j = _ ∧ u2 (u2 X (k + 1) i _) (k + 2) i _ (k + 2) j = _
        rw [u2_k _ _ _ _ (by omega), u2_j _ _ _ _ (by omega), u2_j _ _ _ _ (by omega), u2_k _ _ _ _ (by omega)]; exact d2 j (by omega)
      · show u2 (u2 X (k + 1) i _) (k + 2) i _ c = _
        rw [u2_other _ _ _ y, u2_other _ _ _ x]; exact d3 c x y
      · show (S.1, u2 (u2 X (k + 1) (nI (g + i) - nI g).toNatClampNeg (X (k + 1) (nI (g + i)).toNatClampNeg)) (k + 2) (nI (g + i) - nI g).toNatClampNeg (u2 X (k + 1) (nI (g + i) - nI g).toNatClampNeg (X (k + 1) (nI (g + i)).toNatClampNeg) (k + 2) (nI (g + i)).toNatClampNeg)) = (S.1, u2 (u2 X (k + 1) i (S.2 (k + 1) (g + i))) (k + 2) i (S.2 (k + 2) (g + i)))
        rw [v2, v3, u2_k _ _ _ _ (by omega), d4.1, d4.2]
  · exact ⟨rfl, rfl, (0, S.2), ⟨Nat.zero_le _, fun j hj => absurd hj (Nat.not_lt_zero j), fun j _ => ⟨rfl, rfl⟩, fun c _ _ => rfl⟩, rfl, rfl, rfl, rfl, trivial⟩
