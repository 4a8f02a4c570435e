/-! ===== the model's feed ===== -/
theorem shL_m : ∀ j, j < 4 → nI 24 - nI 8 * nI j = shL j := by decide
set_option maxHeartbeats 2000000 in
theorem e_mFeed {S : Mem} {tp : Nat} {sg : Nat → Int32} {fp : Int32} {r : Nat → Int32} {w : Nat → Int64} {H : HL} (hI : MI S tp sg fp r w H) (htp : tp ≤ 400) (a b c d e : Int32) {Qr : QR} {Qx : QX} (h0 : 400 < tp + 20 → ∀ S', MI S' tp sg fp r w H → FC S S' → Qr (some (.int (-1))) S') (h1 : tp + 20 ≤ 400 → ∀ S', MI S' (tp + 20) (fdS sg tp a b c d e) fp r w H → FC S S' → Qr (some (.int (nI (tp + 20)))) S') : vsp 156 10 (sX10_feed 156) [.ref 138, .int a, .int b, .int c, .int d, .int e] S Qr Qx := by
  obtain ⟨i0, f0⟩ := hI.thr 0
  have z2 : (th0 S).1 138 2 = nI tp := i0.2.2.1.1
  have ad : (th0 S).1 138 2 + nI 20 = nI (tp + 20) := by rw [z2, nI_add]
  obtain ⟨m1, m2, ⟨m3, m4⟩, m5, ⟨m6, m7, m8⟩⟩ := hI
  refine ⟨tM, runL (α := Nat × Mem) rfl 160 23 0 (fun q : Nat × Mem => [(6, .int (nI q.1)), (0, .ref 138), (1, .int a), (2, .int b), (3, .int c), (4, .int d), (5, .int e)]) (fun q => q.2) (fun q => 20 - q.1) (fun q => tp + 20 ≤ 400 ∧ q.1 ≤ 20 ∧ q.2.2 = S.2 ∧ (∀ k, k ≠ 138 → k ≠ 140 → q.2.1 k = S.1 k) ∧ (∀ j, j ≠ 0 → j ≠ 2 → q.2.1 138 j = S.1 138 j) ∧ q.2.1 138 0 = 0 ∧ q.2.1 138 2 = nI (tp + q.1) ∧ (∀ i, i < tp → q.2.1 140 i = S.1 140 i) ∧ ∀ j, j < q.1 → q.2.1 140 (tp + j) = (pk5 a b c d e (j / 4) >>> (shL (j % 4) &&& 31)) &&& 255) ?_ ?_⟩
  · rintro ⟨k, T⟩ ⟨h4, hk, e2, ec, ej, e0, e1, eo, eb⟩
    dsimp only at hk e2 ec ej e0 e1 eo eb
    refine And.intro (fun q => ?_) (fun q => ?_)
    · have q : nI 20 ≤ nI k := q
      obtain rfl := le_of_nI (by decide) hk q
      refine ⟨tM, ?_⟩
      show Qr (some (.int (T.1 138 2))) T
      rw [e1]
      refine h1 h4 T ⟨(ej 5 (by decide) (by decide)).trans m1, fun i hi => by rw [ec 139 (by decide) (by decide)]; exact m2 i hi, ⟨e1, fun i hi => ?_⟩, fun i hi => by rw [e2]; exact m5 i hi, ⟨(ej 13 (by decide) (by decide)).trans m6, m7, fun i hi j hj => by rw [e2]; exact m8 i hi j hj⟩⟩ (fun c hc => ⟨ec c (by omega) (by omega), by rw [e2]⟩)
      unfold fdS
      by_cases z : i < tp
      · rw [if_pos z, eo i z]; exact m4 i z
      · rw [if_neg z]
        have := eb (i - tp) (by omega)
        rw [show tp + (i - tp) = i by omega] at this
        rw [this]
        exact byte_rel _
    · have q : ¬ nI 20 ≤ nI k := q
      have hlt := lt_of_nI (by decide) hk q
      have cl : (T.1 138 2).toNatClampNeg = tp + k := by rw [e1]; exact nI_clamp (by omega)
      have vv : vp_in (T.1 138 2) 400 := by rw [e1]; exact vp_nI (by omega)
      have sh : nI 24 - nI 8 * (nI k - nI k / nI 4 * nI 4) = shL (k % 4) := by rw [pk_rem (by omega) (by decide) (by decide), shL_m _ (Nat.mod_lt _ (by decide))]
      have fin : ∀ v, v = pk5 a b c d e (k / 4) → wpH 156 pX10_feed (kX10_feed 156) hd0 [] none 8 (some .int) Qr Qx [(23, LC 0 (fun q : Nat × Mem => [(6, .int (nI q.1)), (0, .ref 138), (1, .int a), (2, .int b), (3, .int c), (4, .int d), (5, .int e)]) (fun q => q.2) (fun q => (tp + 20 ≤ 400 ∧ q.1 ≤ 20 ∧ q.2.2 = S.2 ∧ (∀ k, k ≠ 138 → k ≠ 140 → q.2.1 k = S.1 k) ∧ (∀ j, j ≠ 0 → j ≠ 2 → q.2.1 138 j = S.1 138 j) ∧ q.2.1 138 0 = 0 ∧ q.2.1 138 2 = nI (tp + q.1) ∧ (∀ i, i < tp → q.2.1 140 i = S.1 140 i) ∧ ∀ j, j < q.1 → q.2.1 140 (tp + j) = (pk5 a b c d e (j / 4) >>> (shL (j % 4) &&& 31)) &&& 255) ∧ 20 - q.1 < 20 - k))] 60 (jmp 76 pX10_feed) 0 [(6, .int (nI k)), (0, .ref 138), (1, .int a), (2, .int b), (3, .int c), (4, .int d), (5, .int e)] [.int v] T := by
        intro v hv
        refine ⟨tM, tM, (by decide), 400, tFed, vv, tM, tM, rfl, rfl, (k + 1, (u2 (u2 T.1 140 (tp + k) ((v >>> (shL (k % 4) &&& 31)) &&& 255)) 138 2 (nI (tp + (k + 1))), T.2)), ⟨⟨h4, hlt, e2, fun c x y => ?_, fun j x y => ?_, ?_, u2_s (u2 T.1 140 (tp + k) ((v >>> (shL (k % 4) &&& 31)) &&& 255)) 138 2 (nI (tp + (k + 1))), fun i hi => ?_, fun j hj => ?_⟩, by show 20 - (k + 1) < 20 - k; omega⟩, ?_, congrArg (fun z => some (Value.int z)) (nI_1 k), rfl, rfl, rfl, rfl, rfl, rfl, trivial⟩
        · exact (u2_other _ _ _ x).trans ((u2_other _ _ _ y).trans (ec c x y))
        · show u2 (u2 T.1 140 (tp + k) ((v >>> (shL (k % 4) &&& 31)) &&& 255)) 138 2 (nI (tp + (k + 1))) 138 j = S.1 138 j
          rw [u2_j _ _ _ _ y, u2_k _ _ _ _ (by decide)]; exact ej j x y
        · show u2 (u2 T.1 140 (tp + k) ((v >>> (shL (k % 4) &&& 31)) &&& 255)) 138 2 (nI (tp + (k + 1))) 138 0 = 0
          rw [u2_j _ _ _ _ (by decide), u2_k _ _ _ _ (by decide)]; exact e0
        · show u2 (u2 T.1 140 (tp + k) ((v >>> (shL (k % 4) &&& 31)) &&& 255)) 138 2 (nI (tp + (k + 1))) 140 i = S.1 140 i
          rw [u2_k _ _ _ _ (by decide), u2_j _ _ _ _ (by omega)]; exact eo i hi
        · have hj : j < k + 1 := hj
          show u2 (u2 T.1 140 (tp + k) ((v >>> (shL (k % 4) &&& 31)) &&& 255)) 138 2 (nI (tp + (k + 1))) 140 (tp + j) = _
          rw [u2_k _ _ _ _ (by decide)]
          by_cases z : j = k
          · subst z; rw [u2_s, hv]
          · rw [u2_j _ _ _ _ (by omega)]; exact eb j (by omega)
        · show (u2 (u2 T.1 140 (T.1 138 2).toNatClampNeg ((v >>> ((nI 24 - nI 8 * (nI k - nI k / nI 4 * nI 4)) &&& 31)) &&& 255)) 138 2 (u2 T.1 140 (T.1 138 2).toNatClampNeg ((v >>> ((nI 24 - nI 8 * (nI k - nI k / nI 4 * nI 4)) &&& 31)) &&& 255) 138 2 + 1), T.2) = _
          rw [sh, cl, u2_k _ _ _ _ (by decide), e1, nI_1]
          rfl
      have ge : ∀ j, j < 2 ^ 31 → nI j ≤ nI k → j ≤ k := fun j hj z => (nI_leI hj (by omega)).mp z
      have lt : ∀ j, j < 2 ^ 31 → ¬ nI j ≤ nI k → k < j := fun j hj z => by
        rcases Nat.lt_or_ge k j with y | y
        · exact y
        · exact absurd (nI_le y (by omega)) z
      refine And.intro (fun q1 => And.intro (fun q2 => And.intro (fun q3 => And.intro (fun q4 => fin e ?_) (fun q4 => fin d ?_)) (fun q3 => fin c ?_)) (fun q2 => fin b ?_)) (fun q1 => fin a ?_)
      · have := ge 16 (by decide) q4
        rw [show k / 4 = 4 by omega]; rfl
      · have := lt 16 (by decide) q4
        have := ge 12 (by decide) q3
        rw [show k / 4 = 3 by omega]; rfl
      · have := lt 12 (by decide) q3
        have := ge 8 (by decide) q2
        rw [show k / 4 = 2 by omega]; rfl
      · have := lt 8 (by decide) q2
        have := ge 4 (by decide) q1
        rw [show k / 4 = 1 by omega]; rfl
      · have := lt 4 (by decide) q1
        rw [show k / 4 = 0 by omega]; rfl
  · refine ⟨tM, tM, And.intro (fun q => ?_) (fun q => ?_)⟩
    · have q : (th0 S).1 138 2 + nI 20 ≤ nI 400 := q
      rw [ad] at q
      have q := (nI_leI (by omega) (by decide)).mp q
      refine ⟨rfl, rfl, (0, th0 S), ⟨q, Nat.zero_le _, rfl, fun c x y => u2_other _ _ _ x, fun j x y => u2_j S.1 138 138 0 x, u2_s S.1 138 0 0, z2, fun i hi => ?_, fun j hj => absurd hj (Nat.not_lt_zero j)⟩, rfl, rfl, rfl, rfl, rfl, rfl, rfl, rfl, trivial⟩
      show u2 S.1 138 0 0 140 i = S.1 140 i
      rw [u2_k _ _ _ _ (by decide)]
    · have q : ¬ (th0 S).1 138 2 + nI 20 ≤ nI 400 := q
      rw [ad] at q
      refine h0 ?_ _ i0 f0
      rcases Nat.lt_or_ge 400 (tp + 20) with z | z
      · exact z
      · exact absurd (nI_le z (by decide)) q
