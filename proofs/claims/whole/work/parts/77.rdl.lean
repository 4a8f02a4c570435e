/-! ===== readLine ===== -/
/-- department d is told in S as in the row w -/
def depT (S : Mem) (w : Nat → Int64) (d : Nat) : Prop := (S.1 (4 + 17 * d) 0).toInt64 = w (5 + 9 * d) ∧ (S.1 (4 + 17 * d) 1).toInt64 = w (5 + 9 * d + 1) ∧ (S.1 (4 + 17 * d) 2).toInt64 = w (5 + 9 * d + 2) ∧ (S.1 (4 + 17 * d) 3).toInt64 = w (5 + 9 * d + 3) ∧ (∃ m, m ≤ 2 ∧ S.1 (4 + 17 * d) 4 = nI m ∧ w (5 + 9 * d + 4) = lN m ∧ ∀ i, i < m → S.2 (5 + 17 * d) i = w (5 + 9 * d + 5 + i)) ∧ (S.1 (4 + 17 * d) 6).toInt64 = w (5 + 9 * d + 7) ∧ (S.1 (4 + 17 * d) 7).toInt64 = w (5 + 9 * d + 8)
def proT (S : Mem) (w : Nat → Int64) (p : Nat) : Prop := ∀ j, j < 4 → (S.1 (89 + 3 * p) j).toInt64 = w (50 + 4 * p + j)
/-- n departments and m products are told in S as in w, no others yet -/
def TD (S : Mem) (w : Nat → Int64) (n m : Nat) : Prop := WFt w n m ∧ S.1 1 2 = nI n ∧ S.1 1 3 = nI m ∧ (S.1 1 4).toInt64 = w 2 ∧ (∀ d, d < n → depT S w d) ∧ (∀ d, n ≤ d → d < 5 → S.1 (4 + 17 * d) 4 = 0 ∧ S.1 (4 + 17 * d) 6 = -1 ∧ S.1 (4 + 17 * d) 7 = -1) ∧ (∀ p, p < m → proT S w p) ∧ ∀ p, m ≤ p → p < 4 → S.1 (89 + 3 * p) 3 = 0
/-- what reading never changes -/
def FRM (S S' : Mem) : Prop := (∀ c j, c = 0 ∨ (c = 1 ∧ (j < 2 ∨ 4 < j)) ∨ c = 2 ∨ c = 3 ∨ (4 ≤ c ∧ c < 89 ∧ ((c - 4) % 17 ≠ 0 ∨ 8 ≤ j)) ∨ (89 ≤ c ∧ c < 101 ∧ ((c - 89) % 3 ≠ 0 ∨ 4 ≤ j)) ∨ (101 ≤ c ∧ c ≠ 121) ∨ (c = 121 ∧ (j < 3 ∨ 6 < j)) → S'.1 c j = S.1 c j) ∧ ∀ c, c < 4 ∨ 89 ≤ c ∨ (c - 4) % 17 ≠ 1 → S'.2 c = S.2 c
theorem FRM.re {S : Mem} : FRM S S := ⟨fun _ _ _ => rfl, fun _ _ => rfl⟩
theorem FRM.trans {S T U : Mem} (h : FRM S T) (k : FRM T U) : FRM S U := ⟨fun c j x => (k.1 c j x).trans (h.1 c j x), fun c x => (k.2 c x).trans (h.2 c x)⟩
theorem FRM_ts {J : List Nat} {S S' : Mem} (h : TS J S S') (h0 : 0 ∉ J) (h1 : 1 ∉ J) (h2 : 2 ∉ J) (h7 : ∀ j, j ∈ J → j < 7) : FRM S S' := by
  refine ⟨fun c j x => ?_, fun c _ => by rw [h.1]⟩
  by_cases e : c = 121
  · subst e
    rcases (show j = 0 ∨ j = 1 ∨ j = 2 ∨ 6 < j by omega) with rfl | rfl | rfl | y
    · exact h.2.2 0 h0
    · exact h.2.2 1 h1
    · exact h.2.2 2 h2
    · exact h.2.2 j (fun z => absurd (h7 j z) (by omega))
  · rw [h.2.1 c e]
theorem FRM_dep {S S' : Mem} {d : Nat} {F : Nat → Int32} {v : Int32} (hd : d < 5) (h : DS (4 + 17 * d) S S') (h1 : S'.1 1 = u1 (S.1 1) 2 v) (hk : S'.1 (4 + 17 * d) = F) (hF : ∀ j, 8 ≤ j → F j = S.1 (4 + 17 * d) j) : FRM S S' := by
  refine ⟨fun c j x => ?_, fun c _ => by rw [h.1]⟩
  by_cases e1 : c = 1
  · subst e1
    rw [h1]
    exact if_neg (by omega)
  · by_cases e2 : c = 4 + 17 * d
    · subst e2
      rw [hk]
      exact hF j (by omega)
    · by_cases e3 : c = 121
      · subst e3
        exact h.2.2 j (by simp; omega)
      · rw [h.2.1 c e1 e3 e2]
theorem FRM_pro {S S' : Mem} {p : Nat} {F : Nat → Int32} {v : Int32} (hp : p < 4) (h : DS (89 + 3 * p) S S') (h1 : S'.1 1 = u1 (S.1 1) 3 v) (hk : S'.1 (89 + 3 * p) = F) (hF : ∀ j, 4 ≤ j → F j = S.1 (89 + 3 * p) j) : FRM S S' := by
  refine ⟨fun c j x => ?_, fun c _ => by rw [h.1]⟩
  by_cases e1 : c = 1
  · subst e1
    rw [h1]
    exact if_neg (by omega)
  · by_cases e2 : c = 89 + 3 * p
    · subst e2
      rw [hk]
      exact hF j (by omega)
    · by_cases e3 : c = 121
      · subst e3
        exact h.2.2 j (by simp; omega)
      · rw [h.2.1 c e1 e3 e2]
theorem depT.move {S S' : Mem} {w w' : Nat → Int64} {d : Nat} (h : depT S w d) (e1 : S'.1 (4 + 17 * d) = S.1 (4 + 17 * d)) (e2 : S'.2 (5 + 17 * d) = S.2 (5 + 17 * d)) (e : ∀ i, 5 + 9 * d ≤ i → i < 14 + 9 * d → w' i = w i) : depT S' w' d := by
  obtain ⟨h1, h2, h3, h4, ⟨m, m2, h5, h6, h7⟩, h8, h9⟩ := h
  unfold depT
  rw [e1, e2, e _ (by omega) (by omega), e (5 + 9 * d + 1) (by omega) (by omega), e (5 + 9 * d + 2) (by omega) (by omega), e (5 + 9 * d + 3) (by omega) (by omega), e (5 + 9 * d + 4) (by omega) (by omega), e (5 + 9 * d + 7) (by omega) (by omega), e (5 + 9 * d + 8) (by omega) (by omega)]
  exact ⟨h1, h2, h3, h4, ⟨m, m2, h5, h6, fun i hi => by rw [e _ (by omega) (by omega)]; exact h7 i hi⟩, h8, h9⟩
theorem proT.move {S S' : Mem} {w w' : Nat → Int64} {p : Nat} (h : proT S w p) (e1 : S'.1 (89 + 3 * p) = S.1 (89 + 3 * p)) (e : ∀ i, 50 + 4 * p ≤ i → i < 54 + 4 * p → w' i = w i) : proT S' w' p := fun j hj => by
  rw [e1, e _ (by omega) (by omega)]
  exact h j hj
theorem TD.ts {J : List Nat} {S S' : Mem} {w : Nat → Int64} {n m : Nat} (h : TD S w n m) (t : TS J S S') : TD S' w n m := by
  obtain ⟨h1, h2, h3, h4, h5, h6, h7, h8⟩ := h
  have e : ∀ c, c ≠ 121 → S'.1 c = S.1 c := t.2.1
  have n5 := h1.1
  have m4 := h1.2.1
  refine ⟨h1, by rw [e 1 (by decide)]; exact h2, by rw [e 1 (by decide)]; exact h3, by rw [e 1 (by decide)]; exact h4, fun d hd => (h5 d hd).move (e _ (by omega)) (by rw [t.1]) (fun _ _ _ => rfl), fun d x y => by rw [e _ (by omega)]; exact h6 d x y, fun p hp => (h7 p hp).move (e _ (by omega)) (fun _ _ _ => rfl), fun p x y => by rw [e _ (by omega)]; exact h8 p x y⟩
theorem TD_dep {S S' : Mem} {w : Nat → Int64} {n m pt rt sc : Nat} {wy : Int32} {bt bs : Int64} (h : TD S w n m) (hn : n < 5) (hw' : WFt (w1 (wDep w n wy.toInt64 pt rt sc bt bs) 0) (n + 1) m) (hD : DS (4 + 17 * n) S S') (h1 : S'.1 1 = u1 (S.1 1) 2 (nI (n + 1))) (b1 : pt ≤ 100000) (b2 : rt ≤ 100000) (b3 : sc ≤ 100000) (g0 : S'.1 (4 + 17 * n) 0 = wy) (g1 : S'.1 (4 + 17 * n) 1 = nI pt) (g2 : S'.1 (4 + 17 * n) 2 = nI rt) (g3 : S'.1 (4 + 17 * n) 3 = nI sc) (g4 : S'.1 (4 + 17 * n) 4 = S.1 (4 + 17 * n) 4) (g6 : (S'.1 (4 + 17 * n) 6).toInt64 = bt) (g7 : (S'.1 (4 + 17 * n) 7).toInt64 = bs) : TD S' (w1 (wDep w n wy.toInt64 pt rt sc bt bs) 0) (n + 1) m := by
  obtain ⟨hw, h2, h3, h4, h5, h6, h7, h8⟩ := h
  have n5 := hw.1
  have m4 := hw.2.1
  obtain ⟨v0, v1, v2, v3, v4, v5, v7, v8⟩ := wDep_v w n wy.toInt64 pt rt sc bt bs
  have oo := @wDep_o w n wy.toInt64 pt rt sc bt bs
  revert hw' v0 v1 v2 v3 v4 v5 v7 v8 oo
  generalize wDep w n wy.toInt64 pt rt sc bt bs = y
  intro hw' v0 v1 v2 v3 v4 v5 v7 v8 oo
  have o1 : ∀ i, i ≠ 0 → w1 y 0 i = y i := fun i hi => w1_o y hi
  have fr : ∀ c, c ≠ 1 → c ≠ 121 → c ≠ 4 + 17 * n → S'.1 c = S.1 c := hD.2.1
  refine ⟨hw', ?_, ?_, ?_, fun d hd => ?_, fun d x y => ?_, fun p hp => ?_, fun p x y => ?_⟩
  · rw [h1]; exact if_pos rfl
  · rw [h1]; exact (if_neg (by decide)).trans h3
  · rw [h1, o1 2 (by decide), oo (by omega), show u1 (S.1 1) 2 (nI (n + 1)) 4 = S.1 1 4 from if_neg (by decide)]; exact h4
  · by_cases e : d = n
    · subst e
      refine ⟨?_, ?_, ?_, ?_, ⟨0, by omega, ?_, ?_, fun i hi => absurd hi (Nat.not_lt_zero i)⟩, ?_, ?_⟩
      · rw [g0, o1 _ (by omega), v0]
      · rw [g1, o1 _ (by omega), v1, nI_l (by omega)]
      · rw [g2, o1 _ (by omega), v2, nI_l (by omega)]
      · rw [g3, o1 _ (by omega), v3, nI_l (by omega)]
      · rw [g4]; exact (h6 d (Nat.le_refl d) (by omega)).1
      · rw [o1 _ (by omega), v4]; rfl
      · rw [g6, o1 _ (by omega), v7]
      · rw [g7, o1 _ (by omega), v8]
    · exact (h5 d (by omega)).move (fr _ (by omega) (by omega) (by omega)) (by rw [hD.1]) (fun i x y => (o1 i (by omega)).trans (oo (by omega)))
  · rw [fr _ (by omega) (by omega) (by omega)]; exact h6 d (by omega) y
  · exact (h7 p hp).move (fr _ (by omega) (by omega) (by omega)) (fun i x y => (o1 i (by omega)).trans (oo (by omega)))
  · rw [fr _ (by omega) (by omega) (by omega)]; exact h8 p x y
theorem TD_pro {S S' : Mem} {w : Nat → Int64} {n m sh pr co : Nat} {b : Int64} {v : Int32} (h : TD S w n m) (hm : m < 4) (hw' : WFt (w1 (u1L (u1L (u1L (u1L w (50 + 4 * m) (lN sh)) (50 + 4 * m + 1) (lN pr)) (50 + 4 * m + 2) (lN co)) (50 + 4 * m + 3) b) 1) n (m + 1)) (hD : DS (89 + 3 * m) S S') (h1 : S'.1 1 = u1 (S.1 1) 3 (nI (m + 1))) (b1 : sh ≤ 100000) (b2 : pr ≤ 100000) (b3 : co ≤ 100000) (g0 : S'.1 (89 + 3 * m) 0 = nI sh) (g1 : S'.1 (89 + 3 * m) 1 = nI pr) (g2 : S'.1 (89 + 3 * m) 2 = nI co) (g3 : (S'.1 (89 + 3 * m) 3).toInt64 = b) : TD S' (w1 (u1L (u1L (u1L (u1L w (50 + 4 * m) (lN sh)) (50 + 4 * m + 1) (lN pr)) (50 + 4 * m + 2) (lN co)) (50 + 4 * m + 3) b) 1) n (m + 1) := by
  obtain ⟨hw, h2, h3, h4, h5, h6, h7, h8⟩ := h
  have n5 := hw.1
  have m4 := hw.2.1
  have oo : ∀ i, i < 50 + 4 * m ∨ 54 + 4 * m ≤ i → (u1L (u1L (u1L (u1L w (50 + 4 * m) (lN sh)) (50 + 4 * m + 1) (lN pr)) (50 + 4 * m + 2) (lN co)) (50 + 4 * m + 3) b) i = w i := fun i hi => by
    rw [u1L_o _ _ (by omega), u1L_o _ _ (by omega), u1L_o _ _ (by omega), u1L_o _ _ (by omega)]
  have v0 : (u1L (u1L (u1L (u1L w (50 + 4 * m) (lN sh)) (50 + 4 * m + 1) (lN pr)) (50 + 4 * m + 2) (lN co)) (50 + 4 * m + 3) b) (50 + 4 * m) = lN sh := by
    rw [u1L_o _ _ (by omega), u1L_o _ _ (by omega), u1L_o _ _ (by omega), u1L_s]
  have v1 : (u1L (u1L (u1L (u1L w (50 + 4 * m) (lN sh)) (50 + 4 * m + 1) (lN pr)) (50 + 4 * m + 2) (lN co)) (50 + 4 * m + 3) b) (50 + 4 * m + 1) = lN pr := by
    rw [u1L_o _ _ (by omega), u1L_o _ _ (by omega), u1L_s]
  have v2 : (u1L (u1L (u1L (u1L w (50 + 4 * m) (lN sh)) (50 + 4 * m + 1) (lN pr)) (50 + 4 * m + 2) (lN co)) (50 + 4 * m + 3) b) (50 + 4 * m + 2) = lN co := by
    rw [u1L_o _ _ (by omega), u1L_s]
  have v3 := u1L_s (u1L (u1L (u1L w (50 + 4 * m) (lN sh)) (50 + 4 * m + 1) (lN pr)) (50 + 4 * m + 2) (lN co)) (50 + 4 * m + 3) b
  revert hw' oo v0 v1 v2 v3
  generalize (u1L (u1L (u1L (u1L w (50 + 4 * m) (lN sh)) (50 + 4 * m + 1) (lN pr)) (50 + 4 * m + 2) (lN co)) (50 + 4 * m + 3) b) = y
  intro hw' oo v0 v1 v2 v3
  have o1 : ∀ i, i ≠ 1 → w1 y 1 i = y i := fun i hi => w1_o y hi
  have fr : ∀ c, c ≠ 1 → c ≠ 121 → c ≠ 89 + 3 * m → S'.1 c = S.1 c := hD.2.1
  refine ⟨hw', ?_, ?_, ?_, fun d hd => ?_, fun d x y => ?_, fun p hp => ?_, fun p x y => ?_⟩
  · rw [h1]; exact (if_neg (by decide)).trans h2
  · rw [h1]; exact if_pos rfl
  · rw [h1, o1 2 (by decide), oo _ (by omega), show u1 (S.1 1) 3 (nI (m + 1)) 4 = S.1 1 4 from if_neg (by decide)]; exact h4
  · exact (h5 d hd).move (fr _ (by omega) (by omega) (by omega)) (by rw [hD.1]) (fun i x y => (o1 i (by omega)).trans (oo _ (by omega)))
  · rw [fr _ (by omega) (by omega) (by omega)]; exact h6 d x y
  · by_cases e : p = m
    · subst e
      intro j hj
      rw [o1 _ (by omega)]
      rcases (show j = 0 ∨ j = 1 ∨ j = 2 ∨ j = 3 by omega) with rfl | rfl | rfl | rfl
      · rw [g0, nI_l (by omega)]; exact v0.symm
      · rw [g1, nI_l (by omega), v1]
      · rw [g2, nI_l (by omega), v2]
      · rw [g3, v3]
    · exact (h7 p (by omega)).move (fr _ (by omega) (by omega) (by omega)) (fun i x y => (o1 i (by omega)).trans (oo _ (by omega)))
  · rw [fr _ (by omega) (by omega) (by omega)]; exact h8 p (by omega) y
theorem TD_mat {S T : Mem} {w : Nat → Int64} {n m d k far : Nat} (h : TD S w n m) (hd : d < n) (hk : k < 2) (hS : S.1 (4 + 17 * d) 4 = nI k) (hf : far ≤ 100000) (hw' : WFt (w1 (u1L w (5 + 9 * d + 5 + k) (lN far)) (5 + 9 * d + 4)) n m) {J : List Nat} (t : TS J S T) : TD (u2 T.1 (4 + 17 * d) 4 (nI (k + 1)), u2 T.2 (5 + 17 * d) k (lN far)) (w1 (u1L w (5 + 9 * d + 5 + k) (lN far)) (5 + 9 * d + 4)) n m := by
  obtain ⟨hw, h2, h3, h4, h5, h6, h7, h8⟩ := h
  have n5 := hw.1
  have m4 := hw.2.1
  have e : ∀ c, c ≠ 121 → c ≠ 4 + 17 * d → u2 T.1 (4 + 17 * d) 4 (nI (k + 1)) c = S.1 c := fun c x y => (u2_other _ _ _ y).trans (t.2.1 c x)
  have ek : ∀ j, j ≠ 4 → u2 T.1 (4 + 17 * d) 4 (nI (k + 1)) (4 + 17 * d) j = S.1 (4 + 17 * d) j := fun j x => (u2_j T.1 _ _ _ x).trans (by rw [t.2.1 _ (by omega)])
  have o1 : ∀ i, i ≠ 5 + 9 * d + 4 → i ≠ 5 + 9 * d + 5 + k → w1 (u1L w (5 + 9 * d + 5 + k) (lN far)) (5 + 9 * d + 4) i = w i := fun i x y => (w1_o _ x).trans (u1L_o w _ y)
  refine ⟨hw', ?_, ?_, ?_, fun c hc => ?_, fun c x y => ?_, fun p hp => ?_, fun p x y => ?_⟩
  · show u2 T.1 (4 + 17 * d) 4 (nI (k + 1)) 1 2 = _
    rw [e 1 (by decide) (by omega)]; exact h2
  · show u2 T.1 (4 + 17 * d) 4 (nI (k + 1)) 1 3 = _
    rw [e 1 (by decide) (by omega)]; exact h3
  · show (u2 T.1 (4 + 17 * d) 4 (nI (k + 1)) 1 4).toInt64 = _
    rw [e 1 (by decide) (by omega), o1 _ (by omega) (by omega)]; exact h4
  · by_cases z : c = d
    · subst z
      obtain ⟨a1, a2, a3, a4, ⟨q, q2, a5, a6, a7⟩, a8, a9⟩ := h5 c hd
      have qk : q = k := by
        rw [a5] at hS
        exact (nI_eq (by omega) (by omega)).mp hS
      subst qk
      refine ⟨?_, ?_, ?_, ?_, ⟨q + 1, by omega, u2_s T.1 _ _ _, lN_s1 ((u1L_o w _ (by omega)).trans a6), fun i hi => ?_⟩, ?_, ?_⟩
      · show (u2 T.1 (4 + 17 * c) 4 (nI (q + 1)) (4 + 17 * c) 0).toInt64 = _
        rw [ek _ (by decide), o1 _ (by omega) (by omega)]; exact a1
      · show (u2 T.1 (4 + 17 * c) 4 (nI (q + 1)) (4 + 17 * c) 1).toInt64 = _
        rw [ek _ (by decide), o1 _ (by omega) (by omega)]; exact a2
      · show (u2 T.1 (4 + 17 * c) 4 (nI (q + 1)) (4 + 17 * c) 2).toInt64 = _
        rw [ek _ (by decide), o1 _ (by omega) (by omega)]; exact a3
      · show (u2 T.1 (4 + 17 * c) 4 (nI (q + 1)) (4 + 17 * c) 3).toInt64 = _
        rw [ek _ (by decide), o1 _ (by omega) (by omega)]; exact a4
      · show u2 T.2 (5 + 17 * c) q (lN far) (5 + 17 * c) i = _
        by_cases z : i = q
        · subst z
          rw [u2_s, w1_o _ (by omega), u1L_s]
        · rw [u2_j _ _ _ _ z, o1 _ (by omega) (by omega), t.1]; exact a7 i (by omega)
      · show (u2 T.1 (4 + 17 * c) 4 (nI (q + 1)) (4 + 17 * c) 6).toInt64 = _
        rw [ek _ (by decide), o1 _ (by omega) (by omega)]; exact a8
      · show (u2 T.1 (4 + 17 * c) 4 (nI (q + 1)) (4 + 17 * c) 7).toInt64 = _
        rw [ek _ (by decide), o1 _ (by omega) (by omega)]; exact a9
    · exact (h5 c hc).move (e _ (by omega) (by omega)) ((u2_other T.2 _ _ (by omega)).trans (by rw [t.1])) (fun i x y => o1 i (by omega) (by omega))
  · show u2 T.1 (4 + 17 * d) 4 (nI (k + 1)) (4 + 17 * c) 4 = 0 ∧ u2 T.1 (4 + 17 * d) 4 (nI (k + 1)) (4 + 17 * c) 6 = -1 ∧ u2 T.1 (4 + 17 * d) 4 (nI (k + 1)) (4 + 17 * c) 7 = -1
    rw [e _ (by omega) (by omega)]; exact h6 c x y
  · exact (h7 p hp).move (e _ (by omega) (by omega)) (fun i x y => o1 i (by omega) (by omega))
  · show u2 T.1 (4 + 17 * d) 4 (nI (k + 1)) (89 + 3 * p) 3 = 0
    rw [e _ (by omega) (by omega)]; exact h8 p x y
