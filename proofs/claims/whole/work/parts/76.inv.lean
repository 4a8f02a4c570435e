/-! ===== what a text that is read says ===== -/
def WFd (w : Nat → Int64) (d : Nat) : Prop := (w (5 + 9 * d) = 0 ∨ w (5 + 9 * d) = 1) ∧ (∃ v, v ≤ 100 ∧ w (5 + 9 * d + 1) = lN v) ∧ (∃ v, v ≤ 50 ∧ w (5 + 9 * d + 2) = lN v) ∧ (∃ v, v ≤ 999 ∧ w (5 + 9 * d + 3) = lN v) ∧ (∃ m, m ≤ 2 ∧ w (5 + 9 * d + 4) = lN m ∧ (∀ i, i < m → ∃ v, v ≤ 100 ∧ w (5 + 9 * d + 5 + i) = lN v) ∧ ∀ i, m ≤ i → i < 2 → w (5 + 9 * d + 5 + i) = -1) ∧ ((w (5 + 9 * d + 7) = -1 ∧ w (5 + 9 * d + 8) = -1) ∨ ∃ b s, b ≤ d ∧ 1 ≤ s ∧ s ≤ 90 ∧ w (5 + 9 * d + 7) = lN b ∧ w (5 + 9 * d + 8) = lN s)
def WFp (w : Nat → Int64) (p : Nat) : Prop := (∃ v, 1 ≤ v ∧ v ≤ 100 ∧ w (50 + 4 * p) = lN v) ∧ (∃ v, v ≤ 9999 ∧ w (50 + 4 * p + 1) = lN v) ∧ (∃ v, v ≤ 9999 ∧ w (50 + 4 * p + 2) = lN v) ∧ (w (50 + 4 * p + 3) = 0 ∨ w (50 + 4 * p + 3) = 1)
def WFt (w : Nat → Int64) (n m : Nat) : Prop := n ≤ 5 ∧ m ≤ 4 ∧ w 0 = lN n ∧ w 1 = lN m ∧ (w 2 = 0 ∨ w 2 = 1) ∧ (∀ d, d < n → WFd w d) ∧ ∀ p, p < m → WFp w p
theorem WFd.move {w w' : Nat → Int64} {d : Nat} (h : WFd w d) (e : ∀ i, 5 + 9 * d ≤ i → i < 14 + 9 * d → w' i = w i) : WFd w' d := by
  obtain ⟨h1, h2, h3, h4, ⟨m, m2, h5, h6, h7⟩, h8⟩ := h
  have f : ∀ i, i < 9 → w' (5 + 9 * d + i) = w (5 + 9 * d + i) := fun i hi => e _ (by omega) (by omega)
  have f0 := f 0 (by decide)
  refine ⟨?_, ?_, ?_, ?_, ⟨m, m2, ?_, fun i hi => ?_, fun i x y => ?_⟩, ?_⟩
  · rw [show 5 + 9 * d = 5 + 9 * d + 0 from rfl, f0]; exact h1
  · rw [f 1 (by decide)]; exact h2
  · rw [f 2 (by decide)]; exact h3
  · rw [f 3 (by decide)]; exact h4
  · rw [f 4 (by decide)]; exact h5
  · rw [e _ (by omega) (by omega)]; exact h6 i hi
  · rw [e _ (by omega) (by omega)]; exact h7 i x y
  · rw [f 7 (by decide), f 8 (by decide)]; exact h8
theorem WFp.move {w w' : Nat → Int64} {p : Nat} (h : WFp w p) (e : ∀ i, 50 + 4 * p ≤ i → i < 54 + 4 * p → w' i = w i) : WFp w' p := by
  obtain ⟨h1, h2, h3, h4⟩ := h
  refine ⟨?_, ?_, ?_, ?_⟩
  · rw [e _ (by omega) (by omega)]; exact h1
  · rw [e _ (by omega) (by omega)]; exact h2
  · rw [e _ (by omega) (by omega)]; exact h3
  · rw [e _ (by omega) (by omega)]; exact h4
theorem inr_pair {a a' : Nat} {w w' : Nat → Int64} (h : (Sum.inr (a, w) : RR) = .inr (a', w')) : a = a' ∧ w = w' := Prod.mk.inj (Sum.inr.inj h)
theorem pNum_inv {g : Nat → Int32} {len a : Nat} {lo hi : Int32} {k : Nat → Nat → RR} {r : Nat × (Nat → Int64)} (hg : ∀ i, len ≤ i → g i < 0) (hal : a ≤ len) (h : pNum g len a lo hi k = .inr r) : nuOk g len a lo hi ∧ k (nuE g len a) (nuV g len a) = .inr r ∧ a < nuE g len a ∧ nuE g len a ≤ len := by
  unfold pNum at h
  cases hd : isDi (g (rend isBl g len a)) with
  | false => rw [hd] at h; exact absurd h (by simp)
  | true =>
    rw [hd] at h
    by_cases hc : nI (nuV g len a) < lo ∨ ¬ nI (nuV g len a) ≤ hi
    · rw [if_pos hc] at h; exact absurd h (by simp)
    · rw [if_neg hc] at h
      have c1 : ¬ nI (nuV g len a) < lo := fun x => hc (Or.inl x)
      have c2 : nI (nuV g len a) ≤ hi := Decidable.byContradiction (fun x => hc (Or.inr x))
      refine ⟨⟨hd, c1, c2⟩, h, ?_, nu_len hal⟩
      have rl := rend_le (P := isBl) (g := g) hal
      rcases Nat.lt_or_ge (rend isBl g len a) len with q | q
      · have := (rend_le (P := isDi) (g := g) (len := len) (a := rend isBl g len a + 1) (by omega)).1
        rw [← rend_yes q hd] at this
        have : rend isBl g len a + 1 ≤ nuE g len a := this
        omega
      · rw [isDi_neg (hg _ q)] at hd; exact absurd hd (by decide)
theorem pWay_inv {g : Nat → Int32} {len a : Nat} {k : Nat → Int64 → RR} {r : Nat × (Nat → Int64)} (hg : ∀ i, len ≤ i → g i < 0) (hal : a ≤ len) (h : pWay g len a k = .inr r) : ∃ b v, (v = 0 ∨ v = 1) ∧ a < b ∧ b ≤ len ∧ k b v = .inr r := by
  unfold pWay at h
  have rl := rend_le (P := isBl) (g := g) hal
  by_cases h6 : mtc g (rend isBl g len a) 6
  · rw [if_pos h6] at h
    exact ⟨rend isBl g len a + 5, 0, Or.inl rfl, by omega, mtc_len (i := 6) (by decide) rl.2 hg h6, h⟩
  · rw [if_neg h6] at h
    by_cases h7 : mtc g (rend isBl g len a) 7
    · rw [if_pos h7] at h
      exact ⟨rend isBl g len a + 7, 1, Or.inr rfl, by omega, mtc_len (i := 7) (by decide) rl.2 hg h7, h⟩
    · rw [if_neg h7] at h; exact absurd h (by simp)
theorem wDep_o (w : Nat → Int64) (d : Nat) (wy : Int64) (pt rt sc : Nat) (bt bs : Int64) {i : Nat} (h : i < 5 + 9 * d ∨ 14 + 9 * d ≤ i) : wDep w d wy pt rt sc bt bs i = w i := by
  unfold wDep
  rw [if_neg (by omega), if_neg (by omega), if_neg (by omega), if_neg (by omega), if_neg (by omega), if_neg (by omega), if_neg (by omega), if_neg (by omega)]
theorem u1L_s (w : Nat → Int64) (i : Nat) (v : Int64) : u1L w i v i = v := if_pos rfl
theorem u1L_o (w : Nat → Int64) {i j : Nat} (v : Int64) (h : j ≠ i) : u1L w i v j = w j := if_neg h
theorem w1_o (w : Nat → Int64) {i j : Nat} (h : j ≠ i) : w1 w i j = w j := if_neg h
theorem w1_s (w : Nat → Int64) (i : Nat) : w1 w i i = w i + 1 := if_pos rfl
theorem wDep_v (w : Nat → Int64) (d : Nat) (wy : Int64) (pt rt sc : Nat) (bt bs : Int64) : wDep w d wy pt rt sc bt bs (5 + 9 * d) = wy ∧ wDep w d wy pt rt sc bt bs (5 + 9 * d + 1) = lN pt ∧ wDep w d wy pt rt sc bt bs (5 + 9 * d + 2) = lN rt ∧ wDep w d wy pt rt sc bt bs (5 + 9 * d + 3) = lN sc ∧ wDep w d wy pt rt sc bt bs (5 + 9 * d + 4) = 0 ∧ (∀ i, i < 2 → wDep w d wy pt rt sc bt bs (5 + 9 * d + 5 + i) = -1) ∧ wDep w d wy pt rt sc bt bs (5 + 9 * d + 7) = bt ∧ wDep w d wy pt rt sc bt bs (5 + 9 * d + 8) = bs := by
  unfold wDep
  refine ⟨if_pos rfl, ?_, ?_, ?_, ?_, fun i hi => ?_, ?_, ?_⟩
  · rw [if_neg (by omega), if_pos rfl]
  · rw [if_neg (by omega), if_neg (by omega), if_pos rfl]
  · rw [if_neg (by omega), if_neg (by omega), if_neg (by omega), if_pos rfl]
  · rw [if_neg (by omega), if_neg (by omega), if_neg (by omega), if_neg (by omega), if_pos rfl]
  · rw [if_neg (by omega), if_neg (by omega), if_neg (by omega), if_neg (by omega), if_neg (by omega), if_pos (by omega)]
  · rw [if_neg (by omega), if_neg (by omega), if_neg (by omega), if_neg (by omega), if_neg (by omega), if_neg (by omega), if_pos rfl]
  · rw [if_neg (by omega), if_neg (by omega), if_neg (by omega), if_neg (by omega), if_neg (by omega), if_neg (by omega), if_neg (by omega), if_pos rfl]
theorem lN_s1 {w : Nat → Int64} {i n : Nat} (h : w i = lN n) : w1 w i i = lN (n + 1) := by rw [w1_s, h, lN_1]
theorem pDep_wf {g : Nat → Int32} {len f a n m a' : Nat} {w w' : Nat → Int64} (hg : ∀ i, len ≤ i → g i < 0) (hal : a ≤ len) (hw : WFt w n m) (h : pDep g len f a n w = .inr (a', w')) : WFt w' (n + 1) m ∧ a < a' ∧ a' ≤ len := by
  unfold pDep at h
  obtain ⟨n5, m4, w0, wm, w2, wd, wp⟩ := hw
  by_cases h5 : n = 5
  · rw [if_pos h5] at h; exact absurd h (by simp)
  · rw [if_neg h5] at h
    obtain ⟨b1, wy, wy01, l1, e1, h⟩ := pWay_inv hg hal h
    obtain ⟨o2, h, l2, e2⟩ := pNum_inv hg e1 h
    obtain ⟨o3, h, l3, e3⟩ := pNum_inv hg e2 h
    obtain ⟨o4, h, l4, e4⟩ := pNum_inv hg e3 h
    have p2 := o2.le (b := 100) (by decide)
    have p3 := o3.le (b := 50) (by decide)
    have p4 := o4.le (b := 999) (by decide)
    have fin : ∀ bt bs : Int64, ((bt = -1 ∧ bs = -1) ∨ ∃ b s, b ≤ n ∧ 1 ≤ s ∧ s ≤ 90 ∧ bt = lN b ∧ bs = lN s) → WFt (w1 (wDep w n wy (nuV g len b1) (nuV g len (nuE g len b1)) (nuV g len (nuE g len (nuE g len b1))) bt bs) 0) (n + 1) m := by
      intro bt bs hb
      have ov := wDep_v w n wy (nuV g len b1) (nuV g len (nuE g len b1)) (nuV g len (nuE g len (nuE g len b1))) bt bs
      have oo := @wDep_o w n wy (nuV g len b1) (nuV g len (nuE g len b1)) (nuV g len (nuE g len (nuE g len b1))) bt bs
      revert ov oo
      generalize wDep w n wy (nuV g len b1) (nuV g len (nuE g len b1)) (nuV g len (nuE g len (nuE g len b1))) bt bs = y
      intro ⟨v0, v1, v2, v3, v4, v5, v7, v8⟩ oo
      have o1 : ∀ i, i ≠ 0 → w1 y 0 i = y i := fun i hi => w1_o y hi
      refine ⟨by omega, m4, ?_, ?_, ?_, fun d hd => ?_, fun p hp => ?_⟩
      · rw [w1_s, oo (by omega), w0, lN_1]
      · rw [o1 1 (by decide), oo (by omega)]; exact wm
      · rw [o1 2 (by decide), oo (by omega)]; exact w2
      · by_cases e : d = n
        · subst e
          refine WFd.move (w := y) ⟨?_, ⟨_, p2, v1⟩, ⟨_, p3, v2⟩, ⟨_, p4, v3⟩, ⟨0, by omega, v4, fun i hi => absurd hi (Nat.not_lt_zero i), fun i _ hi => v5 i hi⟩, ?_⟩ (fun i x y => o1 i (by omega))
          · rw [v0]; exact wy01
          · rw [v7, v8]; exact hb
        · exact (wd d (by omega)).move (fun i x y => (o1 i (by omega)).trans (oo (by omega)))
      · exact (wp p hp).move (fun i x y => (o1 i (by omega)).trans (oo (by omega)))
    have rl := rend_le (P := isBl) (g := g) e4
    by_cases h6 : mtc g (rend isBl g len (nuE g len (nuE g len (nuE g len b1)))) 4
    · rw [if_pos h6] at h
      have e5 := mtc_len (i := 4) (by decide) rl.2 hg h6
      obtain ⟨o5, h, l5, e6⟩ := pNum_inv hg e5 h
      obtain ⟨o6, h, l6, e7⟩ := pNum_inv hg e6 h
      have p5 := o5.le (b := n) (by omega)
      have p6 := o6.le (b := 90) (by decide)
      have p7 := o6.ge (b := 1) (by decide)
      obtain ⟨rfl, rfl⟩ := inr_pair h
      exact ⟨fin _ _ (Or.inr ⟨_, _, p5, p7, p6, rfl, rfl⟩), by have : (strB 4).length = 4 := rfl; omega, e7⟩
    · rw [if_neg h6] at h
      obtain ⟨rfl, rfl⟩ := inr_pair h
      exact ⟨fin _ _ (Or.inl ⟨rfl, rfl⟩), by omega, rl.2⟩
theorem pMat_wf {g : Nat → Int32} {len f a n m a' : Nat} {w w' : Nat → Int64} (hg : ∀ i, len ≤ i → g i < 0) (hal : a ≤ len) (hw : WFt w n m) (h : pMat g len f a n w = .inr (a', w')) : WFt w' n m ∧ a < a' ∧ a' ≤ len := by
  unfold pMat at h
  obtain ⟨n5, m4, w0, wm, w2, wd, wp⟩ := hw
  obtain ⟨o2, h, l2, e2⟩ := pNum_inv hg hal h
  have hd : nuV g len a < n := by
    have := o2.2.2
    rcases Nat.eq_zero_or_pos n with e | e
    · subst e
      exact absurd this (neg_le (nI_pos (by have : nuV g len a ≤ 100000 := dgo_le _ _ _ (by decide); omega)) (by decide))
    · rw [nI_pr e] at this
      have := (nI_leI (by have : nuV g len a ≤ 100000 := dgo_le _ _ _ (by decide); omega) (by omega)).mp this
      omega
  generalize nuV g len a = d at h hd
  obtain ⟨h1, h2, h3, h4, ⟨k, k2, h5, h6, h7⟩, h8⟩ := wd d hd
  by_cases hm : w (5 + 9 * d + 4) = 2
  · rw [if_pos hm] at h; exact absurd h (by simp)
  · rw [if_neg hm] at h
    obtain ⟨o3, h, l3, e3⟩ := pNum_inv hg e2 h
    have p3 := o3.le (b := 100) (by decide)
    have k1 : k < 2 := by
      rcases Nat.lt_or_ge k 2 with x | x
      · exact x
      · exact absurd (by rw [h5, show k = 2 by omega]; rfl) hm
    rw [h5, lN_clamp (by omega)] at h
    obtain ⟨rfl, rfl⟩ := inr_pair h
    have o1 : ∀ i, i ≠ 5 + 9 * d + 4 → i ≠ 5 + 9 * d + 5 + k → w1 (u1L w (5 + 9 * d + 5 + k) (lN (nuV g len (nuE g len a)))) (5 + 9 * d + 4) i = w i := fun i x y => (w1_o _ x).trans (u1L_o w _ y)
    have om : w1 (u1L w (5 + 9 * d + 5 + k) (lN (nuV g len (nuE g len a)))) (5 + 9 * d + 4) (5 + 9 * d + 4) = lN (k + 1) := lN_s1 ((u1L_o w _ (by omega)).trans h5)
    have ok : w1 (u1L w (5 + 9 * d + 5 + k) (lN (nuV g len (nuE g len a)))) (5 + 9 * d + 4) (5 + 9 * d + 5 + k) = lN (nuV g len (nuE g len a)) := (w1_o _ (by omega)).trans (u1L_s _ _ _)
    refine ⟨⟨n5, m4, ?_, ?_, ?_, fun c hc => ?_, fun p hp => ?_⟩, by omega, e3⟩
    · rw [o1 _ (by omega) (by omega)]; exact w0
    · rw [o1 _ (by omega) (by omega)]; exact wm
    · rw [o1 _ (by omega) (by omega)]; exact w2
    · by_cases e : c = d
      · subst e
        refine ⟨?_, ?_, ?_, ?_, ⟨k + 1, k1, om, fun i hi => ?_, fun i x y => ?_⟩, ?_⟩
        · rw [o1 _ (by omega) (by omega)]; exact h1
        · rw [o1 _ (by omega) (by omega)]; exact h2
        · rw [o1 _ (by omega) (by omega)]; exact h3
        · rw [o1 _ (by omega) (by omega)]; exact h4
        · by_cases z : i = k
          · subst z; exact ⟨_, p3, ok⟩
          · rw [o1 _ (by omega) (by omega)]; exact h6 i (by omega)
        · rw [o1 _ (by omega) (by omega)]; exact h7 i (by omega) y
        · rw [o1 _ (by omega) (by omega), o1 _ (by omega) (by omega)]; exact h8
      · exact (wd c hc).move (fun i x y => o1 i (by omega) (by omega))
    · exact (wp p hp).move (fun i x y => o1 i (by omega) (by omega))
theorem pPro_wf {g : Nat → Int32} {len f a n m a' : Nat} {w w' : Nat → Int64} (hg : ∀ i, len ≤ i → g i < 0) (hal : a ≤ len) (hw : WFt w n m) (h : pPro g len f a m w = .inr (a', w')) : WFt w' n (m + 1) ∧ a < a' ∧ a' ≤ len := by
  unfold pPro at h
  obtain ⟨n5, m4, w0, wm, w2, wd, wp⟩ := hw
  by_cases h5 : m = 4
  · rw [if_pos h5] at h; exact absurd h (by simp)
  · rw [if_neg h5] at h
    obtain ⟨o2, h, l2, e2⟩ := pNum_inv hg hal h
    obtain ⟨o3, h, l3, e3⟩ := pNum_inv hg e2 h
    obtain ⟨o4, h, l4, e4⟩ := pNum_inv hg e3 h
    have p2 := o2.le (b := 100) (by decide)
    have p1 := o2.ge (b := 1) (by decide)
    have p3 := o3.le (b := 9999) (by decide)
    have p4 := o4.le (b := 9999) (by decide)
    have fin : ∀ b : Int64, (b = 0 ∨ b = 1) → WFt (w1 (u1L (u1L (u1L (u1L w (50 + 4 * m) (lN (nuV g len a))) (50 + 4 * m + 1) (lN (nuV g len (nuE g len a)))) (50 + 4 * m + 2) (lN (nuV g len (nuE g len (nuE g len a))))) (50 + 4 * m + 3) b) 1) n (m + 1) := by
      intro b hb
      have oo : ∀ i, i < 50 + 4 * m ∨ 54 + 4 * m ≤ i → (u1L (u1L (u1L (u1L w (50 + 4 * m) (lN (nuV g len a))) (50 + 4 * m + 1) (lN (nuV g len (nuE g len a)))) (50 + 4 * m + 2) (lN (nuV g len (nuE g len (nuE g len a))))) (50 + 4 * m + 3) b) i = w i := fun i hi => by
        rw [u1L_o _ _ (by omega), u1L_o _ _ (by omega), u1L_o _ _ (by omega), u1L_o _ _ (by omega)]
      have v0 : (u1L (u1L (u1L (u1L w (50 + 4 * m) (lN (nuV g len a))) (50 + 4 * m + 1) (lN (nuV g len (nuE g len a)))) (50 + 4 * m + 2) (lN (nuV g len (nuE g len (nuE g len a))))) (50 + 4 * m + 3) b) (50 + 4 * m) = lN (nuV g len a) := by
        rw [u1L_o _ _ (by omega), u1L_o _ _ (by omega), u1L_o _ _ (by omega), u1L_s]
      have v1 : (u1L (u1L (u1L (u1L w (50 + 4 * m) (lN (nuV g len a))) (50 + 4 * m + 1) (lN (nuV g len (nuE g len a)))) (50 + 4 * m + 2) (lN (nuV g len (nuE g len (nuE g len a))))) (50 + 4 * m + 3) b) (50 + 4 * m + 1) = lN (nuV g len (nuE g len a)) := by
        rw [u1L_o _ _ (by omega), u1L_o _ _ (by omega), u1L_s]
      have v2 : (u1L (u1L (u1L (u1L w (50 + 4 * m) (lN (nuV g len a))) (50 + 4 * m + 1) (lN (nuV g len (nuE g len a)))) (50 + 4 * m + 2) (lN (nuV g len (nuE g len (nuE g len a))))) (50 + 4 * m + 3) b) (50 + 4 * m + 2) = lN (nuV g len (nuE g len (nuE g len a))) := by
        rw [u1L_o _ _ (by omega), u1L_s]
      have v3 := u1L_s (u1L (u1L (u1L w (50 + 4 * m) (lN (nuV g len a))) (50 + 4 * m + 1) (lN (nuV g len (nuE g len a)))) (50 + 4 * m + 2) (lN (nuV g len (nuE g len (nuE g len a))))) (50 + 4 * m + 3) b
      revert oo v0 v1 v2 v3
      generalize (u1L (u1L (u1L (u1L w (50 + 4 * m) (lN (nuV g len a))) (50 + 4 * m + 1) (lN (nuV g len (nuE g len a)))) (50 + 4 * m + 2) (lN (nuV g len (nuE g len (nuE g len a))))) (50 + 4 * m + 3) b) = y
      intro oo v0 v1 v2 v3
      have o1 : ∀ i, i ≠ 1 → w1 y 1 i = y i := fun i hi => w1_o y hi
      refine ⟨n5, by omega, ?_, ?_, ?_, fun d hd => ?_, fun p hp => ?_⟩
      · rw [o1 0 (by decide), oo _ (by omega)]; exact w0
      · rw [w1_s, oo _ (by omega), wm, lN_1]
      · rw [o1 2 (by decide), oo _ (by omega)]; exact w2
      · exact (wd d hd).move (fun i x y => (o1 i (by omega)).trans (oo _ (by omega)))
      · by_cases e : p = m
        · subst e
          refine WFp.move (w := y) ⟨⟨_, p1, p2, v0⟩, ⟨_, p3, v1⟩, ⟨_, p4, v2⟩, ?_⟩ (fun i x y => o1 i (by omega))
          rw [v3]; exact hb
        · exact (wp p (by omega)).move (fun i x y => (o1 i (by omega)).trans (oo _ (by omega)))
    have rl := rend_le (P := isBl) (g := g) e4
    by_cases h6 : mtc g (rend isBl g len (nuE g len (nuE g len (nuE g len a)))) 5
    · rw [if_pos h6] at h
      have e5 := mtc_len (i := 5) (by decide) rl.2 hg h6
      obtain ⟨rfl, rfl⟩ := inr_pair h
      exact ⟨fin _ (Or.inr rfl), by omega, e5⟩
    · rw [if_neg h6] at h
      obtain ⟨rfl, rfl⟩ := inr_pair h
      exact ⟨fin _ (Or.inl rfl), by omega, rl.2⟩
theorem pSto_wf {g : Nat → Int32} {len a n m a' : Nat} {w w' : Nat → Int64} (hg : ∀ i, len ≤ i → g i < 0) (hal : a ≤ len) (hw : WFt w n m) (h : pSto g len a w = .inr (a', w')) : WFt w' n m ∧ a < a' ∧ a' ≤ len := by
  unfold pSto at h
  obtain ⟨n5, m4, w0, wm, w2, wd, wp⟩ := hw
  obtain ⟨b1, wy, wy01, l1, e1, h⟩ := pWay_inv hg hal h
  obtain ⟨rfl, rfl⟩ := inr_pair h
  refine ⟨⟨n5, m4, (u1L_o w _ (by decide)).trans w0, (u1L_o w _ (by decide)).trans wm, ?_, fun d hd => (wd d hd).move (fun i x y => u1L_o w _ (by omega)), fun p hp => (wp p hp).move (fun i x y => u1L_o w _ (by omega))⟩, l1, e1⟩
  rw [u1L_s]; exact wy01
/-- a line's words, behind its first one; what ends it -/
def pBody (g : Nat → Int32) (len f : Nat) (st : Bool) (w : Nat → Int64) (n m : Nat) : RR := if mtc g f 0 then pDep g len f (f + 4) n w else if mtc g f 1 then pMat g len f (f + 3) n w else if mtc g f 2 then pPro g len f (f + 7) m w else if mtc g f 3 ∧ st = false then pSto g len (f + 5) w else .inl (1, f)
def pEnd (g : Nat → Int32) (len : Nat) : RR → RR
  | .inl x => .inl x
  | .inr (a, w) => if g (rend isBl g len a) = 59 then .inr (rend isBl g len a + 1, w) else .inl (1, rend isBl g len a)
def cnt (w : Nat → Int64) (i : Nat) : Nat := (w i).toNatClampNeg
def pLine (g : Nat → Int32) (len a : Nat) (st : Bool) (w : Nat → Int64) : RR := pEnd g len (pBody g len (rend isBl g len a) st w (cnt w 0) (cnt w 1))
theorem WFt.cnt {w : Nat → Int64} {n m : Nat} (h : WFt w n m) : cnt w 0 = n ∧ cnt w 1 = m := by
  have h5 := h.1
  have h4 := h.2.1
  refine ⟨?_, ?_⟩
  · show (w 0).toNatClampNeg = n
    rw [h.2.2.1, lN_clamp (by omega)]
  · show (w 1).toNatClampNeg = m
    rw [h.2.2.2.1, lN_clamp (by omega)]
theorem pBody_wf {g : Nat → Int32} {len f n m a' : Nat} {st : Bool} {w w' : Nat → Int64} (hg : ∀ i, len ≤ i → g i < 0) (hal : f ≤ len) (hw : WFt w n m) (h : pBody g len f st w n m = .inr (a', w')) : (∃ n' m', WFt w' n' m') ∧ f < a' ∧ a' ≤ len := by
  unfold pBody at h
  by_cases h0 : mtc g f 0
  · rw [if_pos h0] at h
    have := pDep_wf hg (mtc_len (i := 0) (by decide) hal hg h0) hw h
    exact ⟨⟨_, _, this.1⟩, by omega, this.2.2⟩
  · rw [if_neg h0] at h
    by_cases h1 : mtc g f 1
    · rw [if_pos h1] at h
      have := pMat_wf hg (mtc_len (i := 1) (by decide) hal hg h1) hw h
      exact ⟨⟨_, _, this.1⟩, by omega, this.2.2⟩
    · rw [if_neg h1] at h
      by_cases h2 : mtc g f 2
      · rw [if_pos h2] at h
        have := pPro_wf hg (mtc_len (i := 2) (by decide) hal hg h2) hw h
        exact ⟨⟨_, _, this.1⟩, by omega, this.2.2⟩
      · rw [if_neg h2] at h
        by_cases h3 : mtc g f 3 ∧ st = false
        · rw [if_pos h3] at h
          have := pSto_wf hg (mtc_len (i := 3) (by decide) hal hg h3.1) hw h
          exact ⟨⟨_, _, this.1⟩, by omega, this.2.2⟩
        · rw [if_neg h3] at h; exact absurd h (by simp)
theorem pEnd_inv {g : Nat → Int32} {len a' : Nat} {w' : Nat → Int64} {R : RR} (h : pEnd g len R = .inr (a', w')) : ∃ b, R = .inr (b, w') ∧ g (rend isBl g len b) = 59 ∧ a' = rend isBl g len b + 1 := by
  rcases R with x | ⟨b, y⟩
  · exact absurd h (by simp [pEnd])
  · have h : (if g (rend isBl g len b) = 59 then (.inr (rend isBl g len b + 1, y) : RR) else .inl (1, rend isBl g len b)) = .inr (a', w') := h
    by_cases e : g (rend isBl g len b) = 59
    · rw [if_pos e] at h
      obtain ⟨rfl, rfl⟩ := inr_pair h
      exact ⟨b, rfl, e, rfl⟩
    · rw [if_neg e] at h; exact absurd h (by simp)
theorem pLine_wf {g : Nat → Int32} {len a n m a' : Nat} {st : Bool} {w w' : Nat → Int64} (hg : ∀ i, len ≤ i → g i < 0) (hal : a ≤ len) (hw : WFt w n m) (h : pLine g len a st w = .inr (a', w')) : (∃ n' m', WFt w' n' m') ∧ a < a' ∧ a' ≤ len := by
  unfold pLine at h
  rw [hw.cnt.1, hw.cnt.2] at h
  obtain ⟨b, hB, e, rfl⟩ := pEnd_inv h
  have rl := rend_le (P := isBl) (g := g) hal
  obtain ⟨x, y, z⟩ := pBody_wf hg rl.2 hw hB
  have rb := rend_le (P := isBl) (g := g) z
  refine ⟨x, by omega, ?_⟩
  rcases Nat.lt_or_ge (rend isBl g len b) len with q | q
  · exact q
  · exact absurd (e ▸ hg _ q) (by decide)
