/-! ===== what a read text gives ===== -/
/-- places that reading leaves alone -/
def zP (i : Nat) : Prop := i = 3 ∨ i = 4 ∨ 66 ≤ i
theorem pDep_z {g : Nat → Int32} {len f a n a' : Nat} {w w' : Nat → Int64} (hg : ∀ i, len ≤ i → g i < 0) (hal : a ≤ len) (hn : n ≤ 5) (h : pDep g len f a n w = .inr (a', w')) : ∀ i, zP i → w' i = w i := by
  intro i hi
  unfold zP at hi
  unfold pDep at h
  by_cases h5 : n = 5
  · rw [if_pos h5] at h; exact absurd h (by simp)
  · rw [if_neg h5] at h
    obtain ⟨b1, wy, -, l1, e1, h⟩ := pWay_inv hg hal h
    obtain ⟨o2, h, l2, e2⟩ := pNum_inv hg e1 h
    obtain ⟨o3, h, l3, e3⟩ := pNum_inv hg e2 h
    obtain ⟨o4, h, l4, e4⟩ := pNum_inv hg e3 h
    have rl := rend_le (P := isBl) (g := g) e4
    by_cases h6 : mtc g (rend isBl g len (nuE g len (nuE g len (nuE g len b1)))) 4
    · rw [if_pos h6] at h
      have e5 := mtc_len (i := 4) (by decide) rl.2 hg h6
      obtain ⟨o5, h, l5, e6⟩ := pNum_inv hg e5 h
      obtain ⟨o6, h, l6, e7⟩ := pNum_inv hg e6 h
      obtain ⟨rfl, rfl⟩ := inr_pair h
      rw [w1_o _ (by omega), wDep_o _ _ _ _ _ _ _ _ (by omega)]
    · rw [if_neg h6] at h
      obtain ⟨rfl, rfl⟩ := inr_pair h
      rw [w1_o _ (by omega), wDep_o _ _ _ _ _ _ _ _ (by omega)]
theorem pMat_z {g : Nat → Int32} {len f a n m a' : Nat} {w w' : Nat → Int64} (hg : ∀ i, len ≤ i → g i < 0) (hal : a ≤ len) (hw : WFt w n m) (h : pMat g len f a n w = .inr (a', w')) : ∀ i, zP i → w' i = w i := by
  intro i hi
  unfold zP at hi
  unfold pMat at h
  obtain ⟨n5, m4, w0, wm, w2, wd, wp⟩ := hw
  obtain ⟨o2, h, l2, e2⟩ := pNum_inv hg hal h
  have hd : nuV g len a < n := by
    have := o2.2.2
    rcases Nat.eq_zero_or_pos n with e | e
    · subst e
      exact absurd this (neg_le (nI_pos (by have : nuV g len a ≤ 100000 := dgo_le _ _ _ (by decide); omega)) (by decide))
    · rw [nI_pr e] at this
      have := (nI_leI (by have : nuV g len a ≤ 100000 := dgo_le _ _ _ (by decide); omega) (by omega)).mp this
      omega
  generalize nuV g len a = d at h hd
  obtain ⟨-, -, -, -, ⟨k, k2, h5, -, -⟩, -⟩ := wd d hd
  by_cases hm : w (5 + 9 * d + 4) = 2
  · rw [if_pos hm] at h; exact absurd h (by simp)
  · rw [if_neg hm] at h
    obtain ⟨o3, h, l3, e3⟩ := pNum_inv hg e2 h
    rw [h5, lN_clamp (by omega)] at h
    obtain ⟨rfl, rfl⟩ := inr_pair h
    rw [w1_o _ (by omega), u1L_o _ _ (by omega)]
theorem pPro_z {g : Nat → Int32} {len f a m a' : Nat} {w w' : Nat → Int64} (hg : ∀ i, len ≤ i → g i < 0) (hal : a ≤ len) (hm : m ≤ 4) (h : pPro g len f a m w = .inr (a', w')) : ∀ i, zP i → w' i = w i := by
  intro i hi
  unfold zP at hi
  unfold pPro at h
  by_cases h5 : m = 4
  · rw [if_pos h5] at h; exact absurd h (by simp)
  · rw [if_neg h5] at h
    obtain ⟨o2, h, l2, e2⟩ := pNum_inv hg hal h
    obtain ⟨o3, h, l3, e3⟩ := pNum_inv hg e2 h
    obtain ⟨o4, h, l4, e4⟩ := pNum_inv hg e3 h
    by_cases h6 : mtc g (rend isBl g len (nuE g len (nuE g len (nuE g len a)))) 5
    · rw [if_pos h6] at h
      obtain ⟨rfl, rfl⟩ := inr_pair h
      rw [w1_o _ (by omega), u1L_o _ _ (by omega), u1L_o _ _ (by omega), u1L_o _ _ (by omega), u1L_o _ _ (by omega)]
    · rw [if_neg h6] at h
      obtain ⟨rfl, rfl⟩ := inr_pair h
      rw [w1_o _ (by omega), u1L_o _ _ (by omega), u1L_o _ _ (by omega), u1L_o _ _ (by omega), u1L_o _ _ (by omega)]
theorem pLine_z {g : Nat → Int32} {len a n m a' : Nat} {st : Bool} {w w' : Nat → Int64} (hg : ∀ i, len ≤ i → g i < 0) (hal : a ≤ len) (hw : WFt w n m) (h : pLine g len a st w = .inr (a', w')) : ∀ i, zP i → w' i = w i := by
  unfold pLine at h
  rw [hw.cnt.1, hw.cnt.2] at h
  obtain ⟨b, hB, e, rfl⟩ := pEnd_inv h
  have rl := rend_le (P := isBl) (g := g) hal
  unfold pBody at hB
  generalize rend isBl g len a = f at hB rl
  by_cases h0 : mtc g f 0
  · rw [if_pos h0] at hB
    exact pDep_z hg (mtc_len (i := 0) (by decide) rl.2 hg h0) hw.1 hB
  · rw [if_neg h0] at hB
    by_cases h1 : mtc g f 1
    · rw [if_pos h1] at hB
      exact pMat_z hg (mtc_len (i := 1) (by decide) rl.2 hg h1) hw hB
    · rw [if_neg h1] at hB
      by_cases h2 : mtc g f 2
      · rw [if_pos h2] at hB
        exact pPro_z hg (mtc_len (i := 2) (by decide) rl.2 hg h2) hw.2.1 hB
      · rw [if_neg h2] at hB
        by_cases h3 : mtc g f 3 ∧ st = false
        · rw [if_pos h3] at hB
          unfold pSto at hB
          obtain ⟨b1, wy, wy01, l1, e1, hB⟩ := pWay_inv hg (mtc_len (i := 3) (by decide) rl.2 hg h3.1) hB
          obtain ⟨rfl, rfl⟩ := inr_pair hB
          intro i hi
          unfold zP at hi
          exact u1L_o w _ (by omega)
        · rw [if_neg h3] at hB; exact absurd hB (by simp)
theorem pAll_ok {g : Nat → Int32} {len : Nat} (hg : ∀ i, len ≤ i → g i < 0) : ∀ (k a n m : Nat) (st : Bool) (w w' : Nat → Int64), a ≤ len → WFt w n m → pAll g len k a st w = .inr w' → (∃ n' m', WFt w' n' m') ∧ ∀ i, zP i → w' i = w i := by
  intro k
  induction k with
  | zero =>
    intro a n m st w w' hal hw h
    have : w = w' := Sum.inr.inj h
    subst this
    exact ⟨⟨n, m, hw⟩, fun _ _ => rfl⟩
  | succ k ih =>
    intro a n m st w w' hal hw h
    have h : (if rend isBl g len a < len then (match pLine g len a st w with | .inl x => .inl x | .inr (a', w') => pAll g len k a' (st || decide (mtc g (rend isBl g len a) 3)) w') else .inr w) = (.inr w' : RA) := h
    by_cases y : rend isBl g len a < len
    · rw [if_pos y] at h
      cases hp : pLine g len a st w with
      | inl x => rw [hp] at h; exact absurd h (by simp)
      | inr q =>
        obtain ⟨a1, w1'⟩ := q
        rw [hp] at h
        obtain ⟨⟨n1, m1, f1⟩, l1, l2⟩ := pLine_wf hg hal hw hp
        have z1 := pLine_z hg hal hw hp
        obtain ⟨f2, z2⟩ := ih a1 n1 m1 _ w1' w' l2 f1 h
        exact ⟨f2, fun i hi => (z2 i hi).trans (z1 i hi)⟩
    · rw [if_neg y] at h
      have : w = w' := Sum.inr.inj h
      subst this
      exact ⟨⟨n, m, hw⟩, fun _ _ => rfl⟩
/-! a fault's reason is none of nothing -/
def nzR (R : RR) : Prop := ∀ r pl, R = .inl (r, pl) → ¬ r = 0
theorem inl_pair {r r' : Int32} {p p' : Nat} (h : (Sum.inl (r, p) : RR) = .inl (r', p')) : r = r' := (Prod.mk.inj (Sum.inl.inj h)).1
theorem nz_num {g : Nat → Int32} {len a : Nat} {lo hi : Int32} {k : Nat → Nat → RR} (h : ∀ a v, nzR (k a v)) : nzR (pNum g len a lo hi k) := by
  intro r pl e
  unfold pNum at e
  cases hd : isDi (g (rend isBl g len a)) with
  | false =>
    rw [hd] at e
    have := inl_pair e
    rw [← this]; decide
  | true =>
    rw [hd] at e
    have e : (if nI (nuV g len a) < lo ∨ ¬ nI (nuV g len a) ≤ hi then (.inl (2, rend isBl g len a) : RR) else k (nuE g len a) (nuV g len a)) = .inl (r, pl) := e
    by_cases hc : nI (nuV g len a) < lo ∨ ¬ nI (nuV g len a) ≤ hi
    · rw [if_pos hc] at e
      have := inl_pair e
      rw [← this]; decide
    · rw [if_neg hc] at e
      exact h _ _ r pl e
theorem nz_way {g : Nat → Int32} {len a : Nat} {k : Nat → Int64 → RR} (h : ∀ a v, nzR (k a v)) : nzR (pWay g len a k) := by
  intro r pl e
  unfold pWay at e
  by_cases h6 : mtc g (rend isBl g len a) 6
  · rw [if_pos h6] at e; exact h _ _ r pl e
  · rw [if_neg h6] at e
    by_cases h7 : mtc g (rend isBl g len a) 7
    · rw [if_pos h7] at e; exact h _ _ r pl e
    · rw [if_neg h7] at e
      have := inl_pair e
      rw [← this]; decide
theorem nz_inr {x : Nat × (Nat → Int64)} : nzR (.inr x) := fun r pl e => absurd e (by simp)
theorem nz_inl {r : Int32} {p : Nat} (h : ¬ r = 0) : nzR (.inl (r, p)) := fun r' pl e => by
  have := inl_pair e
  rw [← this]; exact h
theorem nz_if {c : Prop} [Decidable c] {A B : RR} (h1 : nzR A) (h2 : nzR B) : nzR (if c then A else B) := by
  by_cases h : c
  · rw [if_pos h]; exact h1
  · rw [if_neg h]; exact h2
theorem nz_line {g : Nat → Int32} {len a : Nat} {st : Bool} {w : Nat → Int64} : nzR (pLine g len a st w) := by
  have hb : nzR (pBody g len (rend isBl g len a) st w (cnt w 0) (cnt w 1)) := by
    unfold pBody
    refine nz_if ?_ (nz_if ?_ (nz_if ?_ (nz_if ?_ (nz_inl (by decide)))))
    · unfold pDep
      exact nz_if (nz_inl (by decide)) (nz_way fun _ _ => nz_num fun _ _ => nz_num fun _ _ => nz_num fun _ _ => nz_if (nz_num fun _ _ => nz_num fun _ _ => nz_inr) nz_inr)
    · unfold pMat
      exact nz_num fun _ _ => nz_if (nz_inl (by decide)) (nz_num fun _ _ => nz_inr)
    · unfold pPro
      exact nz_if (nz_inl (by decide)) (nz_num fun _ _ => nz_num fun _ _ => nz_num fun _ _ => nz_if nz_inr nz_inr)
    · unfold pSto
      exact nz_way fun _ _ => nz_inr
  unfold pLine
  generalize pBody g len (rend isBl g len a) st w (cnt w 0) (cnt w 1) = R at hb
  rcases R with x | ⟨b, y⟩
  · exact hb
  · exact nz_if nz_inr (nz_inl (by decide))
theorem pAll_nz {g : Nat → Int32} {len : Nat} : ∀ (k a : Nat) (st : Bool) (w : Nat → Int64) (r : Int32) (pl : Nat), pAll g len k a st w = .inl (r, pl) → ¬ r = 0 := by
  intro k
  induction k with
  | zero => intro a st w r pl h; exact absurd (show (.inr w : RA) = .inl (r, pl) from h) (by simp)
  | succ k ih =>
    intro a st w r pl h
    have h : (if rend isBl g len a < len then (match pLine g len a st w with | .inl x => .inl x | .inr (a', w') => pAll g len k a' (st || decide (mtc g (rend isBl g len a) 3)) w') else .inr w) = (.inl (r, pl) : RA) := h
    by_cases y : rend isBl g len a < len
    · rw [if_pos y] at h
      cases hp : pLine g len a st w with
      | inl x =>
        obtain ⟨r1, p1⟩ := x
        rw [hp] at h
        have : r1 = r := (Prod.mk.inj (Sum.inl.inj h)).1
        rw [← this]; exact nz_line r1 p1 hp
      | inr q =>
        obtain ⟨a1, w1'⟩ := q
        rw [hp] at h
        exact ih _ _ _ _ _ h
    · rw [if_neg y] at h; exact absurd h (by simp)
