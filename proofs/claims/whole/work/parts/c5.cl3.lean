/-! ===== close: the row that comes of it, place by place ===== -/
theorem sum4 (a b c d : Int64) : 0 + a + b + c + d - a = 0 + b + c + d := by
  rw [Int64.zero_add, Int64.zero_add, Int64.add_assoc, Int64.add_assoc, Int64.add_comm a, Int64.add_sub_cancel, Int64.add_assoc]
theorem monR.ab {S T : Mem} {w v : Nat → Int64} {q o : Nat} (h : monR S w q o) (e1 : ∀ i, i ≤ 3 → T.1 (q + i) = S.1 (q + i)) (e2 : ∀ i, 1 ≤ i → i ≤ 11 → T.2 (q + i) = S.2 (q + i)) (e3 : ∀ j, j ≠ 16 → T.2 q j = S.2 q j) (e4 : ∀ i, o ≤ i → i < o + 55 → i ≠ o + 52 → v i = w i) (e5 : v (o + 52) = T.2 q 16) : monR T v q o := by
  obtain ⟨⟨a1, a2, a3, a4, a5, a6, a7, a8⟩, b1, b2, b3, b4, b5, b6, b7, b8⟩ := h
  have i0 : T.1 q = S.1 q := e1 0 (by decide)
  refine ⟨⟨fun j hj => ?_, fun j hj => ?_, ?_, ?_, fun j x y => ?_, ?_, ?_, ?_⟩, ?_, ?_, ?_, fun j hj => ?_, ?_, ?_, e5, ?_⟩
  · rw [e1 1 (by decide), e4 _ (by omega) (by omega) (by omega)]; exact a1 j hj
  · rw [e2 2 (by decide) (by decide), e4 _ (by omega) (by omega) (by omega)]; exact a2 j hj
  · rw [i0, e4 _ (by omega) (by omega) (by omega)]; exact a3
  · rw [e2 5 (by decide) (by decide), e4 _ (by omega) (by omega) (by omega)]; exact a4
  · rw [e2 5 (by decide) (by decide), e4 _ (by omega) (by omega) (by omega)]; exact a5 j x y
  · rw [i0, e4 _ (by omega) (by omega) (by omega)]; exact a6
  · rw [e1 3 (by decide), e4 _ (by omega) (by omega) (by omega)]; exact a7
  · rw [e1 3 (by decide), e4 (o + 13) (by omega) (by omega) (by omega), e4 (o + 14) (by omega) (by omega) (by omega)]; exact a8
  · rw [i0, e4 _ (by omega) (by omega) (by omega)]; exact b1
  · rw [i0, e4 _ (by omega) (by omega) (by omega)]; exact b2
  · rw [i0, e4 _ (by omega) (by omega) (by omega)]; exact b3
  · rw [e2 4 (by decide) (by decide), e2 6 (by decide) (by decide), e2 7 (by decide) (by decide), e2 8 (by decide) (by decide), e2 9 (by decide) (by decide), e2 10 (by decide) (by decide), e2 11 (by decide) (by decide), e4 (o + 18 + 4 * j) (by omega) (by omega) (by omega), e4 (o + 19 + 4 * j) (by omega) (by omega) (by omega), e4 (o + 20 + 4 * j) (by omega) (by omega) (by omega), e4 (o + 21 + 4 * j) (by omega) (by omega) (by omega), e4 (o + 34 + 4 * j) (by omega) (by omega) (by omega), e4 (o + 35 + 4 * j) (by omega) (by omega) (by omega), e4 (o + 36 + 4 * j) (by omega) (by omega) (by omega), e4 (o + 37 + 4 * j) (by omega) (by omega) (by omega)]
    exact b4 j hj
  · rw [e3 14 (by decide), e4 _ (by omega) (by omega) (by omega)]; exact b5
  · rw [e3 15 (by decide), e4 _ (by omega) (by omega) (by omega)]; exact b6
  · rw [e3 17 (by decide), e4 _ (by omega) (by omega) (by omega)]; exact b8
theorem u1L_cg {b b' : Nat → Int64} {i : Nat} (h : b i = b' i) (j : Nat) (v : Int64) : u1L b j v i = u1L b' j v i := by
  by_cases z : i = j
  · subst z; rw [u1L_s, u1L_s]
  · rw [u1L_o _ _ z, u1L_o _ _ z, h]
theorem stS_cg {b b' r : Nat → Int64} {i : Nat} (h : b i = b' i) (p : Nat) : stS b r p i = stS b' r p i := by
  unfold stS
  split
  · exact h
  · exact u1L_cg (u1L_cg (u1L_cg h _ _) _ _) _ _
theorem stS_o {b r : Nat → Int64} {p i : Nat} (hs : sK r p ≤ 40) (h : i < 418 + 83 * p ∨ 501 + 83 * p ≤ i) : stS b r p i = b i := by
  unfold stS
  split
  · rfl
  · rw [u1L_o _ _ (by omega), u1L_o _ _ (by omega), u1L_o _ _ (by omega)]
theorem stR_k {r : Nat → Int64} {p i : Nat} : ∀ {m : Nat}, (∀ q, q < m → sK r q ≤ 40) → p < m → 418 + 83 * p ≤ i → i < 501 + 83 * p → stR r m i = stS r r p i
  | 0, _, h, _, _ => absurd h (by omega)
  | m + 1, hs, hp, h1, h2 => by
    show stS (stR r m) r m i = _
    by_cases z : p = m
    · subst z
      exact stS_cg (stR_o (fun q hq => hs q (by omega)) (by omega)) p
    · rw [stS_o (hs m (Nat.lt_succ_self m)) (by omega)]
      exact stR_k (fun q hq => hs q (by omega)) (by omega) h1 h2
/-- the coming, the work, the accounts behind the closings -/
theorem clD_c (w : Nat → Int64) {d j : Nat} (hd : d < 5) (hj : j < 7) : clD w d (66 + 7 * d + j) = 0 := by
  unfold clD
  rw [u1L_o _ _ (by omega), u1L_o _ _ (by omega), segW_i _ _ hj]
theorem clD_w (w : Nat → Int64) {d i : Nat} (hd : d < 5) (h1 : 101 + 6 * d ≤ i) (h2 : i < 107 + 6 * d) : clD w d i = clB w d i := by
  unfold clD
  rw [u1L_o _ _ (by omega), u1L_o _ _ (by omega), segW_o _ _ (by omega), u1L_o _ _ (by omega)]
theorem clB_0 (w : Nat → Int64) (d : Nat) : clB w d (101 + 6 * d) = w ((131 + 55 * d) + 13) := by
  unfold clB
  rw [segW_o _ _ (by omega), u1L_o _ _ (by omega), u1L_s]
theorem clB_1 (w : Nat → Int64) (d : Nat) : clB w d (102 + 6 * d) = if w ((131 + 55 * d) + 13) = 0 then 0 else w ((131 + 55 * d) + 14) := by
  unfold clB
  rw [segW_o _ _ (by omega), u1L_s]
theorem clB_k (w : Nat → Int64) (d : Nat) {k : Nat} (hk : k < 4) : clB w d (103 + 6 * d + k) = clK w d k := by
  unfold clB
  rw [segW_i _ _ hk]
theorem clA_c (r : Nat → Int64) {e j : Nat} (hj : j < 7) : ∀ (d : Nat), d ≤ 5 → e < d → clA r d (66 + 7 * e + j) = 0
  | 0, _, h => absurd h (by omega)
  | d + 1, hd, h => by
    show clD (clA r d) d _ = 0
    by_cases z : e = d
    · subst z; exact clD_c _ (by omega) hj
    · rw [clD_o _ _ (by omega) (by omega) (by omega)]
      exact clA_c r hj d (by omega) (by omega)
theorem clA_x (r : Nat → Int64) {e j : Nat} (he : e < 5) (hj : j < 7) : ∀ (d : Nat), d ≤ e → clA r d (66 + 7 * e + j) = r (66 + 7 * e + j)
  | 0, _ => rfl
  | d + 1, h => by
    show clD (clA r d) d _ = _
    rw [clD_o _ _ (by omega) (by omega) (by omega)]
    exact clA_x r he hj d (by omega)
theorem clA_w (r : Nat → Int64) {e i : Nat} (h1 : 101 + 6 * e ≤ i) (h2 : i < 107 + 6 * e) : ∀ (d : Nat), d ≤ 5 → e < d → clA r d i = clB (clA r e) e i
  | 0, _, h => absurd h (by omega)
  | d + 1, hd, h => by
    show clD (clA r d) d _ = _
    by_cases z : e = d
    · subst z; exact clD_w _ (by omega) h1 h2
    · rw [clD_o _ _ (by omega) (by omega) (by omega)]
      exact clA_w r h1 h2 d (by omega) (by omega)
theorem clA_a (r : Nat → Int64) : ∀ (d : Nat), d ≤ 5 → clA r d 750 = r 750 + sumN (fun e => sumN (fun k => r (66 + 7 * e + k)) 4) d ∧ clA r d 752 = r 752 + sumN (fun e => r (131 + 55 * e + 52)) d ∧ clA r d 753 = r 753 + sumN (fun e => r (131 + 55 * e + 53)) d
  | 0, _ => ⟨(Int64.add_zero _).symm, (Int64.add_zero _).symm, (Int64.add_zero _).symm⟩
  | d + 1, hd => by
    obtain ⟨a, b, c⟩ := clA_a r d (by omega)
    have s : sumN (fun k => clA r d (66 + 7 * d + k)) 4 = sumN (fun k => r (66 + 7 * d + k)) 4 := sumN_congr (fun k hk => clA_x r (by omega) (by omega) d (Nat.le_refl d))
    refine ⟨?_, ?_, ?_⟩
    · show clD (clA r d) d 750 = _ + (_ + sumN (fun k => r (66 + 7 * d + k)) 4)
      unfold clD
      rw [u1L_o _ _ (by decide), u1L_o _ _ (by decide), segW_o _ _ (by omega), u1L_s, a, s, Int64.add_assoc]
    · show clD (clA r d) d 752 = _ + (_ + r ((131 + 55 * d) + 52))
      unfold clD
      rw [u1L_o _ _ (by decide), u1L_s, b, clA_o r d (by omega) (by omega), Int64.add_assoc]
    · show clD (clA r d) d 753 = _ + (_ + r ((131 + 55 * d) + 53))
      unfold clD
      rw [u1L_s, c, clA_o r d (by omega) (by omega), Int64.add_assoc]
/-- the places of the closed row -/
theorem cloQ (w : Nat → Int64) {l m i : Nat} (hl : l < 5) (hm : m ≤ 4) (hs : ∀ q, q < m → sK (paT w l m) q ≤ 40) (h : i < 418 ∨ 750 ≤ i) : stR (paT w l m) m i = paT w l m i := stR_o hs (by omega)
theorem paT_o (w : Nat → Int64) {l m i : Nat} (hl : l < 5) (h : i < 131 ∨ 418 ≤ i) : paT w l m i = w i := by
  unfold paT
  rw [paW_o _ _ _ (by omega) (by omega), mW_o _ _ (by omega)]
theorem cloW_o (w : Nat → Int64) {l m i : Nat} (hl : l < 5) (hm : m ≤ 4) (hs : ∀ q, q < m → sK (paT w l m) q ≤ 40) (h : i < 3 ∨ (5 ≤ i ∧ i < 66) ∨ i = 751) : cloW w l m i = w i := by
  unfold cloW
  rw [u1L_o _ _ (by omega), u1L_o _ _ (by omega), clA_o _ _ (by omega) (by omega), cloQ w hl hm hs (by omega), paT_o w hl (by omega)]
theorem cloW_m (w : Nat → Int64) {l m i : Nat} (hl : l < 5) (hm : m ≤ 4) (hs : ∀ q, q < m → sK (paT w l m) q ≤ 40) (h : 131 ≤ i ∧ i < 418) : cloW w l m i = paT w l m i := by
  unfold cloW
  rw [u1L_o _ _ (by omega), u1L_o _ _ (by omega), clA_o _ _ (by omega) (by omega), cloQ w hl hm hs (by omega)]
theorem cloW_s (w : Nat → Int64) {l m i p : Nat} (hl : l < 5) (hm : m ≤ 4) (hs : ∀ q, q < m → sK (paT w l m) q ≤ 40) (hp : p < m) (h1 : 418 + 83 * p ≤ i) (h2 : i < 501 + 83 * p) : cloW w l m i = stS (paT w l m) (paT w l m) p i := by
  unfold cloW
  rw [u1L_o _ _ (by omega), u1L_o _ _ (by omega), clA_o _ _ (by omega) (by omega), stR_k hs hp h1 h2]
theorem cloW_c (w : Nat → Int64) {l m d j : Nat} (hl : l < 5) (hd : d < l + 1) (hj : j < 7) : cloW w l m (66 + 7 * d + j) = 0 := by
  unfold cloW
  rw [u1L_o _ _ (by omega), u1L_o _ _ (by omega), clA_c _ hj _ (by omega) hd]
theorem clQ5 (w : Nat → Int64) {l m d i : Nat} (hl : l < 5) (hm : m ≤ 4) (hs : ∀ q, q < m → sK (paT w l m) q ≤ 40) (hd : d < l + 1) (h : 131 ≤ i ∧ i < 406) : clA (stR (paT w l m) m) d i = paT w l m i := by
  rw [clA_o _ _ (by omega) (by omega), cloQ w hl hm hs (by omega)]
theorem cloW_w (w : Nat → Int64) {l m d : Nat} (hl : l < 5) (hm : m ≤ 4) (hs : ∀ q, q < m → sK (paT w l m) q ≤ 40) (hd : d < l + 1) : cloW w l m (101 + 6 * d) = paT w l m ((131 + 55 * d) + 13) ∧ cloW w l m (102 + 6 * d) = (if paT w l m ((131 + 55 * d) + 13) = 0 then 0 else paT w l m ((131 + 55 * d) + 14)) ∧ ∀ k, k < 4 → cloW w l m (103 + 6 * d + k) = paT w l m ((131 + 55 * d) + 36 + 4 * k) + (if k = 3 then paT w l m ((131 + 55 * d) + 51) else 0) := by
  have q := fun i h => clQ5 w (i := i) hl hm hs hd h
  have g : ∀ i, 101 + 6 * d ≤ i → i < 107 + 6 * d → cloW w l m i = clB (clA (stR (paT w l m) m) d) d i := fun i h1 h2 => by
    unfold cloW
    rw [u1L_o _ _ (by omega), u1L_o _ _ (by omega), clA_w _ h1 h2 _ (by omega) hd]
  refine ⟨?_, ?_, fun k hk => ?_⟩
  · rw [g _ (by omega) (by omega), clB_0, q _ (by omega)]
  · rw [g _ (by omega) (by omega), clB_1, q _ (by omega), q _ (by omega)]
  · rw [g _ (by omega) (by omega), clB_k _ _ hk]
    unfold clK
    rw [q _ (by omega), q _ (by omega), show (131 + 55 * d) + (34 + 4 * k + 2) = (131 + 55 * d) + 36 + 4 * k by omega]
theorem cloW_a (w : Nat → Int64) {l m : Nat} (hl : l < 5) (hm : m ≤ 4) (hs : ∀ q, q < m → sK (paT w l m) q ≤ 40) : cloW w l m 750 = w 750 + sumN (fun e => sumN (fun k => w (66 + 7 * e + k)) 4) (l + 1) ∧ cloW w l m 752 = w 752 + sumN (fun e => paT w l m (131 + 55 * e + 52)) (l + 1) ∧ cloW w l m 753 = w 753 + sumN (fun e => paT w l m (131 + 55 * e + 53)) (l + 1) := by
  obtain ⟨a, b, c⟩ := clA_a (stR (paT w l m) m) (l + 1) (by omega)
  have q := fun i h => cloQ w (i := i) hl hm hs h
  refine ⟨?_, ?_, ?_⟩
  · unfold cloW
    rw [u1L_o _ _ (by decide), u1L_o _ _ (by decide), a, q _ (by omega), paT_o w hl (by omega)]
    refine congrArg (w 750 + ·) (sumN_congr fun e he => sumN_congr fun k hk => ?_)
    rw [q _ (by omega), paT_o w hl (by omega)]
  · unfold cloW
    rw [u1L_o _ _ (by decide), u1L_o _ _ (by decide), b, q _ (by omega), paT_o w hl (by omega)]
    refine congrArg (w 752 + ·) (sumN_congr fun e he => ?_)
    rw [q _ (by omega)]
  · unfold cloW
    rw [u1L_o _ _ (by decide), u1L_o _ _ (by decide), c, q _ (by omega), paT_o w hl (by omega)]
    refine congrArg (w 753 + ·) (sumN_congr fun e he => ?_)
    rw [q _ (by omega)]
theorem cloW_3 (w : Nat → Int64) (l m : Nat) : cloW w l m 3 = w 3 + 1 ∧ cloW w l m 4 = 0 := by
  unfold cloW
  refine ⟨u1L_s _ _ _, ?_⟩
  rw [u1L_o _ _ (by decide), u1L_s]
/-- the months of the row -/
theorem paT_m (w : Nat → Int64) {l m d i : Nat} (hl : l < 5) (hd : d < l + 1) (h : (131 + 55 * d) ≤ i ∧ i < (131 + 55 * d) + 55) (h2 : i ≠ (131 + 55 * l) + 52) : paT w l m i = mW w (d + 1) i := by
  unfold paT
  rw [paW_o _ _ _ (by omega) h2]
  exact mW_k w (l + 1) hd (by omega)
theorem mW_g (w : Nat → Int64) (d : Nat) {i : Nat} (h : i < (131 + 55 * d) + 15) : mW w (d + 1) i = oW w d i := by
  show ctW (oW w d) d (wyW w d) i = _
  exact ctW_o _ _ _ (by omega)
theorem mW_53 (w : Nat → Int64) {d : Nat} (hd : d < 5) : mW w (d + 1) ((131 + 55 * d) + 53) = mW w (d + 1) ((131 + 55 * d) + 12) * w (8 + 9 * d) := by
  rw [mW_g w d (i := (131 + 55 * d) + 12) (by omega)]
  have := (ctW_l (oW w d) d (wyW w d)).2.2.2.1
  rw [show 5 + 9 * d + 3 = 8 + 9 * d by omega, oW_o w d (i := 8 + 9 * d) (by omega)] at this
  exact this
theorem paT_p (w : Nat → Int64) {l m p : Nat} (hp : p < m) (hm : m ≤ 4) : paT w l m (406 + 3 * p) = pU (mW w (l + 1)) (mW w (l + 1) ((131 + 55 * l) + 15)) m p ∧ paT w l m (407 + 3 * p) = pV (mW w (l + 1)) (mW w (l + 1) ((131 + 55 * l) + 15)) m p ∧ paT w l m (408 + 3 * p) = pF (mW w (l + 1)) (mW w (l + 1) ((131 + 55 * l) + 15)) (mW w (l + 1) ((131 + 55 * l) + 54)) m p := by
  unfold paT paW
  refine ⟨?_, ?_, ?_⟩
  · rw [prW_u _ _ _ _ (by omega)]; exact if_pos hp
  · rw [show 407 + 3 * p = 406 + 3 * p + 1 by omega, prW_a _ _ _ _ (by omega)]; exact if_pos hp
  · rw [show 408 + 3 * p = 406 + 3 * p + 2 by omega, prW_c _ _ _ _ (by omega)]; exact if_pos hp
theorem paT_x (w : Nat → Int64) {l m : Nat} (hl : l < 5) : paT w l m ((131 + 55 * l) + 52) = mW w (l + 1) ((131 + 55 * l) + 52) + pX (mW w (l + 1)) (mW w (l + 1) ((131 + 55 * l) + 15)) (mW w (l + 1) ((131 + 55 * l) + 54)) m := by
  unfold paT paW
  rw [prW_o _ _ _ _ (by omega), u1L_s]
