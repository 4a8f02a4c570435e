/-! ===== a month's cents ===== -/
theorem sumN4 (f : Nat → Int64) : sumN f 4 = 0 + f 0 + f 1 + f 2 + f 3 := rfl
theorem lt_I {w : Nat → Int64} {d : Nat} (hr : rgM w d) : 0 ≤ (ltW w d).toInt ∧ (ltW w d).toInt ≤ 50000 := by
  have a5 := rgI hr.2.2.2.2.1 (by decide)
  rw [show 144 + 55 * d = (131 + 55 * d) + 13 by omega] at a5
  unfold ltW
  split
  · rw [L0]; omega
  · exact a5
theorem ot_I {w : Nat → Int64} {d : Nat} (hr : rgM w d) : 0 ≤ (otW w d).toInt ∧ (otW w d).toInt ≤ 50000 := by
  have a5 := rgI hr.1 (by decide)
  unfold otW
  split
  · rw [L0]; omega
  · exact a5
theorem nm_I {w : Nat → Int64} {d : Nat} {F : Int} (hm : mnI w d F) : 0 ≤ (nmW w d).toInt ∧ (nmW w d).toInt ≤ (w ((131 + 55 * d) + 12)).toInt := by
  obtain ⟨hr, ⟨-, -, ⟨rt, rt1, rt2⟩, -⟩, hF, F0, F1⟩ := hm
  have a4 := rgI hr.2.2.2.1 (by decide)
  rw [show 143 + 55 * d = (131 + 55 * d) + 12 by omega] at a4
  have al := lt_I hr
  have ao := ot_I hr
  have er : (w (5 + 9 * d + 2)).toInt = (rt : Int) := by rw [rt2, lN_toInt (by omega)]
  have ec : (cmW w d).toInt = F + (w ((131 + 55 * d) + 12)).toInt + (ltW w d).toInt - (otW w d).toInt := g_sub (g_add (g_add hF rfl (by omega)) rfl (by omega)) rfl (by omega)
  obtain ⟨c, hc⟩ : ∃ c, (moreL 0 (cmW w d)).toInt = c := ⟨_, rfl⟩
  have hc' := (moreI ec).symm.trans hc
  have c0 : 0 ≤ c ∧ c ≤ 460000 := by
    rw [← hc']; split <;> omega
  obtain ⟨m1, m2, m3⟩ := mulI hc er c0.1 c0.2 (show (0 : Int) ≤ (rt : Int) by omega) (show (rt : Int) ≤ 50 by omega) (by decide)
  have e2 := g_div m1 (show (100 : Int64).toInt = 100 from rfl) (by omega) (by decide)
  have d0 : 0 ≤ c * (rt : Int) / 100 := Int.ediv_nonneg m2 (by decide)
  have e3 := lessI (A := w ((131 + 55 * d) + 12)) rfl e2
  unfold nmW
  rw [e3]
  split <;> omega
/-- what a month is given, in cents -/
def in7 (w : Nat → Int64) (d : Nat) : Int := (w ((131 + 55 * d) + (2 + 0))).toInt + (w ((131 + 55 * d) + (2 + 1))).toInt + (w ((131 + 55 * d) + (2 + 2))).toInt + (w ((131 + 55 * d) + (2 + 3))).toInt + (w ((131 + 55 * d) + 7)).toInt + (w ((131 + 55 * d) + (8 + 1))).toInt + (w ((131 + 55 * d) + (8 + 2))).toInt + (w ((131 + 55 * d) + (8 + 3))).toInt
set_option maxHeartbeats 1000000 in
theorem month_I {w : Nat → Int64} {d : Nat} {way : Int32} {F : Int} (hm : mnI w d F) (can : canW w d way) (hway : way = 0 ∨ way = 1) (oc : ∀ k, k < 4 → 0 ≤ (w ((131 + 55 * d) + (2 + k))).toInt) (ic : 0 ≤ (w ((131 + 55 * d) + 7)).toInt) (cc : ∀ k, 1 ≤ k → k < 4 → 0 ≤ (w ((131 + 55 * d) + (8 + k))).toInt) (hB : in7 w d ≤ 60000000000) :
    (∀ k, k < 4 → 0 ≤ (tlW w d way k).toInt) ∧ 0 ≤ (cTL w d way).toInt ∧ 0 ≤ (cOT w d way).toInt ∧ (cOT w d way).toInt + ((tlW w d way 0).toInt + (tlW w d way 1).toInt + (tlW w d way 2).toInt + (tlW w d way 3).toInt) + (cTL w d way).toInt ≤ in7 w d := by
  have o0 := oc 0 (by decide)
  have o1 := oc 1 (by decide)
  have o2 := oc 2 (by decide)
  have o3 := oc 3 (by decide)
  have c1 := cc 1 (by decide) (by decide)
  have c2 := cc 2 (by decide) (by decide)
  have c3 := cc 3 (by decide) (by decide)
  obtain ⟨I, hI⟩ : ∃ I, in7 w d = I := ⟨_, rfl⟩
  rw [hI] at hB ⊢
  unfold in7 at hI
  obtain ⟨x0, y0, z0, hx0, hy0, hz0, a0, b0, e0, s0⟩ := kind_I (k := 0) (by decide) hm can hway (show (if 0 = 0 then w ((131 + 55 * d) + 7) else w ((131 + 55 * d) + (8 + 0))).toInt = (w ((131 + 55 * d) + 7)).toInt by rw [if_pos rfl]) rfl ic o0 (by omega)
  obtain ⟨x1, y1, z1, hx1, hy1, hz1, a1, b1, e1, s1⟩ := kind_I (k := 1) (by decide) hm can hway (show (if 1 = 0 then w ((131 + 55 * d) + 7) else w ((131 + 55 * d) + (8 + 1))).toInt = (w ((131 + 55 * d) + (8 + 1))).toInt by rw [if_neg (by decide)]) rfl c1 o1 (by omega)
  obtain ⟨x2, y2, z2, hx2, hy2, hz2, a2, b2, e2, s2⟩ := kind_I (k := 2) (by decide) hm can hway (show (if 2 = 0 then w ((131 + 55 * d) + 7) else w ((131 + 55 * d) + (8 + 2))).toInt = (w ((131 + 55 * d) + (8 + 2))).toInt by rw [if_neg (by decide)]) rfl c2 o2 (by omega)
  obtain ⟨x3, y3, z3, hx3, hy3, hz3, a3, b3, e3, s3⟩ := kind_I (k := 3) (by decide) hm can hway (show (if 3 = 0 then w ((131 + 55 * d) + 7) else w ((131 + 55 * d) + (8 + 3))).toInt = (w ((131 + 55 * d) + (8 + 3))).toInt by rw [if_neg (by decide)]) rfl c3 o3 (by omega)
  have hAL : (cAL w d way).toInt = 0 + y0 + y1 + y2 + y3 := by
    unfold cAL
    rw [sumN4]
    exact g_add (g_add (g_add (g_add L0 hy0 (by omega)) hy1 (by omega)) hy2 (by omega)) hy3 (by omega)
  have hOU : (cOU w d way).toInt = 0 + z0 + z1 + z2 + z3 := by
    unfold cOU
    rw [sumN4]
    exact g_add (g_add (g_add (g_add L0 hz0 (by omega)) hz1 (by omega)) hz2 (by omega)) hz3 (by omega)
  obtain ⟨nm0, nm1⟩ := nm_I hm
  obtain ⟨hr, ⟨-, -, -, ⟨sc, sc1, sc2⟩, -⟩, hF, F0, F1⟩ := hm
  have a4 := rgI hr.2.2.2.1 (by decide)
  rw [show 143 + 55 * d = (131 + 55 * d) + 12 by omega] at a4
  have al := lt_I hr
  have es : (w (5 + 9 * d + 3)).toInt = (sc : Int) := by rw [sc2, lN_toInt (by omega)]
  have q1 : (0 + y0 + y1 + y2 + y3) * (nmW w d).toInt ≤ 60000000000 * 50000 := Int.mul_le_mul (by omega) (by omega) nm0 (by decide)
  obtain ⟨f, hf, f0, f1, -⟩ := cutI hAL (B := nmW w d) (C := w ((131 + 55 * d) + 12)) rfl rfl (by omega) nm0 nm1 (by omega)
  obtain ⟨ms, ms0, ms1⟩ := mulI (A := nmW w d) (B := w (5 + 9 * d + 3)) rfl es nm0 (show _ ≤ (50000 : Int) by omega) (show (0 : Int) ≤ (sc : Int) by omega) (show (sc : Int) ≤ 999 by omega) (by decide)
  have hfn : (cFN w d way).toInt = f := hf
  have eN := moreI (g_sub hfn ms (by omega))
  obtain ⟨nt, hnt⟩ : ∃ nt, (cNT w d way).toInt = nt := ⟨_, rfl⟩
  have hnt' : (if f - (nmW w d).toInt * (sc : Int) < 0 then 0 else f - (nmW w d).toInt * (sc : Int)) = nt := eN.symm.trans hnt
  have nt0 : 0 ≤ nt ∧ nt ≤ f := by
    rw [← hnt']; split <;> omega
  have eS : (ltW w d + fiW w d).toInt = (ltW w d).toInt + F := g_add rfl hF (by omega)
  have q2 : nt * (ltW w d).toInt ≤ 60000000000 * 50000 := Int.mul_le_mul (by omega) (by omega) al.1 (by decide)
  obtain ⟨tl, htl, tl0, tl1, -⟩ := cutI hnt (B := ltW w d) (C := ltW w d + fiW w d) rfl eS nt0.1 al.1 (by omega) (by omega)
  have hT : (cTL w d way).toInt = tl := htl
  obtain ⟨u, hu, u0, u1⟩ : ∃ u, (if ltW w d + fiW w d = 0 then (0 : Int64) else cNT w d way - cTL w d way).toInt = u ∧ 0 ≤ u ∧ u + tl ≤ nt := by
    split
    · rename_i h
      refine ⟨0, L0, Int.le_refl _, ?_⟩
      have : tl = 0 := by rw [← htl]; unfold cut; rw [if_pos h]; rfl
      omega
    · exact ⟨_, g_sub hnt hT (by omega), by omega, by omega⟩
  have hO : (cOT w d way).toInt = 0 + z0 + z1 + z2 + z3 + u := g_add hOU hu (by omega)
  refine ⟨fun k hk => ?_, by omega, by omega, by omega⟩
  rcases (show k = 0 ∨ k = 1 ∨ k = 2 ∨ k = 3 by omega) with rfl | rfl | rfl | rfl
  · omega
  · omega
  · omega
  · omega
/-! ===== month by month ===== -/
def iS (f : Nat → Int) : Nat → Int
  | 0 => 0
  | n + 1 => iS f n + f n
theorem iS_c {f g : Nat → Int} : ∀ {n : Nat}, (∀ i, i < n → f i = g i) → iS f n = iS g n
  | 0, _ => rfl
  | n + 1, h => by
    show iS f n + f n = iS g n + g n
    rw [iS_c (fun i hi => h i (by omega)), h n (by omega)]
theorem iS_0 {f : Nat → Int} : ∀ {n : Nat}, (∀ i, i < n → 0 ≤ f i) → 0 ≤ iS f n
  | 0, _ => Int.le_refl _
  | n + 1, h => by
    have := iS_0 (f := f) (n := n) (fun i hi => h i (by omega))
    have := h n (by omega)
    show 0 ≤ iS f n + f n
    omega
theorem iS_m {f : Nat → Int} : ∀ {n k : Nat}, (∀ i, i < n → 0 ≤ f i) → k ≤ n → iS f k ≤ iS f n
  | 0, k, _, hk => by
    obtain rfl : k = 0 := by omega
    exact Int.le_refl _
  | n + 1, k, h, hk => by
    have a := h n (by omega)
    show iS f k ≤ iS f n + f n
    by_cases z : k = n + 1
    · subst z; exact Int.le_refl _
    · have := iS_m (f := f) (n := n) (k := k) (fun i hi => h i (by omega)) (by omega)
      omega
theorem iS_t {f : Nat → Int} {n k : Nat} (h : ∀ i, i < n → 0 ≤ f i) (hk : k < n) : f k ≤ iS f n := by
  have a := iS_m (f := f) (n := n) (k := k + 1) h hk
  have b := iS_0 (f := f) (n := k) (fun i hi => h i (by omega))
  have c : iS f (k + 1) = iS f k + f k := rfl
  omega
/-- the cents inside of a department -/
def inC (w : Nat → Int64) (d : Nat) : Int := (w (103 + 6 * d + 0)).toInt + (w (103 + 6 * d + 1)).toInt + (w (103 + 6 * d + 2)).toInt + (w (103 + 6 * d + 3)).toInt + (w (66 + 7 * d + 1)).toInt + (w (66 + 7 * d + 2)).toInt + (w (66 + 7 * d + 3)).toInt
def leI (w : Nat → Int64) (d : Nat) : Int := (w (71 + 7 * d)).toInt
def opI (w : Nat → Int64) (d : Nat) : Int := (w (101 + 6 * d)).toInt
/-- the cents that are left in a department -/
def luC (w : Nat → Int64) (d : Nat) : Int := (mW w (d + 1) ((131 + 55 * d) + 36 + 4 * 0)).toInt + (mW w (d + 1) ((131 + 55 * d) + 36 + 4 * 1)).toInt + (mW w (d + 1) ((131 + 55 * d) + 36 + 4 * 2)).toInt + (mW w (d + 1) ((131 + 55 * d) + 36 + 4 * 3)).toInt + (mW w (d + 1) ((131 + 55 * d) + 51)).toInt
def cen0 (w : Nat → Int64) (d : Nat) : Prop := (∀ k, k < 4 → 0 ≤ (w (103 + 6 * d + k)).toInt) ∧ ∀ k, 1 ≤ k → k < 4 → 0 ≤ (w (66 + 7 * d + k)).toInt
theorem inC_0 {w : Nat → Int64} {d : Nat} (h : cen0 w d) : 0 ≤ inC w d := by
  have a0 := h.1 0 (by decide)
  have a1 := h.1 1 (by decide)
  have a2 := h.1 2 (by decide)
  have a3 := h.1 3 (by decide)
  have b1 := h.2 1 (by decide) (by decide)
  have b2 := h.2 2 (by decide) (by decide)
  have b3 := h.2 3 (by decide) (by decide)
  unfold inC
  omega
set_option maxHeartbeats 1000000 in
theorem months_I {w : Nat → Int64} {n m t : Nat} (hf : WFt w n m) (hE : ∀ d, d < n → WFe w d t) (h4 : rg w 4 10000) (hc : ∀ d, d < n → cen0 w d) (hB : iS (inC w) n ≤ 60000000000) : ∀ d, d ≤ n → (∀ e, e < d → cnM w e) →
    (0 ≤ (uIn (mW w d) d).toInt ∧ (uIn (mW w d) d).toInt ≤ 10000 + 50000 * (d : Int) ∧ (uIn (mW w d) d).toInt + iS (leI w) d ≤ (w 4).toInt + iS (opI w) d) ∧ (0 ≤ (cIn (mW w d) d).toInt ∧ (cIn (mW w d) d).toInt + iS (luC w) d ≤ iS (inC w) d) ∧ ∀ e, e < d → (∀ k, k < 4 → 0 ≤ (mW w (e + 1) (131 + 55 * e + 36 + 4 * k)).toInt) ∧ 0 ≤ (mW w (e + 1) (131 + 55 * e + 51)).toInt
  | 0, _, _ => by
    have a := rgI h4 (by decide)
    refine ⟨⟨a.1, ?_, ?_⟩, ⟨?_, ?_⟩, fun e he => absurd he (by omega)⟩
    · show (w 4).toInt ≤ _; omega
    · show (w 4).toInt + 0 ≤ (w 4).toInt + 0; omega
    · show 0 ≤ (0 : Int64).toInt; rw [L0]; omega
    · show (0 : Int64).toInt + 0 ≤ 0; rw [L0]; omega
  | d + 1, hd, can => by
    have n5 := hf.1
    have d5 : d < 5 := by omega
    obtain ⟨⟨u0, u1, u2⟩, ⟨i0, i1⟩, pe⟩ := months_I hf hE h4 hc hB d (by omega) (fun e he => can e (by omega))
    have cd : canW (oW w d) d (wyW w d) := can d (by omega)
    have hr : rgM (oW w d) d := rgM_o d5 (hE d (by omega)) u0 (by omega)
    have hwd := hf.2.2.2.2.2.1 d (by omega)
    have hw' : WFd (oW w d) d := by
      obtain ⟨a1, a2, a3, a4, ⟨mm, b1, b2, b3, b4⟩, a6⟩ := hwd
      have o : ∀ i, i < 131 → oW w d i = w i := fun i hi => oW_o w d hi
      refine ⟨by rw [o _ (by omega)]; exact a1, by rw [o _ (by omega)]; exact a2, by rw [o _ (by omega)]; exact a3, by rw [o _ (by omega)]; exact a4, ⟨mm, b1, by rw [o _ (by omega)]; exact b2, fun i hi => by rw [o _ (by omega)]; exact b3 i hi, fun i x y => by rw [o _ (by omega)]; exact b4 i x y⟩, by rw [o _ (by omega), o _ (by omega)]; exact a6⟩
    have hway : wyW w d = 0 ∨ wyW w d = 1 := by
      unfold wyW
      rcases hwd.1 with z | z
      · rw [z]; exact Or.inl rfl
      · rw [z]; exact Or.inr rfl
    obtain ⟨F, hm, eF⟩ := mnI_of hr hw' cd
    have ow : ∀ j, j < 6 → oW w d ((131 + 55 * d) + j) = w (101 + 6 * d + j) := fun j hj => oW_w w d5 hj
    have oi : ∀ j, j < 7 → oW w d ((131 + 55 * d) + (8 + j)) = w (66 + 7 * d + j) := fun j hj => by rw [← oW_i w d5 hj, show (131 + 55 * d) + 8 + j = (131 + 55 * d) + (8 + j) by omega]
    have oc : ∀ k, k < 4 → oW w d ((131 + 55 * d) + (2 + k)) = w (103 + 6 * d + k) := fun k hk => by
      rw [ow _ (by omega), show 101 + 6 * d + (2 + k) = 103 + 6 * d + k by omega]
    obtain ⟨hc1, hc2⟩ := hc d (by omega)
    have e7 : in7 (oW w d) d = (cIn (mW w d) d).toInt + inC w d := by
      unfold in7 inC
      rw [oc 0 (by decide), oc 1 (by decide), oc 2 (by decide), oc 3 (by decide), oW_c, oi 1 (by decide), oi 2 (by decide), oi 3 (by decide)]
      omega
    have iM : iS (inC w) (d + 1) ≤ iS (inC w) n := iS_m (fun i hi => inC_0 (hc i hi)) hd
    have iD : iS (inC w) (d + 1) = iS (inC w) d + inC w d := rfl
    have tl0 : 0 ≤ iS (luC w) d := iS_0 (fun e he => by
      obtain ⟨p1, p2⟩ := pe e he
      have q0 := p1 0 (by decide)
      have q1 := p1 1 (by decide)
      have q2 := p1 2 (by decide)
      have q3 := p1 3 (by decide)
      unfold luC
      omega)
    obtain ⟨m1, m2, m3, m4⟩ := month_I hm cd hway (fun k hk => by rw [oc k hk]; exact hc1 k hk) (by rw [oW_c]; exact i0) (fun k x y => by rw [oi k (by omega)]; exact hc2 k x y) (by rw [e7]; omega)
    have et : ∀ k, k < 4 → mW w (d + 1) ((131 + 55 * d) + 36 + 4 * k) = tlW (oW w d) d (wyW w d) k := fun k hk => by
      show ctW (oW w d) d (wyW w d) _ = _
      rw [ctW_c _ _ _ (by omega), show (131 + 55 * d) + 36 + 4 * k = (131 + 55 * d) + (34 + 4 * k) + 2 by omega]
      exact (cnR_v _ _ _ 4 (by decide) hk).2.2.2.1
    have eL : mW w (d + 1) ((131 + 55 * d) + 51) = cTL (oW w d) d (wyW w d) := (ctW_l (oW w d) d (wyW w d)).2.1
    have eO : cIn (mW w (d + 1)) (d + 1) = cOT (oW w d) d (wyW w d) := by
      show (if d + 1 = 0 then _ else mW w (d + 1) (131 + 55 * (d + 1 - 1) + 54)) = _
      rw [if_neg (Nat.succ_ne_zero d), Nat.add_sub_cancel]
      exact (ctW_l (oW w d) d (wyW w d)).2.2.2.2
    have eU : (uIn (mW w (d + 1)) (d + 1)).toInt = F := by rw [uIn_s]; exact hm.2.2.1
    have w0 : oW w d (131 + 55 * d) = w (101 + 6 * d) := ow 0 (by decide)
    have w12 : oW w d ((131 + 55 * d) + 12) = w (70 + 7 * d) := by
      have := oi 4 (by decide)
      rw [show 66 + 7 * d + 4 = 70 + 7 * d by omega] at this
      exact this
    have w13 : oW w d ((131 + 55 * d) + 13) = w (71 + 7 * d) := by
      have := oi 5 (by decide)
      rw [show 66 + 7 * d + 5 = 71 + 7 * d by omega] at this
      exact this
    rw [w0, oW_u, w12, w13] at eF
    obtain ⟨⟨-, -, g1, g2, -⟩, ⟨g3, -, -⟩, -⟩ := hE d (by omega)
    have b1 := rgI g1 (by decide)
    have b2 := rgI g2 (by decide)
    have b3 := rgI g3 (by decide)
    refine ⟨⟨by rw [eU]; exact hm.2.2.2.1, ?_, ?_⟩, ⟨by rw [eO]; exact m3, ?_⟩, fun e he => ?_⟩
    · rw [eU, eF, Int.natCast_add]; omega
    · rw [eU]
      show F + (iS (leI w) d + leI w d) ≤ (w 4).toInt + (iS (opI w) d + opI w d)
      unfold leI opI
      unfold leI opI at u2
      omega
    · rw [eO]
      show _ + (iS (luC w) d + luC w d) ≤ _
      have : luC w d = (tlW (oW w d) d (wyW w d) 0).toInt + (tlW (oW w d) d (wyW w d) 1).toInt + (tlW (oW w d) d (wyW w d) 2).toInt + (tlW (oW w d) d (wyW w d) 3).toInt + (cTL (oW w d) d (wyW w d)).toInt := by
        unfold luC
        rw [et 0 (by decide), et 1 (by decide), et 2 (by decide), et 3 (by decide), eL]
      rw [this, iD]
      omega
    · by_cases z : e = d
      · subst z
        exact ⟨fun k hk => by rw [et k hk]; exact m1 k hk, by rw [eL]; exact m2⟩
      · exact pe e (by omega)
