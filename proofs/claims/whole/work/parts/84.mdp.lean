/-! ===== the model reads a department ===== -/
/-- the told row, and the model's own numbers at J, change alone -/
def MT (J : List Nat) (S S' : Mem) : Prop := (∀ c, c ≠ 142 → S'.2 c = S.2 c) ∧ (∀ c, c ≠ 138 → S'.1 c = S.1 c) ∧ ∀ j, j ∉ J → S'.1 138 j = S.1 138 j
theorem MS.mt {J : List Nat} {S S' : Mem} (h : MS J S S') : MT J S S' := ⟨fun c _ => by rw [h.1], h.2.1, h.2.2⟩
theorem MT.trans {J K : List Nat} {S T U : Mem} (h : MT J S T) (k : MT K T U) : MT (J ++ K) S U := by
  refine ⟨fun c x => (k.1 c x).trans (h.1 c x), fun c x => (k.2.1 c x).trans (h.2.1 c x), fun j x => ?_⟩
  rw [List.mem_append] at x
  exact (k.2.2 j (fun y => x (Or.inr y))).trans (h.2.2 j (fun y => x (Or.inl y)))
theorem MT.w {J K : List Nat} {S T : Mem} (h : MT J S T) (k : ∀ j, j ∈ J → j ∈ K) : MT K S T := ⟨h.1, h.2.1, fun j x => h.2.2 j (fun y => x (k j y))⟩
theorem MT.row {J : List Nat} {S T : Mem} (h : MT J S T) (X : Nat → Nat → Int64) (hX : ∀ c, c ≠ 142 → X c = T.2 c) : MT J S (T.1, X) := ⟨fun c x => (hX c x).trans (h.1 c x), h.2.1, h.2.2⟩
theorem MT.tg {J : List Nat} {S S' : Mem} {g : Nat → Int32} {len : Nat} (h : MT J S S') (hj : 3 ∉ J) (hg : tgM S g len) : tgM S' g len := by
  obtain ⟨a, b, c, d⟩ := hg
  refine ⟨(h.2.2 3 hj).trans a, b, fun i hi => ?_, d⟩
  rw [h.2.1 140 (by decide)]
  exact c i hi
/-- the told row is w -/
def TR (S : Mem) (w : Nat → Int64) : Prop := ∀ i, i < 754 → S.2 142 i = w i
theorem ST.u {S : Mem} {len a b : Nat} (hl : len ≤ 400) (h : ST S len a) (k : ST S len b) : b = a := by
  have := k.2.1.symm.trans h.2.1
  have b1 := h.2.2.1
  have b2 := k.2.2.1
  exact (nI_eq (by omega) (by omega)).mp this
theorem wDepL_b (w : Nat → Int64) (d : Nat) (wy pt rt sc bt bs bt' bs' : Int64) : u1L (u1L (wDepL w d wy pt rt sc bt bs) (5 + 9 * d + 7) bt') (5 + 9 * d + 8) bs' = wDepL w d wy pt rt sc bt' bs' := by
  funext i
  unfold wDepL u1L
  by_cases h8 : i = 5 + 9 * d + 8
  · simp [h8]
  · by_cases h7 : i = 5 + 9 * d + 7
    · simp [h7]
    · simp [h8, h7]
theorem wDepL_c {w w' : Nat → Int64} (h : ∀ i, i < 754 → w' i = w i) (d : Nat) (wy pt rt sc bt bs : Int64) : ∀ i, i < 754 → wDepL w' d wy pt rt sc bt bs i = wDepL w d wy pt rt sc bt bs i := by
  intro i hi
  unfold wDepL u1L
  rw [h i hi]
theorem u1L_c {w w' : Nat → Int64} (h : ∀ i, i < 754 → w' i = w i) {j : Nat} {v v' : Int64} (hv : v' = v) : ∀ i, i < 754 → u1L w' j v' i = u1L w j v i := by
  intro i hi
  unfold u1L
  rw [h i hi, hv]
set_option maxHeartbeats 4000000 in
theorem e_readsDept {g : Nat → Int32} {len f a n : Nat} (S : Mem) (hg : tgM S g len) (sA : ST S len a) (w : Nat → Int64) (hw : TR S w) (hn : w 0 = lN n) (hn5 : n ≤ 5) {Qr : QR} {Qx : QX}
    (h : ∀ S', MT [4, 6, 7] S S' → ((∃ a' w', ST S' len a' ∧ pDep g len f a n w = .inr (a', w') ∧ TR S' w') ∨ FL S' (pDep g len f a n w)) → Qr none S') : vsp 156 10 (sX10_readsDept 156) [.ref 138, .int (nI f)] S Qr Qx := by
  have s0 : S.2 142 0 = lN n := (hw 0 (by decide)).trans hn
  have si : (S.2 142 0).toInt32 = nI n := by rw [s0, lN_i]
  refine ⟨tM, runG rfl 200 ⟨tM, 754, tTold, vp_nI (n := 0) (by decide), And.intro (fun x => ?_) (fun x => ?_)⟩⟩
  · have x : ¬ (S.2 142 0).toInt32 = nI 5 := x
    rw [si] at x
    have hd : n < 5 := by
      rcases Nat.lt_or_ge n 5 with y | y
      · exact y
      · exact absurd (by rw [show n = 5 by omega]) x
    have pd : pDep g len f a n w = pDk g len a n fun a wy pt rt sc => if mtc g (rend isBl g len a) 4 then pBk g len a n fun a bt bs => .inr (a, w1 (wDep w n wy pt rt sc (lN bt) (lN bs)) 0) else .inr (rend isBl g len a, w1 (wDep w n wy pt rt sc (-1) (-1)) 0) := if_neg (by omega)
    have l4 := hg.2.1
    revert h
    generalize hR : pDep g len f a n w = R
    intro h
    rw [pd] at hR
    refine ⟨⟨Nat.le_of_ble_eq_true rfl, Nat.le_of_ble_eq_true rfl, Nat.le_of_ble_eq_true rfl⟩, e_way S hg R _ (Or.inl ⟨a, sA, hR.symm⟩) (fun T v1 tT v01 hT => ?_)⟩
    have gT := tT.tg (by decide) hg
    refine ⟨⟨Nat.le_of_ble_eq_true rfl, Nat.le_of_ble_eq_true rfl, Nat.le_of_ble_eq_true rfl⟩, e_number 0 100 T gT R (fun a pt => pNum g len a 0 50 fun a rt => pNum g len a 0 999 fun a sc => if mtc g (rend isBl g len a) 4 then pBk g len a n fun a bt bs => .inr (a, w1 (wDep w n v1.toInt64 pt rt sc (lN bt) (lN bs)) 0) else .inr (rend isBl g len a, w1 (wDep w n v1.toInt64 pt rt sc (-1) (-1)) 0)) hT (fun U v2 tU kU hU => ?_)⟩
    have gU := tU.tg (by decide) gT
    refine ⟨⟨Nat.le_of_ble_eq_true rfl, Nat.le_of_ble_eq_true rfl, Nat.le_of_ble_eq_true rfl⟩, e_number 0 50 U gU R (fun a rt => pNum g len a 0 999 fun a sc => if mtc g (rend isBl g len a) 4 then pBk g len a n fun a bt bs => .inr (a, w1 (wDep w n v1.toInt64 v2.toNatClampNeg rt sc (lN bt) (lN bs)) 0) else .inr (rend isBl g len a, w1 (wDep w n v1.toInt64 v2.toNatClampNeg rt sc (-1) (-1)) 0)) (hU.imp (fun ⟨a', x, y, _⟩ => ⟨a', x, y⟩) id) (fun V v3 tV kV hV => ?_)⟩
    have gV := tV.tg (by decide) gU
    refine ⟨⟨Nat.le_of_ble_eq_true rfl, Nat.le_of_ble_eq_true rfl, Nat.le_of_ble_eq_true rfl⟩, e_number 0 999 V gV R (fun a sc => if mtc g (rend isBl g len a) 4 then pBk g len a n fun a bt bs => .inr (a, w1 (wDep w n v1.toInt64 v2.toNatClampNeg v3.toNatClampNeg sc (lN bt) (lN bs)) 0) else .inr (rend isBl g len a, w1 (wDep w n v1.toInt64 v2.toNatClampNeg v3.toNatClampNeg sc (-1) (-1)) 0)) (hV.imp (fun ⟨a', x, y, _⟩ => ⟨a', x, y⟩) id) (fun W v4 tW kW hW => ?_)⟩
    have gW := tW.tg (by decide) gV
    have mW : MT [4, 6, 7] S W := ((tT.trans (tU.trans (tV.trans tW))).mt).w (by decide)
    have rW : W.2 = S.2 := by rw [tW.1, tV.1, tU.1, tT.1]
    refine ⟨tM, ⟨Nat.le_of_ble_eq_true rfl, Nat.le_of_ble_eq_true rfl, Nat.le_of_ble_eq_true rfl⟩, ?_⟩
    show sX10_dept 156 [.ref 142, .int (S.2 142 0).toInt32, .int v1, .int v2, .int v3, .int v4] W _ _
    rw [si]
    refine e_mdept tTold hd v1 v2 v3 v4 W (fun X hX1 hX2 => ?_)
    have mX : MT [4, 6, 7] S (W.1, X) := mW.row X hX2
    have gX : tgM (W.1, X) g len := gW
    have inc : ∀ (T : Mem) (Y : Nat → Int64), MT [4, 6, 7] S T → (∀ i, i < 754 → T.2 142 i = Y i) → MT [4, 6, 7] S (T.1, u2 T.2 142 0 (T.2 142 0 + 1)) ∧ TR (T.1, u2 T.2 142 0 (T.2 142 0 + 1)) (w1 Y 0) := by
      intro T Y mT hY
      refine ⟨mT.row _ (fun c hc => u2_other _ _ _ hc), fun i hi => ?_⟩
      show u2 T.2 142 0 (T.2 142 0 + 1) 142 i = w1 Y 0 i
      rw [u2_rowL]
      exact u1L_c hY (by rw [hY 0 (by decide)]) i hi
    have hRow : ∀ i, i < 754 → X 142 i = wDepL w n v1.toInt64 v2.toInt64 v3.toInt64 v4.toInt64 (-1) (-1) i := by
      intro i hi
      rw [hX1]
      exact wDepL_c (fun i hi => by rw [rW]; exact hw i hi) _ _ _ _ _ _ _ i hi
    have flt : FL W R → ∀ T, MT [4, 6, 7] S T → T.1 138 6 = W.1 138 6 → T.1 138 7 = W.1 138 7 → FL T R := by
      intro hf T _ e6 e7
      obtain ⟨r, pl, x, y, z, u⟩ := hf
      exact ⟨r, pl, x, y, e6.trans z, e7.trans u⟩
    have n12 : vp_in (nI 5 + nI 9 * ((S.2 142 0).toInt32) + nI 7) 754 ∧ (nI 5 + nI 9 * ((S.2 142 0).toInt32) + nI 7).toNatClampNeg = 5 + 9 * n + 7 ∧ vp_in (nI 5 + nI 9 * ((S.2 142 0).toInt32) + nI 8) 754 ∧ (nI 5 + nI 9 * ((S.2 142 0).toInt32) + nI 8).toNatClampNeg = 5 + 9 * n + 8 := by
      rw [si, ix2, ix2]
      exact ⟨vp_nI (by omega), nI_clamp (by omega), vp_nI (by omega), nI_clamp (by omega)⟩
    rcases hW with ⟨a4, sW, hRW, n4, b4, -⟩ | hF
    · have e3 : v3 = nI v3.toNatClampNeg ∧ v3.toNatClampNeg ≤ 100000 := by
        rcases hV with ⟨_, _, _, x⟩ | y
        · exact ⟨x.1, x.2.1⟩
        · exact absurd sW.1 (kW y).no
      have e2 : v2 = nI v2.toNatClampNeg ∧ v2.toNatClampNeg ≤ 100000 := by
        rcases hU with ⟨_, _, _, x⟩ | y
        · exact ⟨x.1, x.2.1⟩
        · exact absurd sW.1 (kW (kV y)).no
      have gd : ∀ i, i < 754 → X 142 i = wDep w n v1.toInt64 v2.toNatClampNeg v3.toNatClampNeg v4.toNatClampNeg (-1) (-1) i := by
        intro i hi
        rw [hRow i hi, ← wDepL_eq, ← nI_l (n := v2.toNatClampNeg) (by omega), ← nI_l (n := v3.toNatClampNeg) (by omega), ← nI_l (n := v4.toNatClampNeg) (by omega), ← e2.1, ← e3.1, ← n4]
      have sX : ST (W.1, X) len a4 := sW
      have rl4 := rend_le (P := isBl) (g := g) sW.2.2.1
      refine ⟨⟨Nat.le_of_ble_eq_true rfl, Nat.le_of_ble_eq_true rfl, Nat.le_of_ble_eq_true rfl⟩, e_takesWord (i := 12) (by decide) (W.1, X) gX (fun x => absurd sW.1 x) (fun b sB => ?_) (Or.inr ⟨a4, sX⟩)⟩
      obtain rfl := ST.u l4 sX sB
      refine ⟨fun m Y tY sY => ?_, fun m Y tY sY => ?_⟩
      · have m : mtc g (rend isBl g len b) 4 := m
        rw [if_pos m] at hRW
        have gY := tY.tg (by decide) gX
        have mY : MT [4, 6, 7] S Y := (mX.trans tY.mt).w (by decide)
        refine And.intro (fun x => absurd x (by decide)) (fun _ => ⟨tM, ⟨Nat.le_of_ble_eq_true rfl, Nat.le_of_ble_eq_true rfl, Nat.le_of_ble_eq_true rfl⟩, ?_⟩)
        show vsp 156 10 (sX10_number 156) [.ref 138, .int 0, .int (S.2 142 0).toInt32] Y _ _
        rw [si]
        refine e_number 0 (nI n) Y gY R (fun a bt => pNum g len a 1 90 fun a bs => .inr (a, w1 (wDep w n v1.toInt64 v2.toNatClampNeg v3.toNatClampNeg v4.toNatClampNeg (lN bt) (lN bs)) 0)) (Or.inl ⟨_, sY, hRW⟩) (fun A v5 tA kA hA => ?_)
        have gA := tA.tg (by decide) gY
        have mA : MT [4, 6, 7] S A := (mY.trans tA.mt).w (by decide)
        refine ⟨754, tTold, n12.1, tM, ⟨Nat.le_of_ble_eq_true rfl, Nat.le_of_ble_eq_true rfl, Nat.le_of_ble_eq_true rfl⟩, ?_⟩
        have mA2 : MT [4, 6, 7] S (A.1, u2 A.2 142 (nI 5 + nI 9 * ((S.2 142 0).toInt32) + nI 7).toNatClampNeg v5.toInt64) := mA.row _ (fun c hc => u2_other _ _ _ hc)
        refine e_number 1 90 (A.1, u2 A.2 142 (nI 5 + nI 9 * ((S.2 142 0).toInt32) + nI 7).toNatClampNeg v5.toInt64) gA R (fun a bs => .inr (a, w1 (wDep w n v1.toInt64 v2.toNatClampNeg v3.toNatClampNeg v4.toNatClampNeg (lN v5.toNatClampNeg) (lN bs)) 0)) (hA.imp (fun ⟨a', x, y, _⟩ => ⟨a', x, y⟩) id) (fun B v6 tB kB hB => ?_)
        have mB : MT [4, 6, 7] S B := (mA2.trans tB.mt).w (by decide)
        have mB2 : MT [4, 6, 7] S (B.1, u2 B.2 142 (nI 5 + nI 9 * ((S.2 142 0).toInt32) + nI 8).toNatClampNeg v6.toInt64) := mB.row _ (fun c hc => u2_other _ _ _ hc)
        have rB : ∀ i, i < 754 → u2 B.2 142 (nI 5 + nI 9 * ((S.2 142 0).toInt32) + nI 8).toNatClampNeg v6.toInt64 142 i = wDepL w n v1.toInt64 v2.toInt64 v3.toInt64 v4.toInt64 v5.toInt64 v6.toInt64 i := by
          intro i hi
          rw [u2_rowL, tB.1]
          show u1L (u2 A.2 142 (nI 5 + nI 9 * ((S.2 142 0).toInt32) + nI 7).toNatClampNeg v5.toInt64 142) (nI 5 + nI 9 * ((S.2 142 0).toInt32) + nI 8).toNatClampNeg v6.toInt64 i = _
          rw [u2_rowL, n12.2.1, n12.2.2.2, tA.1, tY.1, ← wDepL_b w n v1.toInt64 v2.toInt64 v3.toInt64 v4.toInt64 (-1) (-1) v5.toInt64 v6.toInt64]
          exact u1L_c (u1L_c hRow rfl) rfl i hi
        obtain ⟨i1, i2⟩ := inc _ _ mB2 rB
        refine ⟨754, tTold, n12.2.2.1, tM, 754, tTold, vp_nI (n := 0) (by decide), 754, tTold, vp_nI (n := 0) (by decide), rfl, h _ i1 ?_⟩
        rcases hB with ⟨a6, sB6, hRB, n6, b6, -⟩ | hF
        · refine Or.inl ⟨a6, _, sB6, hRB, fun i hi => ?_⟩
          have e5 : v5 = nI v5.toNatClampNeg ∧ v5.toNatClampNeg ≤ 100000 := by
            rcases hA with ⟨_, _, _, x⟩ | y
            · exact ⟨x.1, x.2.1⟩
            · exact absurd sB6.1 (kB y).no
          refine (i2 i hi).trans ?_
          refine u1L_c (w := wDep w n v1.toInt64 v2.toNatClampNeg v3.toNatClampNeg v4.toNatClampNeg (lN v5.toNatClampNeg) (lN v6.toNatClampNeg)) (fun j hj => ?_) ?_ i hi
          · rw [← wDepL_eq, ← nI_l (n := v2.toNatClampNeg) (by omega), ← nI_l (n := v3.toNatClampNeg) (by omega), ← nI_l (n := v4.toNatClampNeg) (by omega), ← nI_l (n := v5.toNatClampNeg) (by omega), ← nI_l (n := v6.toNatClampNeg) (by omega), ← e2.1, ← e3.1, ← n4, ← e5.1, ← n6]
          · rw [← wDepL_eq, ← nI_l (n := v2.toNatClampNeg) (by omega), ← nI_l (n := v3.toNatClampNeg) (by omega), ← nI_l (n := v4.toNatClampNeg) (by omega), ← nI_l (n := v5.toNatClampNeg) (by omega), ← nI_l (n := v6.toNatClampNeg) (by omega), ← e2.1, ← e3.1, ← n4, ← e5.1, ← n6]
        · exact Or.inr hF
      · have m : ¬ mtc g (rend isBl g len b) 4 := m
        rw [if_neg m] at hRW
        have mY : MT [4, 6, 7] S Y := (mX.trans tY.mt).w (by decide)
        have rY : ∀ i, i < 754 → Y.2 142 i = wDep w n v1.toInt64 v2.toNatClampNeg v3.toNatClampNeg v4.toNatClampNeg (-1) (-1) i := fun i hi => by rw [tY.1]; exact gd i hi
        obtain ⟨i1, i2⟩ := inc Y _ mY rY
        exact And.intro (fun _ => ⟨tM, 754, tTold, vp_nI (n := 0) (by decide), 754, tTold, vp_nI (n := 0) (by decide), rfl, h _ i1 (Or.inl ⟨_, _, sY, hRW, i2⟩)⟩) (fun x => absurd rfl x)
    · refine ⟨⟨Nat.le_of_ble_eq_true rfl, Nat.le_of_ble_eq_true rfl, Nat.le_of_ble_eq_true rfl⟩, e_takesWord (i := 12) (by decide) (W.1, X) gX (fun _ => And.intro (fun _ => ⟨tM, 754, tTold, vp_nI (n := 0) (by decide), 754, tTold, vp_nI (n := 0) (by decide), rfl, h _ (inc (W.1, X) _ mX hRow).1 (Or.inr (flt hF _ (inc (W.1, X) _ mX hRow).1 rfl rfl))⟩) (fun x => absurd rfl x)) (fun b sB => absurd sB.1 hF.no) (Or.inl hF.no)⟩
  · have x : (S.2 142 0).toInt32 = nI 5 := x
    rw [si] at x
    have hd : n = 5 := (nI_eq (by omega) (by decide)).mp x
    refine ⟨⟨Nat.le_of_ble_eq_true rfl, Nat.le_of_ble_eq_true rfl, Nat.le_of_ble_eq_true rfl⟩, e_wrong 3 _ S sA.1 (fun T tT e6 e7 => ⟨rfl, h T (tT.mt.w (by decide)) (Or.inr ⟨3, f, if_pos hd, by decide, e6, e7⟩)⟩)⟩
