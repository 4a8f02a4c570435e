/-! ===== the model reads materials and products ===== -/
set_option maxHeartbeats 4000000 in
theorem e_readsMat {g : Nat → Int32} {len f a n : Nat} (S : Mem) (hg : tgM S g len) (sA : ST S len a) (w : Nat → Int64) (hw : TR S w) (hn : w 0 = lN n) (hn5 : n ≤ 5) (hm : ∀ d, d < n → ∃ k, k ≤ 2 ∧ w (5 + 9 * d + 4) = lN k) {Qr : QR} {Qx : QX}
    (h : ∀ S', MT [4, 6, 7] S S' → ((∃ a' w', ST S' len a' ∧ pMat g len f a n w = .inr (a', w') ∧ TR S' w') ∨ FL S' (pMat g len f a n w)) → Qr none S') : vsp 156 10 (sX10_readsMat 156) [.ref 138, .int (nI f)] S Qr Qx := by
  have s0 : S.2 142 0 = lN n := (hw 0 (by decide)).trans hn
  have si : (S.2 142 0).toInt32 = nI n := by rw [s0, lN_i]
  have l4 := hg.2.1
  have pm : pMat g len f a n w = pNum g len a 0 (nI n - 1) fun a d => if w (5 + 9 * d + 4) = 2 then .inl (3, f) else pNum g len a 0 100 fun a far => .inr (a, w1 (u1L w (5 + 9 * d + 5 + (w (5 + 9 * d + 4)).toNatClampNeg) (lN far)) (5 + 9 * d + 4)) := rfl
  revert h
  generalize hR : pMat g len f a n w = R
  intro h
  rw [pm] at hR
  refine ⟨tM, runG rfl 200 ⟨tM, 754, tTold, vp_nI (n := 0) (by decide), ⟨Nat.le_of_ble_eq_true rfl, Nat.le_of_ble_eq_true rfl, Nat.le_of_ble_eq_true rfl⟩, ?_⟩⟩
  show vsp 156 10 (sX10_number 156) [.ref 138, .int 0, .int ((S.2 142 0).toInt32 - 1)] S _ _
  rw [si]
  refine e_number 0 (nI n - 1) S hg R _ (Or.inl ⟨a, sA, hR.symm⟩) (fun T v tT kT hT => ⟨⟨Nat.le_of_ble_eq_true rfl, Nat.le_of_ble_eq_true rfl, Nat.le_of_ble_eq_true rfl⟩, ?_⟩)
  have gT := tT.tg (by decide) hg
  have mT : MT [4, 6, 7] S T := tT.mt
  have rT : ∀ i, i < 754 → T.2 142 i = w i := fun i hi => by rw [tT.1]; exact hw i hi
  rcases hT with ⟨a1, sT, hRT, nv, bv, v1, v2⟩ | hF
  · generalize v.toNatClampNeg = d at nv bv hRT
    subst nv
    have hd : d < n := by
      rcases Nat.eq_zero_or_pos n with e | e
      · subst e
        exact absurd v2 (neg_le (nI_pos (by omega)) (by decide))
      · rw [nI_pr e] at v2
        have := (nI_leI (by omega) (by omega)).mp v2
        omega
    obtain ⟨k, k2, ek⟩ := hm d hd
    have i4 : nI 5 + nI 9 * nI d + nI 4 = nI (5 + 9 * d + 4) := ix2 _ _ _ _
    have c4 : (nI 5 + nI 9 * nI d + nI 4).toNatClampNeg = 5 + 9 * d + 4 := by rw [i4]; exact nI_clamp (by omega)
    have v4 : vp_in (nI 5 + nI 9 * nI d + nI 4) 754 := by rw [i4]; exact vp_nI (by omega)
    have t4 : T.2 142 (nI 5 + nI 9 * nI d + nI 4).toNatClampNeg = lN k := by rw [c4, rT _ (by omega)]; exact ek
    refine e_fine T (fun _ => And.intro (fun _ => ⟨tM, 754, tTold, v4, And.intro (fun x => ?_) (fun x => ?_)⟩) (fun x => absurd x (by decide))) (fun x => absurd sT.1 x)
    · have x : ¬ T.2 142 (nI 5 + nI 9 * nI d + nI 4).toNatClampNeg = 2 := fun e => x ((lg_cmp_eq _ _).mpr e)
      rw [t4] at x
      have k1 : k < 2 := by
        rcases Nat.lt_or_ge k 2 with y | y
        · exact y
        · exact absurd (by rw [show k = 2 by omega]; rfl) x
      have nw : ¬ w (5 + 9 * d + 4) = 2 := by rw [ek]; exact x
      rw [if_neg nw] at hRT
      refine ⟨⟨Nat.le_of_ble_eq_true rfl, Nat.le_of_ble_eq_true rfl, Nat.le_of_ble_eq_true rfl⟩, e_number 0 100 T gT R _ (Or.inl ⟨a1, sT, hRT⟩) (fun U u tU kU hU => ?_)⟩
      have rU : ∀ i, i < 754 → U.2 142 i = w i := fun i hi => by rw [tU.1]; exact rT i hi
      have mU : MT [4, 6, 7] S U := (mT.trans tU.mt).w (by decide)
      have u4 : U.2 142 (nI 5 + nI 9 * nI d + nI 4).toNatClampNeg = lN k := by rw [tU.1]; exact t4
      have i5 : nI 5 + nI 9 * nI d + nI 5 + (U.2 142 (nI 5 + nI 9 * nI d + nI 4).toNatClampNeg).toInt32 = nI (5 + 9 * d + 5 + k) := by rw [u4, lN_i, ix2, nI_add]
      have c5 : (nI 5 + nI 9 * nI d + nI 5 + (U.2 142 (nI 5 + nI 9 * nI d + nI 4).toNatClampNeg).toInt32).toNatClampNeg = 5 + 9 * d + 5 + k := by rw [i5]; exact nI_clamp (by omega)
      have m1 : MT [4, 6, 7] S (U.1, u2 U.2 142 (nI 5 + nI 9 * nI d + nI 5 + (U.2 142 (nI 5 + nI 9 * nI d + nI 4).toNatClampNeg).toInt32).toNatClampNeg u.toInt64) := mU.row _ (fun c hc => u2_other _ _ _ hc)
      refine ⟨tM, tM, 754, tTold, v4, 754, tTold, by show vp_in (nI 5 + nI 9 * nI d + nI 5 + (U.2 142 (nI 5 + nI 9 * nI d + nI 4).toNatClampNeg).toInt32) 754; rw [i5]; exact vp_nI (by omega), tM, 754, tTold, v4, 754, tTold, v4, rfl, h _ (m1.row _ (fun c hc => u2_other _ _ _ hc)) ?_⟩
      rcases hU with ⟨a2, sU, hRU, nu, bu, -⟩ | hF
      · refine Or.inl ⟨a2, _, sU, hRU, fun i hi => ?_⟩
        show u2 (u2 U.2 142 (nI 5 + nI 9 * nI d + nI 5 + (U.2 142 (nI 5 + nI 9 * nI d + nI 4).toNatClampNeg).toInt32).toNatClampNeg u.toInt64) 142 (nI 5 + nI 9 * nI d + nI 4).toNatClampNeg (u2 U.2 142 (nI 5 + nI 9 * nI d + nI 5 + (U.2 142 (nI 5 + nI 9 * nI d + nI 4).toNatClampNeg).toInt32).toNatClampNeg u.toInt64 142 (nI 5 + nI 9 * nI d + nI 4).toNatClampNeg + 1) 142 i = _
        rw [c5, c4, u2_rowL, u2_rowL, ek, lN_clamp (by omega), ← nI_l (n := u.toNatClampNeg) (by omega), ← nu]
        refine u1L_c (u1L_c rU rfl) ?_ i hi
        unfold u1L
        rw [rU _ (by omega)]
      · exact Or.inr hF
    · have x : T.2 142 (nI 5 + nI 9 * nI d + nI 4).toNatClampNeg = 2 := (lg_cmp_eq _ _).mp x
      rw [c4, rT _ (by omega)] at x
      rw [if_pos x] at hRT
      exact ⟨⟨Nat.le_of_ble_eq_true rfl, Nat.le_of_ble_eq_true rfl, Nat.le_of_ble_eq_true rfl⟩, e_wrong 3 _ T sT.1 (fun U tU e6 e7 => ⟨rfl, h U ((mT.trans tU.mt).w (by decide)) (Or.inr ⟨3, f, hRT, by decide, e6, e7⟩)⟩)⟩
  · exact e_fine T (fun x => absurd x hF.no) (fun _ => And.intro (fun x => absurd rfl x) (fun _ => ⟨rfl, h T mT (Or.inr hF)⟩))
set_option maxHeartbeats 4000000 in
theorem e_readsProduct {g : Nat → Int32} {len f a p : Nat} (S : Mem) (hg : tgM S g len) (sA : ST S len a) (w : Nat → Int64) (hw : TR S w) (hn : w 1 = lN p) (hn5 : p ≤ 4) {Qr : QR} {Qx : QX}
    (h : ∀ S', MT [4, 6, 7] S S' → ((∃ a' w', ST S' len a' ∧ pPro g len f a p w = .inr (a', w') ∧ TR S' w') ∨ FL S' (pPro g len f a p w)) → Qr none S') : vsp 156 10 (sX10_readsProduct 156) [.ref 138, .int (nI f)] S Qr Qx := by
  have s0 : S.2 142 1 = lN p := (hw 1 (by decide)).trans hn
  have si : ((S.2 142 1).toInt32) = nI p := by rw [s0, lN_i]
  have l4 := hg.2.1
  refine ⟨tM, runG rfl 200 ⟨tM, 754, tTold, vp_nI (n := 1) (by decide), And.intro (fun x => ?_) (fun x => ?_)⟩⟩
  · have x : ¬ ((S.2 142 1).toInt32) = nI 4 := x
    rw [si] at x
    have hp : p < 4 := by
      rcases Nat.lt_or_ge p 4 with y | y
      · exact y
      · exact absurd (by rw [show p = 4 by omega]) x
    have pd : pPro g len f a p w = pNum g len a 1 100 fun a sh => pNum g len a 0 9999 fun a pr => pNum g len a 0 9999 fun a co => if mtc g (rend isBl g len a) 5 then .inr (rend isBl g len a + 2, w1 (u1L (u1L (u1L (u1L w (50 + 4 * p) (lN sh)) (50 + 4 * p + 1) (lN pr)) (50 + 4 * p + 2) (lN co)) (50 + 4 * p + 3) 1) 1) else .inr (rend isBl g len a, w1 (u1L (u1L (u1L (u1L w (50 + 4 * p) (lN sh)) (50 + 4 * p + 1) (lN pr)) (50 + 4 * p + 2) (lN co)) (50 + 4 * p + 3) 0) 1) := if_neg (by omega)
    revert h
    generalize hR : pPro g len f a p w = R
    intro h
    rw [pd] at hR
    have i0 : nI 50 + nI 4 * ((S.2 142 1).toInt32) = nI (50 + 4 * p) := by rw [si, pk_mul, nI_add]
    have c0 : (nI 50 + nI 4 * ((S.2 142 1).toInt32)).toNatClampNeg = 50 + 4 * p := by rw [i0]; exact nI_clamp (by omega)
    have v0 : vp_in (nI 50 + nI 4 * ((S.2 142 1).toInt32)) 754 := by rw [i0]; exact vp_nI (by omega)
    have ij : ∀ j, nI 50 + nI 4 * ((S.2 142 1).toInt32) + nI j = nI (50 + 4 * p + j) := fun j => by rw [i0, nI_add]
    have cj : ∀ j, j < 4 → (nI 50 + nI 4 * ((S.2 142 1).toInt32) + nI j).toNatClampNeg = 50 + 4 * p + j := fun j hj => by rw [ij]; exact nI_clamp (by omega)
    have vj : ∀ j, j < 4 → vp_in (nI 50 + nI 4 * ((S.2 142 1).toInt32) + nI j) 754 := fun j hj => by rw [ij]; exact vp_nI (by omega)
    refine ⟨tM, ⟨Nat.le_of_ble_eq_true rfl, Nat.le_of_ble_eq_true rfl, Nat.le_of_ble_eq_true rfl⟩, e_number 1 100 S hg R _ (Or.inl ⟨a, sA, hR.symm⟩) (fun T v1 tT kT hT => ?_)⟩
    have mT : MT [4, 6, 7] S (T.1, u2 T.2 142 (nI 50 + nI 4 * ((S.2 142 1).toInt32)).toNatClampNeg v1.toInt64) := tT.mt.row _ (fun c hc => u2_other _ _ _ hc)
    have gT := tT.tg (by decide) hg
    refine ⟨754, tTold, v0, tM, ⟨Nat.le_of_ble_eq_true rfl, Nat.le_of_ble_eq_true rfl, Nat.le_of_ble_eq_true rfl⟩, e_number 0 9999 (T.1, u2 T.2 142 (nI 50 + nI 4 * ((S.2 142 1).toInt32)).toNatClampNeg v1.toInt64) gT R (fun a pr => pNum g len a 0 9999 fun a co => if mtc g (rend isBl g len a) 5 then .inr (rend isBl g len a + 2, w1 (u1L (u1L (u1L (u1L w (50 + 4 * p) (lN v1.toNatClampNeg)) (50 + 4 * p + 1) (lN pr)) (50 + 4 * p + 2) (lN co)) (50 + 4 * p + 3) 1) 1) else .inr (rend isBl g len a, w1 (u1L (u1L (u1L (u1L w (50 + 4 * p) (lN v1.toNatClampNeg)) (50 + 4 * p + 1) (lN pr)) (50 + 4 * p + 2) (lN co)) (50 + 4 * p + 3) 0) 1)) (hT.imp (fun ⟨a', x, y, _⟩ => ⟨a', x, y⟩) id) (fun U v2 tU kU hU => ?_)⟩
    have mU : MT [4, 6, 7] S (U.1, u2 U.2 142 (nI 50 + nI 4 * ((S.2 142 1).toInt32) + nI 1).toNatClampNeg v2.toInt64) := ((mT.trans tU.mt).w (by decide)).row _ (fun c hc => u2_other _ _ _ hc)
    have gU : tgM U g len := tU.tg (by decide) gT
    refine ⟨754, tTold, vj 1 (by decide), tM, ⟨Nat.le_of_ble_eq_true rfl, Nat.le_of_ble_eq_true rfl, Nat.le_of_ble_eq_true rfl⟩, e_number 0 9999 (U.1, u2 U.2 142 (nI 50 + nI 4 * ((S.2 142 1).toInt32) + nI 1).toNatClampNeg v2.toInt64) gU R (fun a co => if mtc g (rend isBl g len a) 5 then .inr (rend isBl g len a + 2, w1 (u1L (u1L (u1L (u1L w (50 + 4 * p) (lN v1.toNatClampNeg)) (50 + 4 * p + 1) (lN v2.toNatClampNeg)) (50 + 4 * p + 2) (lN co)) (50 + 4 * p + 3) 1) 1) else .inr (rend isBl g len a, w1 (u1L (u1L (u1L (u1L w (50 + 4 * p) (lN v1.toNatClampNeg)) (50 + 4 * p + 1) (lN v2.toNatClampNeg)) (50 + 4 * p + 2) (lN co)) (50 + 4 * p + 3) 0) 1)) (hU.imp (fun ⟨a', x, y, _⟩ => ⟨a', x, y⟩) id) (fun V v3 tV kV hV => ?_)⟩
    have mV : MT [4, 6, 7] S (V.1, u2 V.2 142 (nI 50 + nI 4 * ((S.2 142 1).toInt32) + nI 2).toNatClampNeg v3.toInt64) := ((mU.trans tV.mt).w (by decide)).row _ (fun c hc => u2_other _ _ _ hc)
    have gV : tgM V g len := tV.tg (by decide) gU
    have rV : ∀ i, i < 754 → u2 V.2 142 (nI 50 + nI 4 * ((S.2 142 1).toInt32) + nI 2).toNatClampNeg v3.toInt64 142 i = u1L (u1L (u1L w (50 + 4 * p) v1.toInt64) (50 + 4 * p + 1) v2.toInt64) (50 + 4 * p + 2) v3.toInt64 i := by
      intro i hi
      rw [cj 2 (by decide), u2_rowL, tV.1]
      refine u1L_c (fun i hi => ?_) rfl i hi
      show u2 U.2 142 (nI 50 + nI 4 * ((S.2 142 1).toInt32) + nI 1).toNatClampNeg v2.toInt64 142 i = _
      rw [cj 1 (by decide), u2_rowL, tU.1]
      refine u1L_c (fun i hi => ?_) rfl i hi
      show u2 T.2 142 (nI 50 + nI 4 * ((S.2 142 1).toInt32)).toNatClampNeg v1.toInt64 142 i = _
      rw [c0, u2_rowL, tT.1]
      exact u1L_c hw rfl i hi
    have inc : ∀ (Z : Mem) (b : Int64) (Y : Nat → Int64), MT [4, 6, 7] S Z → (∀ i, i < 754 → Z.2 142 i = Y i) → MT [4, 6, 7] S (Z.1, u2 (u2 Z.2 142 (nI 50 + nI 4 * ((S.2 142 1).toInt32) + nI 3).toNatClampNeg b) 142 1 (u2 Z.2 142 (nI 50 + nI 4 * ((S.2 142 1).toInt32) + nI 3).toNatClampNeg b 142 1 + 1)) ∧ TR (Z.1, u2 (u2 Z.2 142 (nI 50 + nI 4 * ((S.2 142 1).toInt32) + nI 3).toNatClampNeg b) 142 1 (u2 Z.2 142 (nI 50 + nI 4 * ((S.2 142 1).toInt32) + nI 3).toNatClampNeg b 142 1 + 1)) (w1 (u1L Y (50 + 4 * p + 3) b) 1) := by
      intro Z b Y mZ hY
      refine ⟨mZ.row _ (fun c hc => (u2_other _ _ _ hc).trans (u2_other _ _ _ hc)), fun i hi => ?_⟩
      show u2 (u2 Z.2 142 (nI 50 + nI 4 * ((S.2 142 1).toInt32) + nI 3).toNatClampNeg b) 142 1 (u2 Z.2 142 (nI 50 + nI 4 * ((S.2 142 1).toInt32) + nI 3).toNatClampNeg b 142 1 + 1) 142 i = _
      rw [u2_rowL, cj 3 (by decide), u2_rowL]
      refine u1L_c (u1L_c hY rfl) ?_ i hi
      rw [u1L_c hY rfl 1 (by decide)]
    rcases hV with ⟨a4, sV, hRV, n3, b3, -⟩ | hF
    · have e2 : v2 = nI v2.toNatClampNeg ∧ v2.toNatClampNeg ≤ 100000 := by
        rcases hU with ⟨_, _, _, x⟩ | y
        · exact ⟨x.1, x.2.1⟩
        · exact absurd sV.1 (kV y).no
      have e1 : v1 = nI v1.toNatClampNeg ∧ v1.toNatClampNeg ≤ 100000 := by
        rcases hT with ⟨_, _, _, x⟩ | y
        · exact ⟨x.1, x.2.1⟩
        · exact absurd sV.1 (kV (kU y)).no
      have gd : ∀ i, i < 754 → u2 V.2 142 (nI 50 + nI 4 * ((S.2 142 1).toInt32) + nI 2).toNatClampNeg v3.toInt64 142 i = u1L (u1L (u1L w (50 + 4 * p) (lN v1.toNatClampNeg)) (50 + 4 * p + 1) (lN v2.toNatClampNeg)) (50 + 4 * p + 2) (lN v3.toNatClampNeg) i := by
        intro i hi
        rw [rV i hi, ← nI_l (n := v1.toNatClampNeg) (by omega), ← nI_l (n := v2.toNatClampNeg) (by omega), ← nI_l (n := v3.toNatClampNeg) (by omega), ← e1.1, ← e2.1, ← n3]
      have sV2 : ST (V.1, u2 V.2 142 (nI 50 + nI 4 * ((S.2 142 1).toInt32) + nI 2).toNatClampNeg v3.toInt64) len a4 := sV
      refine ⟨754, tTold, vj 2 (by decide), tM, ⟨Nat.le_of_ble_eq_true rfl, Nat.le_of_ble_eq_true rfl, Nat.le_of_ble_eq_true rfl⟩, e_takesWord (i := 13) (by decide) (V.1, u2 V.2 142 (nI 50 + nI 4 * ((S.2 142 1).toInt32) + nI 2).toNatClampNeg v3.toInt64) gV (fun x => absurd sV.1 x) (fun b sB => ?_) (Or.inr ⟨a4, sV2⟩)⟩
      obtain rfl := ST.u l4 sV2 sB
      refine ⟨fun m Y tY sY => ?_, fun m Y tY sY => ?_⟩
      · have m : mtc g (rend isBl g len b) 5 := m
        rw [if_pos m] at hRV
        obtain ⟨i1, i2⟩ := inc Y 1 (u1L (u1L (u1L w (50 + 4 * p) (lN v1.toNatClampNeg)) (50 + 4 * p + 1) (lN v2.toNatClampNeg)) (50 + 4 * p + 2) (lN v3.toNatClampNeg)) ((mV.trans tY.mt).w (by decide)) (fun i hi => (congrFun (congrFun tY.1 142) i).trans (gd i hi))
        exact And.intro (fun x => absurd x (by decide)) (fun _ => ⟨754, tTold, vj 3 (by decide), tM, 754, tTold, vp_nI (n := 1) (by decide), 754, tTold, vp_nI (n := 1) (by decide), rfl, h _ i1 (Or.inl ⟨_, _, sY, hRV, i2⟩)⟩)
      · have m : ¬ mtc g (rend isBl g len b) 5 := m
        rw [if_neg m] at hRV
        obtain ⟨i1, i2⟩ := inc Y 0 (u1L (u1L (u1L w (50 + 4 * p) (lN v1.toNatClampNeg)) (50 + 4 * p + 1) (lN v2.toNatClampNeg)) (50 + 4 * p + 2) (lN v3.toNatClampNeg)) ((mV.trans tY.mt).w (by decide)) (fun i hi => (congrFun (congrFun tY.1 142) i).trans (gd i hi))
        exact And.intro (fun _ => ⟨754, tTold, vj 3 (by decide), tM, 754, tTold, vp_nI (n := 1) (by decide), 754, tTold, vp_nI (n := 1) (by decide), rfl, h _ i1 (Or.inl ⟨_, _, sY, hRV, i2⟩)⟩) (fun x => absurd rfl x)
    · obtain ⟨i1, i2⟩ := inc (V.1, u2 V.2 142 (nI 50 + nI 4 * ((S.2 142 1).toInt32) + nI 2).toNatClampNeg v3.toInt64) 0 _ mV rV
      refine ⟨754, tTold, vj 2 (by decide), tM, ⟨Nat.le_of_ble_eq_true rfl, Nat.le_of_ble_eq_true rfl, Nat.le_of_ble_eq_true rfl⟩, e_takesWord (i := 13) (by decide) (V.1, u2 V.2 142 (nI 50 + nI 4 * ((S.2 142 1).toInt32) + nI 2).toNatClampNeg v3.toInt64) gV (fun _ => And.intro (fun _ => ⟨754, tTold, vj 3 (by decide), tM, 754, tTold, vp_nI (n := 1) (by decide), 754, tTold, vp_nI (n := 1) (by decide), rfl, h _ i1 (Or.inr hF)⟩) (fun x => absurd rfl x)) (fun b sB => absurd sB.1 hF.no) (Or.inl hF.no)⟩
  · have x : ((S.2 142 1).toInt32) = nI 4 := x
    rw [si] at x
    have hd : p = 4 := (nI_eq (by omega) (by decide)).mp x
    refine ⟨⟨Nat.le_of_ble_eq_true rfl, Nat.le_of_ble_eq_true rfl, Nat.le_of_ble_eq_true rfl⟩, e_wrong 3 _ S sA.1 (fun T tT e6 e7 => ⟨rfl, h T (tT.mt.w (by decide)) (Or.inr ⟨3, f, if_pos hd, by decide, e6, e7⟩)⟩)⟩
