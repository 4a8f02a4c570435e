/-! ===== the model: stores ===== -/
def sK (r : Nat → Int64) (p : Nat) : Nat := if r 2 = 1 ∧ cnt r (418 + 83 * p) = 1 then 0 else cnt r (418 + 83 * p)
def fulW (r : Nat → Int64) (p : Nat) : Prop := ¬ r (406 + 3 * p) = 0 ∧ sK r p = 40
def stS (b r : Nat → Int64) (p : Nat) : Nat → Int64 := if r (406 + 3 * p) = 0 then b else u1L (u1L (u1L b (419 + 83 * p + 2 * sK r p) (r (419 + 83 * p + 2 * sK r p) + r (406 + 3 * p))) ((419 + 83 * p + 2 * sK r p) + 1) (r ((419 + 83 * p + 2 * sK r p) + 1) + r (406 + 3 * p + 2))) (418 + 83 * p) (lN (sK r p + 1))
def stR (r : Nat → Int64) : Nat → Nat → Int64
  | 0 => r
  | p + 1 => stS (stR r p) r p
theorem sK_le {r : Nat → Int64} {p k : Nat} (hk : k ≤ 40) (h : r (418 + 83 * p) = lN k) : cnt r (418 + 83 * p) = k ∧ sK r p ≤ 40 := by
  have e : cnt r (418 + 83 * p) = k := by unfold cnt; rw [h]; exact lN_clamp (by omega)
  refine ⟨e, ?_⟩
  unfold sK
  split
  · omega
  · omega
theorem stR_o {r : Nat → Int64} : ∀ {p : Nat}, (∀ q, q < p → sK r q ≤ 40) → ∀ {i : Nat}, i < 418 ∨ 418 + 83 * p ≤ i → stR r p i = r i
  | 0, _, _, _ => rfl
  | p + 1, hs, i, hi => by
    have s := hs p (Nat.lt_succ_self p)
    show stS (stR r p) r p i = r i
    unfold stS
    split
    · exact stR_o (fun q hq => hs q (by omega)) (by omega)
    · rw [u1L_o _ _ (by omega), u1L_o _ _ (by omega), u1L_o _ _ (by omega)]
      exact stR_o (fun q hq => hs q (by omega)) (by omega)
set_option maxHeartbeats 4000000 in
theorem e_stores {m : Nat} (hm : m ≤ 4) (r : Nat → Int64) (S : Mem) (hW : S.2 143 = r) (r1 : r 1 = lN m) (hK : ∀ p, p < m → ∃ k, k ≤ 40 ∧ r (418 + 83 * p) = lN k) {Qr : QR} {Qx : QX} (h0 : (∃ p, p < m ∧ fulW r p) → ∀ X, (∀ k, k ≠ 143 → X k = S.2 k) → Qr (some (.int 0)) (S.1, X))
    (h : (∀ p, p < m → ¬ fulW r p) → ∀ X, X 143 = stR r m → (∀ k, k ≠ 143 → X k = S.2 k) → Qr (some (.int 1)) (S.1, X)) : sX10_stores 156 [.ref 143] S Qr Qx := by
  have v0 : ∀ x, x < 754 → vp_in (nI x) 754 := fun x hx => vp_nI hx
  have hs : ∀ q, q < m → sK r q ≤ 40 := fun q hq => by obtain ⟨k, k1, k2⟩ := hK q hq; exact (sK_le k1 k2).2
  have nq : ∀ i, nI 406 + nI 3 * nI i = nI (406 + 3 * i) := fun i => by rw [pk_mul, nI_add]
  have nq' : ∀ i x, nI 406 + nI 3 * nI i + nI x = nI (406 + 3 * i + x) := fun i x => by rw [nq, nI_add]
  refine runM (ι := Nat × LL × Mem × Nat) rfl 120 0 [2, 69] (fun a => a.1) (fun a => a.2.1) (fun a => a.2.2.1) (fun a => a.2.2.2)
    (fun a => ∃ (p : Nat) (X : Nat → Nat → Int64), p ≤ m ∧ (∀ c, c ≠ 143 → X c = S.2 c) ∧ X 143 = stR r p ∧ (∀ q, q < p → ¬ fulW r q) ∧ (a = (2, [(1, .int (nI p)), (0, .ref 143)], (S.1, X), 10 * (m - p)) ∨ (∃ u c, p < m ∧ r (406 + 3 * p) = u ∧ ¬ u = 0 ∧ r (406 + 3 * p + 2) = c ∧ a = (69, [(6, .long (lN (sK r p))), (2, .long u), (4, .long c), (1, .int (nI p)), (0, .ref 143)], (S.1, X), 10 * (m - p) - 5)))) ?_ ?_
  · rintro a ⟨p, X, hp, hc, hX, hnf, (rfl | ⟨u, c, hpm, eu, nu, ec, rfl⟩)⟩
    · have x1 : X 143 (nI 1).toNatClampNeg = lN m := by rw [rd1 hX (by decide), stR_o (fun q hq => hs q (by omega)) (by omega)]; exact r1
      refine ⟨754, tTri, v0 1 (by decide), And.intro (fun q => ?_) (fun q => ?_)⟩
      · have q := (lg_cmp_ge _ _).mp q
        have e : m = p := (le_lN x1 rfl hp (by omega) q).symm
        subst e
        exact ⟨Or.inr rfl, h hnf X hX hc⟩
      · have hpm := lt_lN x1 rfl hp (by omega) (fun z => q ((lg_cmp_ge _ _).mpr z))
        obtain ⟨u, eu⟩ : ∃ v, r (406 + 3 * p) = v := ⟨_, rfl⟩
        obtain ⟨c, ec⟩ : ∃ v, r (406 + 3 * p + 2) = v := ⟨_, rfl⟩
        obtain ⟨k, k1, k2⟩ := hK p hpm
        obtain ⟨kc, -⟩ := sK_le k1 k2
        have o : ∀ i, i < 418 ∨ 418 + 83 * p ≤ i → stR r p i = r i := fun i hi => stR_o (fun q hq => hs q (by omega)) hi
        have xu : X 143 (nI 406 + nI 3 * nI p).toNatClampNeg = u := by rw [rd2 hX (nq p) (by omega), o _ (by omega)]; exact eu
        have xc : X 143 (nI 406 + nI 3 * nI p + nI 2).toNatClampNeg = c := by rw [rd2 hX (nq' p 2) (by omega), o _ (by omega)]; exact ec
        have xk : X 143 (nI (418 + 83 * p)).toNatClampNeg = lN k := by rw [rd1 hX (by omega), o _ (by omega)]; exact k2
        have x2 : X 143 (nI 2).toNatClampNeg = r 2 := by rw [rd1 hX (by decide), o _ (by omega)]
        refine ⟨754, tTri, vp2 (nq p) (by omega), 754, tTri, vp2 (nq' p 2) (by omega), And.intro (fun q => ⟨⟨Nat.le_of_ble_eq_true rfl, Nat.le_of_ble_eq_true rfl, Nat.le_of_ble_eq_true rfl⟩, e_storeAt p _ ⟨754, tTri, v0 _ (by omega), 754, tTri, v0 2 (by decide), And.intro (fun q2 => ?_) (fun q2 => And.intro (fun q3 => ?_) (fun q3 => ?_))⟩⟩) (fun q => ?_)⟩
        · have q : ¬ u = 0 := fun z => q ((lg_cmp_eq _ _).mpr (xu.trans z))
          have q2 : ¬ r 2 = 1 := fun z => q2 ((lg_cmp_eq _ _).mpr (x2.trans z))
          have ek : sK r p = k := by unfold sK; rw [if_neg (fun z => q2 z.1), kc]
          exact ⟨rfl, rfl, (69, [(6, .long (lN (sK r p))), (2, .long u), (4, .long c), (1, .int (nI p)), (0, .ref 143)], (S.1, X), 10 * (m - p) - 5), rfl, ⟨⟨p, X, hp, hc, hX, hnf, Or.inr ⟨u, c, hpm, eu, q, ec, rfl⟩⟩, show 10 * (m - p) - 5 < 10 * (m - p) by omega⟩, rfl, congrArg (fun z => some (Value.long z)) (xk.trans (by rw [ek])), congrArg (fun z => some (Value.long z)) xu, congrArg (fun z => some (Value.long z)) xc, rfl, rfl, trivial⟩
        · have q : ¬ u = 0 := fun z => q ((lg_cmp_eq _ _).mpr (xu.trans z))
          have q3 : ¬ lN k = 1 := fun z => q3 ((lg_cmp_eq _ _).mpr (xk.trans z))
          have ek : sK r p = k := by unfold sK; rw [if_neg (fun z => q3 (by rw [← kc, z.2]; rfl)), kc]
          exact ⟨rfl, rfl, (69, [(6, .long (lN (sK r p))), (2, .long u), (4, .long c), (1, .int (nI p)), (0, .ref 143)], (S.1, X), 10 * (m - p) - 5), rfl, ⟨⟨p, X, hp, hc, hX, hnf, Or.inr ⟨u, c, hpm, eu, q, ec, rfl⟩⟩, show 10 * (m - p) - 5 < 10 * (m - p) by omega⟩, rfl, congrArg (fun z => some (Value.long z)) (xk.trans (by rw [ek])), congrArg (fun z => some (Value.long z)) xu, congrArg (fun z => some (Value.long z)) xc, rfl, rfl, trivial⟩
        · have q : ¬ u = 0 := fun z => q ((lg_cmp_eq _ _).mpr (xu.trans z))
          have q2 : r 2 = 1 := x2.symm.trans ((lg_cmp_eq _ _).mp q2)
          have q3 : lN k = 1 := xk.symm.trans ((lg_cmp_eq _ _).mp q3)
          have q3 : k = 1 := (lN_eq (by omega) (show 1 < 2 ^ 31 by decide)).mp q3
          have ek : sK r p = 0 := by unfold sK; rw [if_pos ⟨q2, by rw [kc, q3]⟩]
          exact ⟨rfl, rfl, (69, [(6, .long (lN (sK r p))), (2, .long u), (4, .long c), (1, .int (nI p)), (0, .ref 143)], (S.1, X), 10 * (m - p) - 5), rfl, ⟨⟨p, X, hp, hc, hX, hnf, Or.inr ⟨u, c, hpm, eu, q, ec, rfl⟩⟩, show 10 * (m - p) - 5 < 10 * (m - p) by omega⟩, rfl, congrArg (fun z => some (Value.long z)) (by rw [ek]; rfl), congrArg (fun z => some (Value.long z)) xu, congrArg (fun z => some (Value.long z)) xc, rfl, rfl, trivial⟩
        · have qz : u = 0 := xu.symm.trans ((lg_cmp_eq _ _).mp q)
          refine ⟨rfl, rfl, (2, [(1, .int (nI (p + 1))), (0, .ref 143)], (S.1, X), 10 * (m - (p + 1))), rfl, ⟨⟨p + 1, X, hpm, hc, ?_, fun i hi => ?_, Or.inl rfl⟩, show 10 * (m - (p + 1)) < 10 * (m - p) by omega⟩, rfl, congrArg (fun z => some (Value.int z)) (nI_1 p), rfl, trivial⟩
          · rw [hX]; exact (if_pos (eu.trans qz)).symm
          · by_cases z : i = p
            · subst z; exact fun f => f.1 (eu.trans qz)
            · exact hnf i (by omega)
    · have s4 := hs p hpm
      refine And.intro (fun q => ?_) (fun q => ⟨Or.inl rfl, h0 ⟨p, hpm, fun z => nu (eu.symm.trans z), ?_⟩ X hc⟩)
      · have q : ¬ sK r p = 40 := fun z => q ((lg_cmp_eq _ _).mpr (by rw [z]; rfl))
        obtain ⟨L, eL⟩ : ∃ L, (419 + 83 * p + 2 * sK r p) = L := ⟨_, rfl⟩
        have hL : 418 + 83 * p < L ∧ L + 1 < 501 + 83 * p := by omega
        have o : ∀ i, i < 418 ∨ 418 + 83 * p ≤ i → stR r p i = r i := fun i hi => stR_o (fun q hq => hs q (by omega)) hi
        have nL : nI L + nI 1 = nI (L + 1) := nI_add _ _
        have y1 : X 143 (nI L).toNatClampNeg + u = r L + r (406 + 3 * p) := by rw [rd1 hX (by omega), o _ (by omega), eu]
        obtain ⟨b1, b2⟩ := st1 hX (i := L) (by omega) (X 143 (nI L).toNatClampNeg + u)
        have y2 : u2 X 143 (nI L).toNatClampNeg (X 143 (nI L).toNatClampNeg + u) 143 (nI L + nI 1).toNatClampNeg + c = r (L + 1) + r (406 + 3 * p + 2) := by rw [rd2 b1 nL (by omega), u1L_o _ _ (by omega), o _ (by omega), ec]
        obtain ⟨d1, d2⟩ := st2 b1 nL (by omega) (u2 X 143 (nI L).toNatClampNeg (X 143 (nI L).toNatClampNeg + u) 143 (nI L + nI 1).toNatClampNeg + c)
        obtain ⟨f1, f2⟩ := st1 d1 (i := 418 + 83 * p) (by omega) (lN (sK r p) + 1)
        have eX : stR r (p + 1) = u1L (u1L (u1L (stR r p) L (r L + r (406 + 3 * p))) (L + 1) (r (L + 1) + r (406 + 3 * p + 2))) (418 + 83 * p) (lN (sK r p + 1)) := by
          rw [← eL]; exact if_neg (fun z => nu (eu.symm.trans z))
        have f1 := f1.trans (show _ = stR r (p + 1) by rw [y2, y1, lN_1]; exact eX.symm)
        refine ⟨⟨Nat.le_of_ble_eq_true rfl, Nat.le_of_ble_eq_true rfl, Nat.le_of_ble_eq_true rfl⟩, e_layerAt p (sK r p) _ ?_⟩
        rw [eL]
        refine ⟨754, tTri, v0 _ (by omega), 754, tTri, v0 _ (by omega), ⟨Nat.le_of_ble_eq_true rfl, Nat.le_of_ble_eq_true rfl, Nat.le_of_ble_eq_true rfl⟩, e_layerAt p (sK r p) _ ?_⟩
        rw [eL]
        refine ⟨754, tTri, vp2 nL (by omega), 754, tTri, vp2 nL (by omega), ⟨Nat.le_of_ble_eq_true rfl, Nat.le_of_ble_eq_true rfl, Nat.le_of_ble_eq_true rfl⟩, e_storeAt p _ ⟨754, tTri, v0 _ (by omega), rfl, rfl, (2, [(1, .int (nI (p + 1))), (0, .ref 143)], (S.1, _), 10 * (m - (p + 1))), rfl, ⟨⟨p + 1, _, hpm, fun x hx => (f2 x hx).trans ((d2 x hx).trans ((b2 x hx).trans (hc x hx))), ?_, fun i hi => ?_, Or.inl rfl⟩, show 10 * (m - (p + 1)) < 10 * (m - p) - 5 by omega⟩, rfl, congrArg (fun z => some (Value.int z)) (nI_1 p), rfl, trivial⟩⟩
        · exact f1
        · by_cases z : i = p
          · subst z; exact fun f => q f.2
          · exact hnf i (by omega)
      · have q := (lg_cmp_eq _ _).mp q
        exact (lN_eq (by omega) (show 40 < 2 ^ 31 by decide)).mp q
  · exact ⟨rfl, rfl, (2, [(1, .int (nI 0)), (0, .ref 143)], (S.1, S.2), 10 * (m - 0)), rfl, ⟨0, S.2, Nat.zero_le _, fun _ _ => rfl, hW, fun q hq => absurd hq (Nat.not_lt_zero q), Or.inl rfl⟩, rfl, rfl, rfl, trivial⟩
