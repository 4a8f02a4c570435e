/-! ===== readDepartment ===== -/
/-- the ints of a department as it is read -/
def dpF (F : Nat → Int32) (wy : Int32) (pt rt sc : Nat) : Nat → Int32 := u1 (u1 (u1 (u1 F 0 wy) 1 (nI pt)) 2 (nI rt)) 3 (nI sc)
def pDk (g : Nat → Int32) (len a d : Nat) (K : Nat → Int64 → Nat → Nat → Nat → RR) : RR := pWay g len a fun a wy => pNum g len a 0 100 fun a pt => pNum g len a 0 50 fun a rt => pNum g len a 0 999 fun a sc => K a wy pt rt sc
set_option maxHeartbeats 4000000 in
theorem e_readDepartment {g : Nat → Int32} {len f a d : Nat} (hd : d ≤ 5) (S : Mem) (hg : tg S g len) (ha : S.1 121 3 = nI a) (hal : a ≤ len) (hf : S.1 121 4 = nI f) (hn : S.1 1 2 = nI d) (w : Nat → Int64) {Qr : QR} {Qx : QX}
    (h1 : d < 5 → ∀ a' wy pt rt sc S', a' ≤ len → S'.1 121 3 = nI a' → DS (4 + 17 * d) S S' → S'.1 1 = u1 (S.1 1) 2 (nI (d + 1)) → (wy = 0 ∨ wy = 1) → pt ≤ 100000 → rt ≤ 100000 → sc ≤ 100000 →
      (pDep g len f a d w = .inr (a', w1 (wDep w d wy.toInt64 pt rt sc (-1) (-1)) 0) ∧ S'.1 (4 + 17 * d) = dpF (S.1 (4 + 17 * d)) wy pt rt sc) ∨ (∃ bt bs, pDep g len f a d w = .inr (a', w1 (wDep w d wy.toInt64 pt rt sc (lN bt) (lN bs)) 0) ∧ S'.1 (4 + 17 * d) = u1 (u1 (dpF (S.1 (4 + 17 * d)) wy pt rt sc) 6 (nI bt)) 7 (nI bs) ∧ bt ≤ 100000 ∧ bs ≤ 100000) → Qr (some (.int 1)) S')
    (h0 : ∀ S', DX (4 + 17 * d) S S' → fltR S' (pDep g len f a d w) → Qr (some (.int 0)) S')
    (hl : ∀ a' w' S', DX (4 + 17 * d) S S' → pDep g len f a d w = .inr (a', w') → isLe (g a') = true → S'.1 121 7 = 1 → S'.1 121 8 = nI a' → Qr (some (.int 0)) S') : vsp 156 8 (sX8_readDepartment 156) [.ref 121, .ref 1] S Qr Qx := by
  have t1 : tyN 156 1 = (0, 1, 0, 0) := rfl
  have t2 : tyN 156 2 = (4, 5, 4, 17) := rfl
  refine ⟨t8, runG rfl 120 ⟨t1, And.intro (fun x => ?_) (fun x => ?_)⟩⟩
  · have x : S.1 1 2 < nI 5 := x
    rw [hn] at x
    have hd5 : d < 5 := (nI_ltI (by omega) (by decide)).mp x
    have hcl : (S.1 1 2).toNatClampNeg = d := by rw [hn]; exact nI_clamp (by omega)
    have v5 : vp_in (S.1 1 2) 5 := by rw [hn]; exact vp_nI hd5
    have hk0 : isDepN 156 (4 + 17 * d) := depN (by decide) hd5
    have hk' : (4 + 17 * (S.1 1 2).toNatClampNeg) = 4 + 17 * d := by rw [hcl]
    have hk : tyN 156 (4 + 17 * (S.1 1 2).toNatClampNeg) = (0, 0, 0, 0) := by rw [hk']; exact hk0.1
    have pd : pDep g len f a d w = pDk g len a d fun a wy pt rt sc => if mtc g (rend isBl g len a) 4 then pBk g len a d fun a bt bs => .inr (a, w1 (wDep w d wy pt rt sc (lN bt) (lN bs)) 0) else .inr (rend isBl g len a, w1 (wDep w d wy pt rt sc (-1) (-1)) 0) := if_neg (by omega)
    have k1 : (4 + 17 * (S.1 1 2).toNatClampNeg) ≠ 1 := by omega
    have k2 : (4 + 17 * (S.1 1 2).toNatClampNeg) ≠ 121 := by omega
    have k3 : (4 + 17 * (S.1 1 2).toNatClampNeg) ≠ 122 := by omega
    have u121 : ∀ (T : Mem) (i j : Nat) (v : Int32), (u2 T.1 (4 + 17 * (S.1 1 2).toNatClampNeg) j v, T.2).1 121 i = T.1 121 i := fun T i j v => u2_k T.1 j i v (fun e => k2 e.symm)
    have uk1 : ∀ (T : Mem) (j : Nat) (v : Int32), (u2 T.1 (4 + 17 * (S.1 1 2).toNatClampNeg) j v, T.2).1 1 = T.1 1 := fun T j v => u2_other T.1 j v (fun e => k1 e.symm)
    have ukk : ∀ (T : Mem) (j : Nat) (v : Int32), (u2 T.1 (4 + 17 * (S.1 1 2).toNatClampNeg) j v, T.2).1 (4 + 17 * (S.1 1 2).toNatClampNeg) = u1 (T.1 (4 + 17 * (S.1 1 2).toNatClampNeg)) j v := fun T j v => u2_row T.1 (4 + 17 * (S.1 1 2).toNatClampNeg) j v
    have dA : DS (4 + 17 * (S.1 1 2).toNatClampNeg) S (u2 S.1 1 2 (S.1 1 2 + 1), S.2) := DS.re.hd 2 _
    have eA1 : (u2 S.1 1 2 (S.1 1 2 + 1), S.2).1 1 = u1 (S.1 1) 2 (nI (d + 1)) := (u2_row S.1 1 2 _).trans (by rw [hn, nI_1])
    have eAk : (u2 S.1 1 2 (S.1 1 2 + 1), S.2).1 (4 + 17 * (S.1 1 2).toNatClampNeg) = S.1 (4 + 17 * (S.1 1 2).toNatClampNeg) := u2_other S.1 2 _ k1
    have h0' : ∀ T, DX (4 + 17 * (S.1 1 2).toNatClampNeg) S T → fltR T (pDep g len f a d w) → Qr (some (.int 0)) T := fun T x y => h0 T (by rw [← hk']; exact x) y
    refine ⟨t1, t1, 0, 5, 4, 17, t2, by decide, v5, t1, t1, ⟨Nat.le_of_ble_eq_true rfl, Nat.le_of_ble_eq_true rfl, Nat.le_of_ble_eq_true rfl⟩, e_readWay (u2 S.1 1 2 (S.1 1 2 + 1), S.2) (dA.tg k3 hg) ((u2_k S.1 2 3 (S.1 1 2 + 1) (show 121 ≠ 1 by decide)).trans ha) hal (fun wy a1 hw l1 T tT T3 T5 => ?_) (fun m6 m7 T tT e7 e8 => ?_)⟩
    · have dT := dA.ts tT (by decide)
      have wy01 : wy = 0 ∨ wy = 1 := by rcases hw with ⟨-, e, -⟩ | ⟨-, -, e, -⟩ <;> simp [e]
      have pw : ∀ K, pWay g len a K = K a1 wy.toInt64 := by
        intro K
        unfold pWay
        rcases hw with ⟨m, e, e'⟩ | ⟨m, m', e, e'⟩
        · rw [if_pos m, e, e']; rfl
        · rw [if_neg m, if_pos m', e, e']; rfl
      have dB := dT.put k2 0 (T.1 121 5)
      have eB1 : (u2 T.1 (4 + 17 * (S.1 1 2).toNatClampNeg) 0 (T.1 121 5), T.2).1 1 = u1 (S.1 1) 2 (nI (d + 1)) := (uk1 T 0 _).trans ((tT.2.1 1 (by decide)).trans eA1)
      have eBk : (u2 T.1 (4 + 17 * (S.1 1 2).toNatClampNeg) 0 (T.1 121 5), T.2).1 (4 + 17 * (S.1 1 2).toNatClampNeg) = u1 (S.1 (4 + 17 * (S.1 1 2).toNatClampNeg)) 0 wy := (ukk T 0 _).trans (by rw [T5, tT.2.1 (4 + 17 * (S.1 1 2).toNatClampNeg) k2, eAk])
      refine And.intro (fun _ => ⟨t8, hk, ⟨Nat.le_of_ble_eq_true rfl, Nat.le_of_ble_eq_true rfl, Nat.le_of_ble_eq_true rfl⟩, e_readNumber 0 100 (u2 T.1 (4 + 17 * (S.1 1 2).toNatClampNeg) 0 (T.1 121 5), T.2) (dB.tg k3 hg) ((u121 T 3 0 _).trans T3) l1 (fun ok1 U tU U3 U5 => ?_) (fun U tU uf => ?_)⟩) (fun x => absurd x (by decide))
      · have dU := dB.ts tU (by decide)
        have dC := dU.put k2 1 (U.1 121 5)
        have l2 := nu_len (g := g) l1
        have eC1 : (u2 U.1 (4 + 17 * (S.1 1 2).toNatClampNeg) 1 (U.1 121 5), U.2).1 1 = u1 (S.1 1) 2 (nI (d + 1)) := (uk1 U 1 _).trans ((tU.2.1 1 (by decide)).trans eB1)
        have eCk : (u2 U.1 (4 + 17 * (S.1 1 2).toNatClampNeg) 1 (U.1 121 5), U.2).1 (4 + 17 * (S.1 1 2).toNatClampNeg) = u1 (u1 (S.1 (4 + 17 * (S.1 1 2).toNatClampNeg)) 0 wy) 1 (nI (nuV g len a1)) := (ukk U 1 _).trans (by rw [U5, tU.2.1 (4 + 17 * (S.1 1 2).toNatClampNeg) k2, eBk])
        refine And.intro (fun _ => ⟨t8, hk, ⟨Nat.le_of_ble_eq_true rfl, Nat.le_of_ble_eq_true rfl, Nat.le_of_ble_eq_true rfl⟩, e_readNumber 0 50 (u2 U.1 (4 + 17 * (S.1 1 2).toNatClampNeg) 1 (U.1 121 5), U.2) (dC.tg k3 hg) ((u121 U 3 1 _).trans U3) l2 (fun ok2 V tV V3 V5 => ?_) (fun V tV vf => ?_)⟩) (fun x => absurd x (by decide))
        · have dV := dC.ts tV (by decide)
          have dD := dV.put k2 2 (V.1 121 5)
          have l3 := nu_len (g := g) l2
          have eD1 : (u2 V.1 (4 + 17 * (S.1 1 2).toNatClampNeg) 2 (V.1 121 5), V.2).1 1 = u1 (S.1 1) 2 (nI (d + 1)) := (uk1 V 2 _).trans ((tV.2.1 1 (by decide)).trans eC1)
          have eDk : (u2 V.1 (4 + 17 * (S.1 1 2).toNatClampNeg) 2 (V.1 121 5), V.2).1 (4 + 17 * (S.1 1 2).toNatClampNeg) = u1 (u1 (u1 (S.1 (4 + 17 * (S.1 1 2).toNatClampNeg)) 0 wy) 1 (nI (nuV g len a1))) 2 (nI (nuV g len (nuE g len a1))) := (ukk V 2 _).trans (by rw [V5, tV.2.1 (4 + 17 * (S.1 1 2).toNatClampNeg) k2, eCk])
          refine And.intro (fun _ => ⟨t8, hk, ⟨Nat.le_of_ble_eq_true rfl, Nat.le_of_ble_eq_true rfl, Nat.le_of_ble_eq_true rfl⟩, e_readNumber 0 999 (u2 V.1 (4 + 17 * (S.1 1 2).toNatClampNeg) 2 (V.1 121 5), V.2) (dD.tg k3 hg) ((u121 V 3 2 _).trans V3) l3 (fun ok3 W tW W3 W5 => ?_) (fun W tW wf => ?_)⟩) (fun x => absurd x (by decide))
          · have dW := dD.ts tW (by decide)
            have dE := dW.put k2 3 (W.1 121 5)
            have l4 := nu_len (g := g) l3
            have eE1 : (u2 W.1 (4 + 17 * (S.1 1 2).toNatClampNeg) 3 (W.1 121 5), W.2).1 1 = u1 (S.1 1) 2 (nI (d + 1)) := (uk1 W 3 _).trans ((tW.2.1 1 (by decide)).trans eD1)
            have eEk : (u2 W.1 (4 + 17 * (S.1 1 2).toNatClampNeg) 3 (W.1 121 5), W.2).1 (4 + 17 * (S.1 1 2).toNatClampNeg) = dpF (S.1 (4 + 17 * (S.1 1 2).toNatClampNeg)) wy (nuV g len a1) (nuV g len (nuE g len a1)) (nuV g len (nuE g len (nuE g len a1))) := (ukk W 3 _).trans (by rw [W5, tW.2.1 (4 + 17 * (S.1 1 2).toNatClampNeg) k2, eDk]; rfl)
            have pk : ∀ K, pDk g len a d K = K (nuE g len (nuE g len (nuE g len a1))) wy.toInt64 (nuV g len a1) (nuV g len (nuE g len a1)) (nuV g len (nuE g len (nuE g len a1))) := by
              intro K
              unfold pDk
              rw [pw, pNum_ok ok1, pNum_ok ok2, pNum_ok ok3]
            have rl4 := rend_le (P := isBl) (g := g) l4
            refine And.intro (fun _ => ⟨t8, hk, ⟨Nat.le_of_ble_eq_true rfl, Nat.le_of_ble_eq_true rfl, Nat.le_of_ble_eq_true rfl⟩, e_atLetter (u2 W.1 (4 + 17 * (S.1 1 2).toNatClampNeg) 3 (W.1 121 5), W.2) (dE.tg k3 hg) ((u121 W 3 3 _).trans W3) l4 (fun Y tY Y3 => ?_)⟩) (fun x => absurd x (by decide))
            have dY := dE.ts tY (by decide)
            have eY1 : Y.1 1 = u1 (S.1 1) 2 (nI (d + 1)) := (tY.2.1 1 (by decide)).trans eE1
            have eYk := (tY.2.1 (4 + 17 * (S.1 1 2).toNatClampNeg) k2).trans eEk
            have gY := dY.tg k3 hg
            cases hL : isLe (g (rend isBl g len (nuE g len (nuE g len (nuE g len a1))))) with
            | false =>
              have nm : ¬ mtc g (rend isBl g len (nuE g len (nuE g len (nuE g len a1)))) 4 := fun m => by
                have := strB_le 4 (by decide) 0 (by decide)
                rw [← m.1 0 (by decide), Nat.add_zero, hL] at this
                exact absurd this (by decide)
              refine And.intro (fun _ => ⟨Or.inr rfl, h1 hd5 (rend isBl g len (nuE g len (nuE g len (nuE g len a1)))) wy (nuV g len a1) (nuV g len (nuE g len a1)) (nuV g len (nuE g len (nuE g len a1))) Y rl4.2 Y3 (by rw [← hk']; exact dY) eY1 wy01 (dgo_le _ _ _ (by decide)) (dgo_le _ _ _ (by decide)) (dgo_le _ _ _ (by decide)) (Or.inl ⟨?_, by rw [← hk']; exact eYk⟩)⟩) (fun x => absurd rfl x)
              rw [pd, pk, if_neg nm]
            | true =>
              refine And.intro (fun x => absurd x (by decide)) (fun _ => ⟨⟨Nat.le_of_ble_eq_true rfl, Nat.le_of_ble_eq_true rfl, Nat.le_of_ble_eq_true rfl⟩, ?_⟩)
              show vsp 156 8 (sX8_readBack 156) [.ref 121, .ref (4 + 17 * (S.1 1 2).toNatClampNeg), .int (S.1 1 2)] Y _ _
              rw [hn]
              have kd : 4 + 17 * (nI d).toNatClampNeg = 4 + 17 * d := by rw [nI_clamp (by omega)]
              rw [hn] at hk k1 k2 k3 hk' dY eYk
              have idm : rend isBl g len (rend isBl g len (nuE g len (nuE g len (nuE g len a1)))) = rend isBl g len (nuE g len (nuE g len (nuE g len a1))) := rend_no (fun _ => by
                have : ¬ g (rend isBl g len (nuE g len (nuE g len (nuE g len a1)))) = 32 := fun e => by rw [e] at hL; exact absurd hL (by decide)
                exact decide_eq_false this)
              have pbk : ∀ K, pBk g len (rend isBl g len (nuE g len (nuE g len (nuE g len a1)))) d K = pBk g len (nuE g len (nuE g len (nuE g len a1))) d K := fun K => by unfold pBk; rw [idm]
              refine e_readBack hk k1 k2 k3 Y gY Y3 rl4.2 (fun a bt bs => .inr (a, w1 (wDep w d wy.toInt64 (nuV g len a1) (nuV g len (nuE g len a1)) (nuV g len (nuE g len (nuE g len a1))) (lN bt) (lN bs)) 0)) (fun m a' bt bs X px b5 s5 la dX X1 Xk X3 => ?_) (fun X dX xf => ?_)
              · rw [idm] at m
                rw [pbk] at px
                refine And.intro (fun x => absurd x (by decide)) (fun _ => ⟨Or.inr rfl, h1 hd5 a' wy (nuV g len a1) (nuV g len (nuE g len a1)) (nuV g len (nuE g len (nuE g len a1))) X la X3 (by rw [← hk']; exact dY.trans dX) (X1.trans eY1) wy01 (dgo_le _ _ _ (by decide)) (dgo_le _ _ _ (by decide)) (dgo_le _ _ _ (by decide)) (Or.inr ⟨bt, bs, ?_, ?_, b5, s5⟩)⟩)
                · rw [pd, pk, if_pos m]; exact px
                · rw [← hk', Xk, eYk]
              · rw [idm, pbk] at xf
                have dX' : DX (4 + 17 * d) S X := by rw [← hk']; exact dY.dx dX
                refine And.intro (fun _ => ⟨Or.inl rfl, ?_⟩) (fun x => absurd rfl x)
                rcases xf with ⟨m, e7, e8⟩ | ⟨m, xf⟩
                · exact hl _ _ X dX' (by rw [pd, pk, if_neg m]) hL e7 e8
                · exact h0 X dX' (by rw [pd, pk, if_pos m]; exact xf)
          · refine And.intro (fun x => absurd rfl x) (fun _ => ⟨Or.inl rfl, h0' W (dD.tx tW (by decide)) ?_⟩)
            rw [pd]
            unfold pDk
            rw [pw, pNum_ok ok1, pNum_ok ok2]
            exact num_flt wf
        · refine And.intro (fun x => absurd rfl x) (fun _ => ⟨Or.inl rfl, h0' V (dC.tx tV (by decide)) ?_⟩)
          rw [pd]
          unfold pDk
          rw [pw, pNum_ok ok1]
          exact num_flt vf
      · refine And.intro (fun x => absurd rfl x) (fun _ => ⟨Or.inl rfl, h0' U (dB.tx tU (by decide)) ?_⟩)
        rw [pd]
        unfold pDk
        rw [pw]
        exact num_flt uf
    · refine And.intro (fun x => absurd rfl x) (fun _ => ⟨Or.inl rfl, h0' T (dA.tx tT (by decide)) ⟨1, rend isBl g len a, ?_, e7, e8⟩⟩)
      rw [pd]
      unfold pDk pWay
      rw [if_neg m6, if_neg m7]
  · have x : ¬ S.1 1 2 < nI 5 := x
    rw [hn] at x
    have hd5 : d = 5 := by
      rcases Nat.lt_or_ge d 5 with y | y
      · exact absurd (nI_lt y (by decide)) x
      · omega
    refine ⟨t8, ⟨Nat.le_of_ble_eq_true rfl, Nat.le_of_ble_eq_true rfl, Nat.le_of_ble_eq_true rfl⟩, e_refuse 3 _ S (fun T' ht' e7 e8 => ⟨Or.inl rfl, h0 T' (DS.re.tx ht' (by decide)) ⟨3, f, if_pos hd5, e7, e8.trans hf⟩⟩)⟩
