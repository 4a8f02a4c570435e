/-! ===== close: the desk of the class behind it ===== -/
/-- the store of product p: how many layers, nothing behind them -/
def WFk (w : Nat → Int64) (p : Nat) : Prop := ∃ k, k ≤ 40 ∧ w (418 + 83 * p) = lN k ∧ (w 2 = 1 → k ≤ 1) ∧ ∀ i, k ≤ i → i < 41 → w (419 + 83 * p + 2 * i) = 0 ∧ w (420 + 83 * p + 2 * i) = 0
theorem u1s {α : Type} (f : Nat → α) (j : Nat) (v : α) : u1 f j v j = v := if_pos rfl
theorem u1o {α : Type} (f : Nat → α) {j i : Nat} (v : α) (h : i ≠ j) : u1 f j v i = f i := if_neg h
def nsW (w : Nat → Int64) (l m : Nat) (ns : Nat → Nat) (p : Nat) : Nat := if (paT w l m) (406 + 3 * p) = 0 then ns p else sK (paT w l m) p + 1
theorem sK_ns {w : Nat → Int64} {l m p k : Nat} (hl : l < 5) (hk : k ≤ 40) (h : w (418 + 83 * p) = lN k) : cnt (paT w l m) (418 + 83 * p) = k ∧ sK (paT w l m) p ≤ 40 ∧ (w 2 = 1 → k = 1 → sK (paT w l m) p = 0) ∧ ((¬ w 2 = 1 ∨ ¬ k = 1) → sK (paT w l m) p = k) := by
  have e : (paT w l m) (418 + 83 * p) = lN k := (paT_o w hl (by omega)).trans h
  obtain ⟨a, b⟩ := sK_le hk e
  have e2 : (paT w l m) 2 = w 2 := paT_o w hl (by omega)
  refine ⟨a, b, fun h1 h2 => ?_, fun h1 => ?_⟩
  · unfold sK; rw [e2, a, if_pos ⟨h1, h2⟩]
  · unfold sK; rw [e2, a, if_neg (fun z => by rcases h1 with x | x; exact x z.1; exact x z.2)]
set_option maxHeartbeats 4000000 in
theorem desk_cl {S S1 S2 S3 S4 S5 : Mem} {w : Nat → Int64} {l m t B : Nat} {ns : Nat → Nat} (hD : deskR S w (l + 1) m ns) (hf : WFt w (l + 1) m) (hwh : pWhl w (l + 1) m) (hm0 : 0 < m) (hE : ∀ d, d < l + 1 → WFe w d t) (hSt : ∀ p, p < m → WFk w p) (h3 : rg w 3 B) (hB : B < 1000000000) (h4 : rg w 4 10000) (can : ∀ d, d < l + 1 → cnM w d) (cl : closeR S S1 (l + 1)) (u : unitR S1 S2 (rcV S (l + 1)) m) (c : centR S2 S3 (ctV S1 (l + 1)) m) (v : moveR S3 S4 l m) (fl : fillR S4 S5 m ns) :
    deskR (u2 (u2 S5.1 1 5 (S5.1 1 5 + 1)) 1 6 0, accX S5 (l + 1)) (cloW w l m) (l + 1) m (nsW w l m ns) ∧ ∀ p, p < m → ¬ fulW (paT w l m) p := by
  have n5 : l + 1 ≤ 5 := hD.1.2.1
  have m4 : m ≤ 4 := hD.1.2.2.2.1
  have hl : l < 5 := by omega
  have mon := mon_cl hD hf hE h4 can cl
  obtain ⟨rc1, rc2, rc3⟩ := rc_eq hD hE h4 (l + 1) (Nat.le_refl _) can
  have eUI : uIn (mW w (l + 1)) (l + 1) = mW w (l + 1) ((131 + 55 * l) + 15) := if_neg (Nat.succ_ne_zero l)
  rw [eUI] at rc1 rc2 rc3
  have eO : ctV S1 (l + 1) = mW w (l + 1) ((131 + 55 * l) + 54) := (mon l (Nat.lt_succ_self l)).2.2.2.2.2.2.2.2.symm
  rw [eO] at c
  have hn : ∀ p, p < m → w (418 + 83 * p) = lN (ns p) ∧ ns p ≤ 40 := fun p hp => ⟨(hD.2.2.2.2 p hp).2.2.2.2.2.1, (hD.2.2.2.2 p hp).2.2.2.2.2.2.1⟩
  have hs : ∀ q, q < m → sK (paT w l m) q ≤ 40 := fun q hq => (sK_ns hl (hn q hq).2 (hn q hq).1).2.1
  have c1 : ∀ c, c < 4 ∨ 89 ≤ c → S1.1 c = S.1 c ∧ S1.2 c = S.2 c := fun c hc => cl.2 c (by omega)
  have hT1 : ∀ p, p < m → proT S1 (mW w (l + 1)) p := fun p hp => (hD.2.2.2.2 p hp).1.move (c1 _ (by omega)).1 (fun i x y => mW_o w _ (by omega))
  have hWp : ∀ p, p < m → WFp (mW w (l + 1)) p := fun p hp => (hf.2.2.2.2.2.2 p hp).move (fun i x y => mW_o w _ (by omega))
  have hsh : sumN (fun p => mW w (l + 1) (50 + 4 * p)) m = 100 := by
    rw [← hwh.2.1]; exact sumN_congr fun p hp => mW_o w _ (by omega)
  obtain ⟨P1, P2, P3, P4⟩ := parts_cl hm0 m4 hT1 hWp hsh rc1 rc2 (by omega) hl u c v
  obtain ⟨F1, F2⟩ := fl
  have i5 : ∀ c j, c < 89 → S5.1 c j = S1.1 c j := fun c j hc => by rw [(F2 c (by omega)).1]; exact P3 c j (by omega)
  have x5 : ∀ c j, c < 89 → (c ≠ 9 + 17 * l ∨ j ≠ 16) → S5.2 c j = S1.2 c j := fun c j hc h => by rw [(F2 c (by omega)).2]; exact P4 c j (by omega) h
  obtain ⟨T, eT⟩ : ∃ T : Mem, T = (u2 (u2 S5.1 1 5 (S5.1 1 5 + 1)) 1 6 0, accX S5 (l + 1)) := ⟨_, rfl⟩
  rw [← eT]
  have ti : ∀ c, c ≠ 1 → T.1 c = S5.1 c := fun c hc => by rw [eT]; exact (u2_other _ _ _ hc).trans (u2_other _ _ _ hc)
  have tx : ∀ c, c ≠ 1 → T.2 c = S5.2 c := fun c hc => by rw [eT]; exact accX_o _ _ hc
  have vo := fun i h => cloW_o w (i := i) hl m4 hs h
  have vm := fun i h => cloW_m w (i := i) hl m4 hs h
  have monT : ∀ d, d < l + 1 → monR T (cloW w l m) (9 + 17 * d) (131 + 55 * d) := fun d hd => by
    have hM := mon d hd
    refine hM.ab (fun i hi => ?_) (fun i h1 h2 => ?_) (fun j hj => ?_) (fun i h1 h2 h3 => ?_) ?_
    · rw [ti _ (by omega)]; funext j; exact i5 _ j (by omega)
    · rw [tx _ (by omega)]; funext j; exact x5 _ j (by omega) (by omega)
    · rw [tx _ (by omega)]; exact x5 _ j (by omega) (by omega)
    · rw [vm i (by omega), paT_m w hl hd (by omega) (by omega)]
    · rw [vm _ (by omega), tx _ (by omega)]
      have h52 := hM.2.2.2.2.2.2.2.1
      by_cases z : d = l
      · subst z
        rw [paT_x w hl, (F2 _ (by omega)).2, P2, h52]
      · rw [paT_m w hl hd (by omega) (by omega), x5 _ _ (by omega) (by omega), h52]
  have dep : ∀ d, d < l + 1 → depW T (cloW w l m) d := fun d hd => by
    obtain ⟨tD, cR, kR, -, -⟩ := hD.2.2.2.1 d hd
    obtain ⟨⟨p1, p2, p3, p4, p5, p6⟩, q1, q2, q3, rR, ⟨z1, z2, z3, z4, z5⟩, z6, z7, z8, e1, e2⟩ := cl.1 d hd
    have hM := mon d hd
    obtain ⟨w0, w1, wk⟩ := cloW_w w hl m4 hs hd
    have m13 : (paT w l m) ((131 + 55 * d) + 13) = mW w (d + 1) ((131 + 55 * d) + 13) := paT_m w hl hd (by omega) (by omega)
    have m14 : (paT w l m) ((131 + 55 * d) + 14) = mW w (d + 1) ((131 + 55 * d) + 14) := paT_m w hl hd (by omega) (by omega)
    refine ⟨tD.mv (fun j hj => ?_) ?_ (fun i h1 h2 => vo i (by omega)), ⟨fun j h1 h2 => ?_, fun j hj => ?_⟩, ⟨fun j hj => ?_, fun j hj => ?_⟩, monT d hd, ?_⟩
    · rw [ti _ (by omega), i5 _ _ (by omega)]; exact e1 j hj
    · rw [tx _ (by omega)]
      funext j
      rw [x5 _ _ (by omega) (by omega), show 5 + 17 * d = (4 + 17 * d) + 1 by omega, e2]
    · rw [tx _ (by omega), x5 _ _ (by omega) (by omega), show 6 + 17 * d = (4 + 17 * d) + 2 by omega, z8 j h2, cloW_c w hl hd (by omega)]
    · rw [ti _ (by omega), i5 _ _ (by omega), show 70 + 7 * d + j = 66 + 7 * d + (4 + j) by omega, cloW_c w hl hd (by omega)]
      rcases (show j = 0 ∨ j = 1 ∨ j = 2 by omega) with rfl | rfl | rfl
      · rw [show 8 + 0 = 8 from rfl, z3]; rfl
      · rw [show 8 + 1 = 9 from rfl, z4]; rfl
      · rw [show 8 + 2 = 10 from rfl, z5]; rfl
    · rw [ti _ (by omega), i5 _ _ (by omega), show 7 + 17 * d = (4 + 17 * d) + 3 by omega]
      have a7 := hM.1.2.2.2.2.2.2.1
      have a8 := hM.1.2.2.2.2.2.2.2
      rw [show 9 + 17 * d + 3 = (4 + 17 * d) + 8 by omega] at a7 a8
      rcases (show j = 0 ∨ j = 1 by omega) with rfl | rfl
      · rw [show 101 + 6 * d + 0 = 101 + 6 * d from rfl, w0, m13, z1, ← p5]; exact a7
      · rw [show 101 + 6 * d + 1 = 102 + 6 * d by omega, w1, m13, m14, z2, ← p6]; exact a8
    · rw [tx _ (by omega), x5 _ _ (by omega) (by omega), show 8 + 17 * d = (4 + 17 * d) + 4 by omega, wk j hj]
      have b4 := (hM.2.2.2.2.1 j hj).2.2.2.2.2.2.1
      have b6 := hM.2.2.2.2.2.2.1
      rw [show 9 + 17 * d + 4 = (4 + 17 * d) + 9 by omega] at b4
      rw [show 9 + 17 * d = (4 + 17 * d) + 5 by omega] at b6
      rw [paT_m w hl hd (by omega) (by omega), paT_m w hl hd (by omega) (by omega), b4, b6]
      by_cases z : j = 3
      · subst z
        rw [if_pos rfl]; exact z7
      · rw [if_neg z, Int64.add_zero]; exact z6 j (by omega)
    · rw [vm _ (by omega), vm _ (by omega), vo _ (by omega), paT_m w hl hd (by omega) (by omega), paT_m w hl hd (by omega) (by omega), show 184 + 55 * d = (131 + 55 * d) + 53 by omega, show 143 + 55 * d = (131 + 55 * d) + 12 by omega]
      exact mW_53 w (by omega)
  have wy4 : (S4.1 1 4).toInt64 = w 2 := by rw [P3 _ _ (by omega), (c1 1 (by omega)).1]; exact hD.2.1 0 (by decide)
  have pro : ∀ p, p < m → proW T (cloW w l m) p (nsW w l m ns p) ∧ ¬ fulW (paT w l m) p := fun p hp => by
    obtain ⟨a1, -, -, -, a5, a6, a7, a8⟩ := hD.2.2.2.2 p hp
    obtain ⟨k', k1, k2, k3, k5⟩ := hSt p hp
    have ek : k' = ns p := (lN_eq (by omega) (by omega)).mp (k2.symm.trans a6)
    subst ek
    obtain ⟨sc, s40, sk1, sk2⟩ := sK_ns (m := m) hl a7 a6
    obtain ⟨o1, o2, o3⟩ := P1 p hp
    obtain ⟨t1, t2, t3⟩ := paT_p w (l := l) hp m4
    have eu : (S4.1 (89 + 3 * p) 4).toInt64 = (paT w l m) (406 + 3 * p) := o1.trans t1.symm
    have ec : S4.2 (89 + 3 * p) 6 = (paT w l m) (406 + 3 * p + 2) := by rw [show 406 + 3 * p + 2 = 408 + 3 * p by omega]; exact o3.trans t3.symm
    have uz : S4.1 (89 + 3 * p) 4 = 0 ↔ (paT w l m) (406 + 3 * p) = 0 := eq64 eu i64_0
    have l1 : S4.2 (89 + 3 * p + 1) = S.2 (90 + 3 * p) := by
      funext i; rw [P4 _ _ (by omega) (by omega), (c1 _ (by omega)).2, show 89 + 3 * p + 1 = 90 + 3 * p by omega]
    have l2 : S4.2 (89 + 3 * p + 2) = S.2 (91 + 3 * p) := by
      funext i; rw [P4 _ _ (by omega) (by omega), (c1 _ (by omega)).2, show 89 + 3 * p + 2 = 91 + 3 * p by omega]
    have p7 : S4.1 (89 + 3 * p) 7 = nI (ns p) := by rw [P3 _ _ (by omega), (c1 _ (by omega)).1]; exact a5
    have sv : ∀ i, 418 + 83 * p ≤ i → i < 501 + 83 * p → (cloW w l m) i = stS (paT w l m) (paT w l m) p i := fun i h1 h2 => cloW_s w hl m4 hs hp h1 h2
    have po : ∀ i, 418 ≤ i → (paT w l m) i = w i := fun i hi => paT_o w hl (by omega)
    have key : (S5.2 (89 + 3 * p) = S4.2 (89 + 3 * p) ∧ ∀ j, j ≠ 7 → S5.1 (89 + 3 * p) j = S4.1 (89 + 3 * p) j) ∧ (S5.1 (89 + 3 * p) 7 = nI (nsW w l m ns p) ∧ (cloW w l m) (418 + 83 * p) = lN (nsW w l m ns p) ∧ nsW w l m ns p ≤ 40 ∧ ∀ i, i < nsW w l m ns p → S5.2 (89 + 3 * p + 1) i = (cloW w l m) (419 + 83 * p + 2 * i) ∧ S5.2 (89 + 3 * p + 2) i = (cloW w l m) (420 + 83 * p + 2 * i)) ∧ ¬ fulW (paT w l m) p := by
      rcases F1 p hp with ⟨f0, f1, f2, f3, f4⟩ | ⟨f0, ⟨fw, fn⟩, f1, f2, f3, f4⟩ | ⟨f0, ⟨fw, fn⟩, f1, f2, f3, f4⟩
      · have z := uz.mp f0
        have en : nsW w l m ns p = ns p := if_pos z
        have st : ∀ i, 418 + 83 * p ≤ i → i < 501 + 83 * p → (cloW w l m) i = w i := fun i h1 h2 => by
          rw [sv i h1 h2]; unfold stS; rw [if_pos z]; exact po i (by omega)
        rw [en]
        refine ⟨⟨f2, fun j _ => by rw [f1]⟩, ⟨by rw [f1]; exact p7, (st _ (by omega) (by omega)).trans a6, a7, fun i hi => ?_⟩, fun f => f.1 z⟩
        rw [f3, f4, l1, l2, st _ (by omega) (by omega), st _ (by omega) (by omega)]
        exact a8 i hi
      · have z : ¬ (paT w l m) (406 + 3 * p) = 0 := fun y => f0 (uz.mpr y)
        have w2 : w 2 = 1 := by rw [← wy4, fw]; rfl
        have n1 : ns p = 1 := by have := k3 w2; omega
        have s0 : sK (paT w l m) p = 0 := sk1 w2 n1
        have en : nsW w l m ns p = 1 := by unfold nsW; rw [if_neg z, s0]
        have b0 := a8 0 (by omega)
        rw [en]
        refine ⟨⟨f2, fun j _ => by rw [f1]⟩, ⟨by rw [f1, p7, n1], ?_, (by decide), fun i hi => ?_⟩, fun f => by have := f.2; omega⟩
        · rw [sv _ (by omega) (by omega)]; unfold stS; rw [if_neg z, u1L_s, s0]
        · obtain rfl : i = 0 := by omega
          rw [f3, f4, u1s, u1s, l1, l2, sv _ (by omega) (by omega), sv _ (by omega) (by omega)]
          unfold stS
          rw [if_neg z, s0, eu, ec]
          refine ⟨?_, ?_⟩
          · rw [u1L_o _ _ (by omega), u1L_o _ _ (by omega), u1L_s, po (419 + 83 * p + 2 * 0) (by omega), b0.1]
          · rw [u1L_o _ _ (by omega), show 420 + 83 * p + 2 * 0 = 419 + 83 * p + 2 * 0 + 1 by omega, u1L_s, po (419 + 83 * p + 2 * 0 + 1) (by omega), b0.2, show 419 + 83 * p + 2 * 0 + 1 = 420 + 83 * p + 2 * 0 by omega]
      · have z : ¬ (paT w l m) (406 + 3 * p) = 0 := fun y => f0 (uz.mpr y)
        have w2 : S4.1 1 4 = 1 ↔ w 2 = 1 := eq64 wy4 (show (1 : Int32).toInt64 = 1 from rfl)
        have sn : sK (paT w l m) p = ns p := sk2 (by
          rcases fw with x | x
          · exact Or.inl (fun y => x (w2.mpr y))
          · exact Or.inr (by omega))
        have en : nsW w l m ns p = ns p + 1 := by unfold nsW; rw [if_neg z, sn]
        obtain ⟨z1, z2⟩ := k5 (ns p) (Nat.le_refl _) (by omega)
        rw [en]
        refine ⟨⟨f2, fun j hj => by rw [f1]; exact u1o _ _ hj⟩, ⟨by rw [f1]; exact u1s _ _ _, ?_, by omega, fun i hi => ?_⟩, fun f => by have := f.2; omega⟩
        · rw [sv _ (by omega) (by omega)]; unfold stS; rw [if_neg z, u1L_s, sn]
        · rw [f3, f4, l1, l2, sv _ (by omega) (by omega), sv _ (by omega) (by omega)]
          unfold stS
          rw [if_neg z, sn, eu, ec]
          by_cases y : i = ns p
          · subst y
            rw [u1s, u1s]
            refine ⟨?_, ?_⟩
            · rw [u1L_o _ _ (by omega), u1L_o _ _ (by omega), u1L_s, po (419 + 83 * p + 2 * ns p) (by omega), z1, Int64.zero_add]
            · rw [u1L_o _ _ (by omega), show 420 + 83 * p + 2 * ns p = 419 + 83 * p + 2 * ns p + 1 by omega, u1L_s, po (419 + 83 * p + 2 * ns p + 1) (by omega), show 419 + 83 * p + 2 * ns p + 1 = 420 + 83 * p + 2 * ns p by omega, z2, Int64.zero_add]
          · rw [u1o _ _ y, u1o _ _ y, u1L_o _ _ (by omega), u1L_o _ _ (by omega), u1L_o _ _ (by omega), u1L_o _ _ (by omega), u1L_o _ _ (by omega), u1L_o _ _ (by omega), po _ (by omega), po _ (by omega)]
            exact a8 i (by omega)
    obtain ⟨⟨g1, g2⟩, ⟨g3, g4, g5, g6⟩, g7⟩ := key
    refine ⟨⟨fun j hj => ?_, ?_, ?_, ?_, ?_, g4, g5, fun i hi => ?_⟩, g7⟩
    · rw [ti _ (by omega), g2 j (by omega), P3 _ _ (by omega), (c1 _ (by omega)).1, vo _ (by omega)]; exact a1 j hj
    · rw [ti _ (by omega), g2 4 (by decide), vm _ (by omega)]; exact eu
    · rw [tx _ (by omega), g1, vm _ (by omega)]; exact o2.trans t2.symm
    · rw [tx _ (by omega), g1, vm _ (by omega)]; exact o3.trans t3.symm
    · rw [ti _ (by omega)]; exact g3
    · rw [tx _ (by omega), tx _ (by omega), show 90 + 3 * p = 89 + 3 * p + 1 by omega, show 91 + 3 * p = 89 + 3 * p + 2 by omega]; exact g6 i hi
  have h1 : ∀ j, j ≠ 5 → j ≠ 6 → T.1 1 j = S.1 1 j := fun j a b => by
    rw [eT]
    show u2 (u2 S5.1 1 5 (S5.1 1 5 + 1)) 1 6 0 1 j = _
    rw [u2_j _ _ _ _ b, u2_j _ _ _ _ a, i5 _ _ (by decide), (c1 1 (by omega)).1]
  obtain ⟨v3, v4⟩ := cloW_3 w l m
  obtain ⟨va, vb, vc⟩ := cloW_a w hl m4 hs
  refine ⟨⟨⟨?_, n5, ?_, m4, ?_, ?_⟩, fun j hj => ?_, fun j hj => ?_, dep, fun p hp => (pro p hp).1⟩, fun p hp => (pro p hp).2⟩
  · rw [h1 2 (by decide) (by decide)]; exact hD.1.1
  · rw [h1 3 (by decide) (by decide)]; exact hD.1.2.2.1
  · rw [vo 0 (by omega)]; exact hD.1.2.2.2.2.1
  · rw [vo 1 (by omega)]; exact hD.1.2.2.2.2.2
  · rcases (show j = 0 ∨ j = 1 ∨ j = 2 by omega) with rfl | rfl | rfl
    · rw [h1 _ (by decide) (by decide), vo _ (by omega)]; exact hD.2.1 0 (by decide)
    · rw [v3, eT]
      show (u2 (u2 S5.1 1 5 (S5.1 1 5 + 1)) 1 6 0 1 5).toInt64 = _
      rw [u2_j _ _ _ _ (by decide), u2_s, i5 _ _ (by decide), (c1 1 (by omega)).1]
      have a := rgI h3 (by omega)
      have e3 := t64 (hD.2.1 1 (by decide))
      refine e64 ?_
      rw [g_add (a := w 3) (b := 1) rfl rfl (by rw [show (1 : Int64).toInt = 1 from rfl]; omega)]
      exact s_add e3 rfl (by rw [show (1 : Int64).toInt = 1 from rfl]; omega)
    · rw [show 2 + 2 = 4 from rfl, v4, eT]
      show (u2 (u2 S5.1 1 5 (S5.1 1 5 + 1)) 1 6 0 1 6).toInt64 = _
      rw [u2_s]; rfl
  · have s7 : ∀ j, S5.2 1 j = S.2 1 j := fun j => by rw [x5 _ _ (by decide) (by omega), (c1 1 (by omega)).2]
    rcases (show j = 0 ∨ j = 1 ∨ j = 2 ∨ j = 3 by omega) with rfl | rfl | rfl | rfl
    · rw [show 750 + 0 = 750 from rfl, va, eT]
      show accX S5 (l + 1) 1 7 = _
      have : accX S5 (l + 1) 1 7 = S5.2 1 7 + sumN (spC S5) (l + 1) := if_pos ⟨rfl, rfl⟩
      rw [this, s7, show S.2 1 7 = w 750 from hD.2.2.1 0 (by decide)]
      refine congrArg (w 750 + ·) (sumN_congr fun d hd => ?_)
      have hM := monT d hd
      have q0 := hM.1.2.2.2.1
      have wx0 := (hE d hd).1.1
      have ad : ∀ j, 1 ≤ j → j < 4 → S5.2 (14 + 17 * d) j = w (66 + 7 * d + j) := fun j a b => by
        rw [x5 _ _ (by omega) (by omega)]
        obtain ⟨-, -, -, q3, -⟩ := cl.1 d hd
        rw [show 14 + 17 * d = (4 + 17 * d) + 10 by omega, q3 j a b, show (4 + 17 * d) + 2 = 6 + 17 * d by omega]
        exact (hD.2.2.2.1 d hd).2.1.1 j a b
      show 0 + S5.2 (14 + 17 * d) 0 + S5.2 (14 + 17 * d) 1 + S5.2 (14 + 17 * d) 2 + S5.2 (14 + 17 * d) 3 - S5.2 (14 + 17 * d) 0 = 0 + w (66 + 7 * d + 0) + w (66 + 7 * d + 1) + w (66 + 7 * d + 2) + w (66 + 7 * d + 3)
      rw [sum4, ad 1 (by decide) (by decide), ad 2 (by decide) (by decide), ad 3 (by decide) (by decide), show w (66 + 7 * d + 0) = 0 from wx0, Int64.zero_add 0]
    · rw [show 750 + 1 = 751 from rfl, vo _ (by omega), eT]
      show accX S5 (l + 1) 1 8 = _
      have : accX S5 (l + 1) 1 8 = S5.2 1 8 := by
        unfold accX
        rw [if_neg (by omega), if_neg (by omega), if_neg (by omega)]
      rw [this, s7]; exact hD.2.2.1 1 (by decide)
    · rw [show 750 + 2 = 752 from rfl, vb, eT]
      show accX S5 (l + 1) 1 9 = _
      have : accX S5 (l + 1) 1 9 = S5.2 1 9 + sumN (fun d => S5.2 (9 + 17 * d) 16) (l + 1) := by
        unfold accX
        rw [if_neg (by omega), if_pos ⟨rfl, rfl⟩]
      rw [this, s7, show S.2 1 9 = w 752 from hD.2.2.1 2 (by decide)]
      refine congrArg (w 752 + ·) (sumN_congr fun d hd => ?_)
      have hM := (monT d hd).2.2.2.2.2.2.2.1
      rw [vm _ (by omega), tx _ (by omega)] at hM
      exact hM.symm
    · rw [show 750 + 3 = 753 from rfl, vc, eT]
      show accX S5 (l + 1) 1 10 = _
      have : accX S5 (l + 1) 1 10 = S5.2 1 10 + sumN (scC S5) (l + 1) := by
        unfold accX
        rw [if_neg (by omega), if_neg (by omega), if_pos ⟨rfl, rfl⟩]
      rw [this, s7, show S.2 1 10 = w 753 from hD.2.2.1 3 (by decide)]
      refine congrArg (w 753 + ·) (sumN_congr fun d hd => ?_)
      have hM := (monT d hd).1.2.2.2.2.2.1
      have hz := (dep d hd).2.2.2.2
      have hc := (dep d hd).1.2.2.2.1
      rw [ti _ (by omega)] at hM hc
      unfold scC
      rw [hM, hc, ← vm _ (by omega), show 131 + 55 * d + 53 = 184 + 55 * d by omega, hz, show 143 + 55 * d = (131 + 55 * d) + 12 by omega, show 8 + 9 * d = 5 + 9 * d + 3 by omega]
