/-! ===== close keeps what holds of a row ===== -/
theorem g_add' {a b : Int64} {x y : Int} (ha : a.toInt = x) (hb : b.toInt = y) (h : -9223372036854775808 ≤ x + y ∧ x + y ≤ 9223372036854775807) : (a + b).toInt = x + y := g_add ha hb h
set_option maxHeartbeats 4000000 in
theorem close_WI {S : Mem} {tp : Nat} {sg : Nat → Int32} {fp : Int32} {r : Nat → Int32} {w : Nat → Int64} {H : HL} {t l m : Nat} (hI : CI S tp sg fp r w H) (hN : WN w t (l + 1) m) (ht : t ≤ 512) (ok : okW w l m) : WI (cloW w l m) (t + 1) := by
  obtain ⟨hf, hwh, hm0, h3, h4, hE, hL, hU, hC⟩ := hN
  obtain ⟨ns, hD⟩ := hI.desk hf
  have n5 : l + 1 ≤ 5 := hf.1
  have m4 : m ≤ 4 := hf.2.1
  have hl : l < 5 := by omega
  have hn : ∀ p, p < m → w (418 + 83 * p) = lN (ns p) ∧ ns p ≤ 40 := fun p hp => ⟨(hD.2.2.2.2 p hp).2.2.2.2.2.1, (hD.2.2.2.2 p hp).2.2.2.2.2.2.1⟩
  have hs : ∀ q, q < m → sK (paT w l m) q ≤ 40 := fun q hq => (sK_ns hl (hn q hq).2 (hn q hq).1).2.1
  have hE1 : ∀ d, d < l + 1 → WFe w d t := fun d hd => (hE d hd).1
  have hcn : ∀ d, d < l + 1 → cen0 w d := fun d hd => (hE d hd).2
  have hC' : iS (inC w) (l + 1) ≤ 60000000000 := by have : iS (inC w) (l + 1) ≤ 100000000 * (t : Int) := hC; omega
  obtain ⟨⟨u0, u1, u2⟩, ⟨i0, i1⟩, pe⟩ := months_I hf hE1 h4 hcn hC' (l + 1) (Nat.le_refl _) ok.1
  have rc1 := (rc_eq hD hE1 h4 (l + 1) (Nat.le_refl _) ok.1).1
  have eU : uIn (mW w (l + 1)) (l + 1) = mW w (l + 1) ((131 + 55 * l) + 15) := if_neg (Nat.succ_ne_zero l)
  have eO : cIn (mW w (l + 1)) (l + 1) = mW w (l + 1) ((131 + 55 * l) + 54) := if_neg (Nat.succ_ne_zero l)
  rw [eU] at u0 u1 u2 rc1
  rw [eO] at i0 i1
  have u1' : (mW w (l + 1) ((131 + 55 * l) + 15)).toInt ≤ 300000 := by rw [Int.natCast_add] at u1; omega
  have hT1 : ∀ p, p < m → proT S (mW w (l + 1)) p := fun p hp => (hD.2.2.2.2 p hp).1.move rfl (fun i x y => mW_o w _ (by omega))
  have hWp : ∀ p, p < m → WFp (mW w (l + 1)) p := fun p hp => (hf.2.2.2.2.2.2 p hp).move (fun i x y => mW_o w _ (by omega))
  have hsh : sumN (fun p => mW w (l + 1) (50 + 4 * p)) m = 100 := by
    rw [← hwh.2.1]; exact sumN_congr fun p hp => mW_o w _ (by omega)
  have hu : puI (mW w (l + 1)) (mW w (l + 1) ((131 + 55 * l) + 15)) m := ⟨u1', fun p hp => (pU_eq m4 hm0 hT1 hWp hsh rc1 u0 u1' hp).2⟩
  have lu0 : ∀ e, e < l + 1 → 0 ≤ luC w e := fun e he => by
    obtain ⟨p1, p2⟩ := pe e he
    have q0 := p1 0 (by decide)
    have q1 := p1 1 (by decide)
    have q2 := p1 2 (by decide)
    have q3 := p1 3 (by decide)
    unfold luC
    omega
  have luS := iS_0 (f := luC w) (n := l + 1) lu0
  have O1 : (mW w (l + 1) ((131 + 55 * l) + 54)).toInt ≤ 100000000000 := by omega
  have hF := fun p hp => pF_I (O := mW w (l + 1) ((131 + 55 * l) + 54)) m4 hu hWp i0 O1 (p := p) hp
  have vo := fun i h => cloW_o w (i := i) hl m4 hs h
  have vm := fun i h => cloW_m w (i := i) hl m4 hs h
  have pm : ∀ d i, d < l + 1 → (131 + 55 * d) ≤ i → i < (131 + 55 * d) + 15 → (paT w l m) i = oW w d i := fun d i hd h1 h2 => by
    rw [paT_m w hl hd (by omega) (by omega), mW_g w d h2]
  have ow : ∀ d j, d < l + 1 → j < 6 → oW w d ((131 + 55 * d) + j) = w (101 + 6 * d + j) := fun d j hd hj => oW_w w (by omega) hj
  have oi : ∀ d j, d < l + 1 → j < 7 → oW w d ((131 + 55 * d) + 8 + j) = w (66 + 7 * d + j) := fun d j hd hj => oW_i w (by omega) hj
  have le : ∀ d, d < l + 1 → (paT w l m) ((131 + 55 * d) + 13) = w (71 + 7 * d) := fun d hd => by
    rw [pm d _ hd (by omega) (by omega)]
    have := oi d 5 hd (by decide)
    rw [show 66 + 7 * d + 5 = 71 + 7 * d by omega] at this
    exact this
  have fa : ∀ d, d < l + 1 → (paT w l m) ((131 + 55 * d) + 14) = w (72 + 7 * d) := fun d hd => by
    rw [pm d _ hd (by omega) (by omega)]
    have := oi d 6 hd (by decide)
    rw [show 66 + 7 * d + 6 = 72 + 7 * d by omega] at this
    exact this
  have wk := fun d hd => cloW_w w (d := d) hl m4 hs hd
  have tl : ∀ d k, d < l + 1 → k < 4 → (paT w l m) ((131 + 55 * d) + 36 + 4 * k) = mW w (d + 1) ((131 + 55 * d) + 36 + 4 * k) := fun d k hd hk => paT_m w hl hd (by omega) (by omega)
  have tL : ∀ d, d < l + 1 → (paT w l m) ((131 + 55 * d) + 51) = mW w (d + 1) ((131 + 55 * d) + 51) := fun d hd => paT_m w hl hd (by omega) (by omega)
  have luB : ∀ d, d < l + 1 → luC w d ≤ 60000000000 := fun d hd => by
    have := iS_t (f := luC w) (n := l + 1) lu0 hd
    omega
  have w3 : ∀ d, d < l + 1 → ((cloW w l m) (103 + 6 * d + 3)).toInt = (mW w (d + 1) ((131 + 55 * d) + 36 + 4 * 3)).toInt + (mW w (d + 1) ((131 + 55 * d) + 51)).toInt := fun d hd => by
    have a := luB d hd
    obtain ⟨p1, p2⟩ := pe d hd
    have q0 := p1 0 (by decide)
    have q1 := p1 1 (by decide)
    have q2 := p1 2 (by decide)
    have q3 := p1 3 (by decide)
    unfold luC at a
    rw [(wk d hd).2.2 3 (by decide), if_pos rfl, tl d 3 hd (by decide), tL d hd]
    exact g_add rfl rfl (by omega)
  have wk3 : ∀ d k, d < l + 1 → k < 3 → ((cloW w l m) (103 + 6 * d + k)).toInt = (mW w (d + 1) ((131 + 55 * d) + 36 + 4 * k)).toInt := fun d k hd hk => by
    rw [(wk d hd).2.2 k (by omega), if_neg (by omega), tl d k hd (by omega), Int64.add_zero]
  have cz : ∀ d j, d < l + 1 → j < 7 → (cloW w l m) (66 + 7 * d + j) = 0 := fun d j hd hj => cloW_c w hl hd hj
  have eC : ∀ d, d < l + 1 → inC (cloW w l m) d = luC w d := fun d hd => by
    unfold inC luC
    rw [w3 d hd, wk3 d 0 hd (by decide), wk3 d 1 hd (by decide), wk3 d 2 hd (by decide), cz d 1 hd (by decide), cz d 2 hd (by decide), cz d 3 hd (by decide), L0]
    omega
  have eCI : ceI (cloW w l m) (l + 1) = iS (luC w) (l + 1) := iS_c eC
  have eUI : unI (cloW w l m) (l + 1) = iS (leI w) (l + 1) := by
    unfold unI
    rw [(cloW_3 w l m).2, L0, iS_c (g := leI w) (fun d hd => by unfold opI leI; rw [(wk d hd).1, le d hd]), Int.zero_add]
  have hU' : unI (cloW w l m) (l + 1) + (mW w (l + 1) ((131 + 55 * l) + 15)).toInt ≤ unI w (l + 1) := by
    rw [eUI]; unfold unI; omega
  have hC2 : ceI (cloW w l m) (l + 1) + (mW w (l + 1) ((131 + 55 * l) + 54)).toInt ≤ ceI w (l + 1) := by
    rw [eCI]; unfold ceI; omega
  refine ⟨l + 1, m, hf.row (fun i x _ _ => vo i (by omega)), hwh.row m4 (fun i _ _ => vo i (by omega)), hm0, ?_, ⟨0, (by decide), (cloW_3 w l m).2⟩, fun d hd => ⟨⟨⟨?_, fun j x y => ⟨0, by omega, cz d j hd (by omega)⟩, ⟨0, by omega, ?_⟩, ⟨0, by omega, ?_⟩, ⟨0, by omega, ?_⟩⟩, ⟨?_, ?_, fun j hj => ?_⟩, ?_, ?_, ?_, ?_, ?_, ?_⟩, ⟨fun k hk => ?_, fun k x y => ?_⟩⟩, fun p hp => ?_, by omega, by omega⟩
  · obtain ⟨v, a, b⟩ := h3
    exact ⟨v + 1, by omega, by rw [(cloW_3 w l m).1, b, lN_1]⟩
  · exact cz d 0 hd (by decide)
  · have := cz d 4 hd (by decide)
    rw [show 66 + 7 * d + 4 = 70 + 7 * d by omega] at this
    exact this
  · have := cz d 5 hd (by decide)
    rw [show 66 + 7 * d + 5 = 71 + 7 * d by omega] at this
    exact this
  · have := cz d 6 hd (by decide)
    rw [show 66 + 7 * d + 6 = 72 + 7 * d by omega] at this
    exact this
  · obtain ⟨v, a, b⟩ := (hE1 d hd).1.2.2.2.1
    exact ⟨v, a, by rw [(wk d hd).1, le d hd]; exact b⟩
  · obtain ⟨v, a, b⟩ := (hE1 d hd).1.2.2.2.2
    rw [show rg (cloW w l m) (102 + 6 * d) 100 = ∃ v, v ≤ 100 ∧ (cloW w l m) (102 + 6 * d) = lN v from rfl, (wk d hd).2.1, fa d hd]
    split
    · exact ⟨0, (by decide), rfl⟩
    · exact ⟨v, a, b⟩
  · have a := iS_t (f := inC (cloW w l m)) (n := l + 1) (k := d) (fun i hi => by rw [eC i hi]; exact lu0 i hi) hd
    have a : inC (cloW w l m) d ≤ ceI (cloW w l m) (l + 1) := a
    obtain ⟨p1, p2⟩ := pe d hd
    have q0 := p1 0 (by decide)
    have q1 := p1 1 (by decide)
    have q2 := p1 2 (by decide)
    have q3 := p1 3 (by decide)
    rw [eC d hd] at a
    unfold luC at a
    have cb : ceI w (l + 1) ≤ 100000000 * (t : Int) := hC
    refine rg_of ?_ ?_ (by omega)
    · rcases (show j = 3 ∨ j < 3 by omega) with rfl | h
      · rw [w3 d hd]; omega
      · rw [wk3 d j hd h]; exact p1 j (by omega)
    · rcases (show j = 3 ∨ j = 0 ∨ j = 1 ∨ j = 2 by omega) with rfl | rfl | rfl | rfl
      · rw [w3 d hd]; omega
      · rw [wk3 d 0 hd (by decide)]; omega
      · rw [wk3 d 1 hd (by decide)]; omega
      · rw [wk3 d 2 hd (by decide)]; omega
  · obtain ⟨v, a, b⟩ := (hE1 d hd).2.1.1
    exact ⟨v, a, by rw [vm _ (by omega), pm d _ hd (by omega) (by omega)]; exact (ow d 0 hd (by decide)).trans b⟩
  · obtain ⟨v, a, b⟩ := (hE1 d hd).2.1.2.1
    refine ⟨v, a, ?_⟩
    have := ow d 1 hd (by decide)
    rw [show (131 + 55 * d) + 1 = 132 + 55 * d by omega, show 101 + 6 * d + 1 = 102 + 6 * d by omega] at this
    rw [vm _ (by omega), pm d _ hd (by omega) (by omega), this]; exact b
  · obtain ⟨⟨a0, a1, -⟩, -⟩ := months_I hf hE1 h4 hcn hC' d (by omega) (fun e he => ok.1 e (by omega))
    have e6 : (cloW w l m) (137 + 55 * d) = uIn (mW w d) d := by
      rw [vm _ (by omega), pm d _ hd (by omega) (by omega), show 137 + 55 * d = (131 + 55 * d) + 6 by omega, oW_u]
    refine rg_of ?_ ?_ (by decide)
    · rw [e6]; exact a0
    · rw [e6]; omega
  · obtain ⟨v, a, b⟩ := (hE1 d hd).1.2.2.1
    refine ⟨v, a, ?_⟩
    have := oi d 4 hd (by decide)
    rw [show (131 + 55 * d) + 8 + 4 = 143 + 55 * d by omega, show 66 + 7 * d + 4 = 70 + 7 * d by omega] at this
    rw [vm _ (by omega), pm d _ hd (by omega) (by omega), this]; exact b
  · obtain ⟨v, a, b⟩ := (hE1 d hd).1.2.2.2.1
    refine ⟨v, a, ?_⟩
    have := oi d 5 hd (by decide)
    rw [show (131 + 55 * d) + 8 + 5 = 144 + 55 * d by omega, show 66 + 7 * d + 5 = 71 + 7 * d by omega] at this
    rw [vm _ (by omega), pm d _ hd (by omega) (by omega), this]; exact b
  · obtain ⟨v, a, b⟩ := (hE1 d hd).1.2.2.2.2
    refine ⟨v, a, ?_⟩
    have := oi d 6 hd (by decide)
    rw [show (131 + 55 * d) + 8 + 6 = 145 + 55 * d by omega, show 66 + 7 * d + 6 = 72 + 7 * d by omega] at this
    rw [vm _ (by omega), pm d _ hd (by omega) (by omega), this]; exact b
  · obtain ⟨p1, p2⟩ := pe d hd
    have q3 := p1 3 (by decide)
    rcases (show k = 3 ∨ k < 3 by omega) with rfl | h
    · rw [w3 d hd]; omega
    · rw [wk3 d k hd h]; exact p1 k (by omega)
  · rw [cz d k hd (by omega), L0]; exact Int.le_refl _
  · obtain ⟨k, k1, k2, k3, k4, k5⟩ := hL p hp
    obtain ⟨-, s40, sk1, sk2⟩ := sK_ns (m := m) hl k1 k2
    have sv : ∀ i, 418 + 83 * p ≤ i → i < 501 + 83 * p → (cloW w l m) i = stS (paT w l m) (paT w l m) p i := fun i h1 h2 => cloW_s w hl m4 hs hp h1 h2
    have po : ∀ i, 418 ≤ i → (paT w l m) i = w i := fun i hi => paT_o w hl (by omega)
    obtain ⟨t1, -, t3⟩ := paT_p w (l := l) hp m4
    have v2 : (cloW w l m) 2 = w 2 := vo 2 (by omega)
    obtain ⟨ux0, ux1⟩ := hu.2 p hp
    obtain ⟨fx0, fx1⟩ := hF p hp
    rw [← t1] at ux0 ux1
    rw [← t3] at fx0 fx1
    by_cases z : (paT w l m) (406 + 3 * p) = 0
    · have st : ∀ i, 418 + 83 * p ≤ i → i < 501 + 83 * p → (cloW w l m) i = w i := fun i h1 h2 => by
        rw [sv i h1 h2]; unfold stS; rw [if_pos z]; exact po i (by omega)
      refine ⟨k, k1, (st _ (by omega) (by omega)).trans k2, fun q => k3 (v2.symm.trans q), fun i hi => ?_, fun i x y => ?_⟩
      · obtain ⟨y1, y2, y3, y4⟩ := k4 i hi
        unfold lyO
        rw [st _ (by omega) (by omega), st (420 + 83 * p + 2 * i) (by omega) (by omega)]
        exact ⟨y1, by omega, by omega, by omega⟩
      · rw [st _ (by omega) (by omega), st (420 + 83 * p + 2 * i) (by omega) (by omega)]
        exact k5 i x y
    · have ux2 : 1 ≤ ((paT w l m) (406 + 3 * p)).toInt := ne0I rfl ux0 z
      have nf : ¬ sK (paT w l m) p = 40 := fun q => ok.2 p hp ⟨z, q⟩
      obtain ⟨x, hx⟩ : ∃ x, sK (paT w l m) p = x := ⟨_, rfl⟩
      rw [hx] at s40 sk1 sk2 nf
      have xk : (x = k ∧ ¬ (w 2 = 1 ∧ k = 1)) ∨ (x = 0 ∧ k = 1 ∧ w 2 = 1) := by
        by_cases q : w 2 = 1 ∧ k = 1
        · exact Or.inr ⟨sk1 q.1 q.2, q.2, q.1⟩
        · refine Or.inl ⟨sk2 ?_, q⟩
          by_cases q1 : w 2 = 1
          · exact Or.inr (fun q2 => q ⟨q1, q2⟩)
          · exact Or.inl q1
      have st : ∀ i, 418 + 83 * p ≤ i → i < 501 + 83 * p → (cloW w l m) i = u1L (u1L (u1L (paT w l m) (419 + 83 * p + 2 * x) (w (419 + 83 * p + 2 * x) + (paT w l m) (406 + 3 * p))) (419 + 83 * p + 2 * x + 1) (w (419 + 83 * p + 2 * x + 1) + (paT w l m) (406 + 3 * p + 2))) (418 + 83 * p) (lN (x + 1)) i := fun i h1 h2 => by
        rw [sv i h1 h2]; unfold stS; rw [if_neg z, hx, po (419 + 83 * p + 2 * x) (by omega), po (419 + 83 * p + 2 * x + 1) (by omega)]
      have base : 0 ≤ (w (419 + 83 * p + 2 * x)).toInt ∧ (w (419 + 83 * p + 2 * x)).toInt + unI w (l + 1) ≤ 10000 * t ∧ (w (420 + 83 * p + 2 * x)).toInt + 30 * ceI w (l + 1) ≤ 3000000000 * t ∧ -(w (420 + 83 * p + 2 * x)).toInt + 30 * ceI w (l + 1) ≤ 3000000000 * t := by
        rcases xk with ⟨rfl, -⟩ | ⟨rfl, rfl, -⟩
        · obtain ⟨z1, z2⟩ := k5 x (Nat.le_refl _) (by omega)
          rw [z1, z2, L0]; omega
        · obtain ⟨y1, y2, y3, y4⟩ := k4 0 (by decide)
          exact ⟨by omega, y2, y3, y4⟩
      obtain ⟨b1, b2, b3, b4⟩ := base
      have un0 : 0 ≤ unI (cloW w l m) (l + 1) := by
        rw [eUI]; exact iS_0 (fun e he => by unfold leI; exact (rgI (hE1 e he).1.2.2.2.1 (by decide)).1)
      have ce0 : 0 ≤ ceI (cloW w l m) (l + 1) := by rw [eCI]; exact luS
      have eu : (w (419 + 83 * p + 2 * x) + (paT w l m) (406 + 3 * p)).toInt = (w (419 + 83 * p + 2 * x)).toInt + ((paT w l m) (406 + 3 * p)).toInt := g_add rfl rfl (by omega)
      have ec : (w (420 + 83 * p + 2 * x) + (paT w l m) (408 + 3 * p)).toInt = (w (420 + 83 * p + 2 * x)).toInt + ((paT w l m) (408 + 3 * p)).toInt := g_add rfl rfl (by omega)
      refine ⟨x + 1, by omega, ?_, fun q => ?_, fun i hi => ?_, fun i x1 y1 => ?_⟩
      · rw [st _ (by omega) (by omega), u1L_s]
      · have q := v2.symm.trans q
        rcases xk with ⟨rfl, c⟩ | ⟨rfl, -, -⟩
        · have := k3 q
          have : ¬ x = 1 := fun y => c ⟨q, y⟩
          omega
        · exact Nat.le_refl _
      · unfold lyO
        rw [st _ (by omega) (by omega), st (420 + 83 * p + 2 * i) (by omega) (by omega)]
        by_cases e : i = x
        · subst e
          rw [u1L_o _ _ (by omega), u1L_o _ _ (by omega), u1L_s, u1L_o _ _ (by omega), show 420 + 83 * p + 2 * i = 419 + 83 * p + 2 * i + 1 by omega, u1L_s, show 419 + 83 * p + 2 * i + 1 = 420 + 83 * p + 2 * i by omega, show 406 + 3 * p + 2 = 408 + 3 * p by omega, eu, ec]
          exact ⟨by omega, by omega, by omega, by omega⟩
        · rw [u1L_o _ _ (by omega), u1L_o _ _ (by omega), u1L_o _ _ (by omega), u1L_o _ _ (by omega), u1L_o _ _ (by omega), u1L_o _ _ (by omega), po _ (by omega), po _ (by omega)]
          obtain ⟨y1, y2, y3, y4⟩ := k4 i (by rcases xk with ⟨a, -⟩ | ⟨a, -⟩ <;> omega)
          exact ⟨y1, by omega, by omega, by omega⟩
      · rw [st _ (by omega) (by omega), st (420 + 83 * p + 2 * i) (by omega) (by omega), u1L_o _ _ (by omega), u1L_o _ _ (by omega), u1L_o _ _ (by omega), u1L_o _ _ (by omega), u1L_o _ _ (by omega), u1L_o _ _ (by omega), po _ (by omega), po _ (by omega)]
        exact k5 i (by rcases xk with ⟨a, -⟩ | ⟨a, b, -⟩ <;> omega) y1
