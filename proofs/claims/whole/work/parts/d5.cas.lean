/-! ===== the law's cases ===== -/
set_option maxRecDepth 20000 in
set_option maxHeartbeats 2000000 in
theorem lw_text {L : Nat} {xs : Nat → Int32} {i t rc : Nat} (hi : i + 6 ≤ L) (hL : L ≤ 3072) (ht : t ≤ 512) (hrc : 4 ≤ rc) {S : Mem} (hN : INV S t) : wp 156 pL_law (kL_law 156) hd0 [] (some (L, xs)) 8 (some .boolean) lwQ lwX (lwC rc i t) 100 (jmp 233 pL_law) rc (lwL i) [] S := by
  obtain ⟨tp, sg, fp, r, w, H, hC, hM, hW, hH⟩ := hN
  obtain ⟨n, m, hw⟩ := id hW
  have hf := hw.1
  have n5 := hf.1
  have m4 := hf.2.1
  have tp4 : tp ≤ 400 := hC.2.2.1.2.1
  refine Or.inr ⟨rfl, vj (j := 1) (by omega) hL, ⟨⟨by omega, Nat.le_of_ble_eq_true rfl, Nat.le_of_ble_eq_true rfl⟩, hc_text hC _ ?_ ?_ ?_ ?_⟩⟩
  · intro cE
    obtain ⟨hC1, g1⟩ := hC.ref (i := 1) (by decide)
    have hM1 := hM.cm g1
    refine Or.inr ⟨rfl, vj (j := 1) (by omega) hL, ⟨⟨Nat.zero_le _, Nat.le_of_ble_eq_true rfl, Nat.le_of_ble_eq_true rfl⟩, e_mText hM1 tp4 _ ?_ (fun len' rr' pl' hl' hx' hr' S' hM' hF hth => False.elim (cE ⟨len', Nat.zero_le _, hl', hx'⟩)) (fun len' wn' n1' m1' hl' hx' hr' hf1' hp' S' hM' hF hth => False.elim (cE ⟨len', Nat.zero_le _, hl', hx'⟩)) (fun len' wn' n1' m1' hl' hx' hr' hf1' hp' S' hM' hF hth => False.elim (cE ⟨len', Nat.zero_le _, hl', hx'⟩))⟩⟩
    intro cE' S' hM' hF hth
    exact ⟨⟨Nat.zero_le _, Nat.le_of_ble_eq_true rfl, Nat.le_of_ble_eq_true rfl⟩, e_mThrown S' (And.intro (fun _ => And.intro (fun _ => ⟨rfl, show rc ≤ rc - 1 - 0 - 0 + 4 by omega, ⟨rfl, rfl, rfl, rfl, rfl, trivial⟩, INV_q hC1 hF hM' hW hH⟩) (fun q => absurd q (by decide))) (fun q => absurd hth q))⟩
  · intro len rr pl hl hx hr S1 c1 f1
    have hC1 := c1.out (Int32.toInt64 ((rr - 10)))
    have hM1 := (hM.cm f1).out (Int32.toInt64 ((rr - 10)))
    refine Or.inr ⟨rfl, vj (j := 1) (by omega) hL, ⟨⟨Nat.zero_le _, Nat.le_of_ble_eq_true rfl, Nat.le_of_ble_eq_true rfl⟩, e_mText hM1 tp4 _ (fun cE' S' hM' hF hth => False.elim (cE' ⟨len, Nat.zero_le _, hl, hx⟩)) ?_ (fun len' wn' n1' m1' hl' hx' hr' hf1' hp' S' hM' hF hth => False.elim ((by obtain rfl := nI_un hx hx' (by omega) (by omega); exact absurd (hr.symm.trans hr') (by simp)))) (fun len' wn' n1' m1' hl' hx' hr' hf1' hp' S' hM' hF hth => False.elim ((by obtain rfl := nI_un hx hx' (by omega) (by omega); exact absurd (hr.symm.trans hr') (by simp))))⟩⟩
    intro len' rr' pl' hl' hx' hr' S' hM' hF hth
    obtain rfl : len' = len := nI_un hx' hx (by omega) (by omega)
    obtain ⟨rfl, rfl⟩ := inl_un hr' hr
    exact ⟨⟨Nat.zero_le _, Nat.le_of_ble_eq_true rfl, Nat.le_of_ble_eq_true rfl⟩, e_mThrown S' (And.intro (fun _ => And.intro (fun q => absurd rfl q) (fun _ => ⟨1, rfl, vp_nI (by decide), And.intro (fun _ => ⟨rfl, show rc ≤ rc - 1 - 0 - 0 + 4 by omega, ⟨rfl, rfl, rfl, rfl, rfl, trivial⟩, INV_q hC1 hF hM' hW hH⟩) (fun q => absurd ((lg_cmp_eq _ _).mpr ((congrFun (hF 155 (Or.inr (by decide))).2 _).trans (outW_v _ _))) q)⟩)) (fun q => absurd hth q))⟩
  · intro len wn n1 m1 hl hx hr hf1 hp S1 c1 f1
    have hC1 := c1.out (Int32.toInt64 ((4 - 10)))
    have hM1 := (hM.cm f1).out (Int32.toInt64 ((4 - 10)))
    refine Or.inr ⟨rfl, vj (j := 1) (by omega) hL, ⟨⟨Nat.zero_le _, Nat.le_of_ble_eq_true rfl, Nat.le_of_ble_eq_true rfl⟩, e_mText hM1 tp4 _ (fun cE' S' hM' hF hth => False.elim (cE' ⟨len, Nat.zero_le _, hl, hx⟩)) (fun len' rr' pl' hl' hx' hr' S' hM' hF hth => False.elim ((by obtain rfl := nI_un hx' hx (by omega) (by omega); exact absurd (hr'.symm.trans hr) (by simp)))) ?_ (fun len' wn' n1' m1' hl' hx' hr' hf1' hp' S' hM' hF hth => False.elim ((by obtain rfl := nI_un hx hx' (by omega) (by omega); obtain rfl := inr_un hr hr'; obtain ⟨rfl, rfl⟩ := WFt_un hf1 hf1'; exact hp hp')))⟩⟩
    intro len' wn' n1' m1' hl' hx' hr' hf1' hp' S' hM' hF hth
    obtain rfl : len' = len := nI_un hx' hx (by omega) (by omega)
    obtain rfl := inr_un hr' hr
    exact ⟨⟨Nat.zero_le _, Nat.le_of_ble_eq_true rfl, Nat.le_of_ble_eq_true rfl⟩, e_mThrown S' (And.intro (fun _ => And.intro (fun q => absurd rfl q) (fun _ => ⟨1, rfl, vp_nI (by decide), And.intro (fun _ => ⟨rfl, show rc ≤ rc - 1 - 0 - 0 + 4 by omega, ⟨rfl, rfl, rfl, rfl, rfl, trivial⟩, INV_q hC1 hF hM' hW hH⟩) (fun q => absurd ((lg_cmp_eq _ _).mpr ((congrFun (hF 155 (Or.inr (by decide))).2 _).trans (outW_v _ _))) q)⟩)) (fun q => absurd hth q))⟩
  · intro len wn n1 m1 hl hx hr hf1 hp S1 c1 f1
    have hC1 := c1.out (Int32.toInt64 ((wn 0).toInt32))
    have hM1 := (hM.cm f1).out (Int32.toInt64 ((wn 0).toInt32))
    refine Or.inr ⟨rfl, vj (j := 1) (by omega) hL, ⟨⟨Nat.zero_le _, Nat.le_of_ble_eq_true rfl, Nat.le_of_ble_eq_true rfl⟩, e_mText hM1 tp4 _ (fun cE' S' hM' hF hth => False.elim (cE' ⟨len, Nat.zero_le _, hl, hx⟩)) (fun len' rr' pl' hl' hx' hr' S' hM' hF hth => False.elim ((by obtain rfl := nI_un hx' hx (by omega) (by omega); exact absurd (hr'.symm.trans hr) (by simp)))) (fun len' wn' n1' m1' hl' hx' hr' hf1' hp' S' hM' hF hth => False.elim ((by obtain rfl := nI_un hx' hx (by omega) (by omega); obtain rfl := inr_un hr' hr; obtain ⟨rfl, rfl⟩ := WFt_un hf1' hf1; exact hp' hp))) ?_⟩⟩
    intro len' wn' n1' m1' hl' hx' hr' hf1' hp' S' hM' hF hth
    obtain rfl : len' = len := nI_un hx' hx (by omega) (by omega)
    obtain rfl := inr_un hr' hr
    exact ⟨⟨Nat.zero_le _, Nat.le_of_ble_eq_true rfl, Nat.le_of_ble_eq_true rfl⟩, e_mThrown S' (And.intro (fun _ => And.intro (fun q => absurd rfl q) (fun _ => ⟨1, rfl, vp_nI (by decide), And.intro (fun _ => ⟨rfl, show rc ≤ rc - 1 - 0 - 0 + 4 by omega, ⟨rfl, rfl, rfl, rfl, rfl, trivial⟩, INV_a hC1 hF hM' hW hH (text_WI hr hf1 hp)⟩) (fun q => absurd ((lg_cmp_eq _ _).mpr ((congrFun (hF 155 (Or.inr (by decide))).2 _).trans (outW_v _ _))) q)⟩)) (fun q => absurd hth q))⟩
set_option maxRecDepth 20000 in
set_option maxHeartbeats 2000000 in
theorem lw_start {L : Nat} {xs : Nat → Int32} {i t rc : Nat} (hi : i + 6 ≤ L) (hL : L ≤ 3072) (ht : t ≤ 512) (hrc : 4 ≤ rc) {S : Mem} (hN : INV S t) : wp 156 pL_law (kL_law 156) hd0 [] (some (L, xs)) 8 (some .boolean) lwQ lwX (lwC rc i t) 100 (jmp 302 pL_law) rc (lwL i) [] S := by
  obtain ⟨tp, sg, fp, r, w, H, hC, hM, hW, hH⟩ := hN
  obtain ⟨n, m, hw⟩ := id hW
  have hf := hw.1
  have n5 := hf.1
  have m4 := hf.2.1
  obtain ⟨s, s1, s2⟩ := hw.2.2.2.2.1
  refine Or.inr ⟨rfl, vj (j := 1) (by omega) hL, ⟨⟨by omega, Nat.le_of_ble_eq_true rfl, Nat.le_of_ble_eq_true rfl⟩, hc_start hC s2 s1 _ ?_ ?_ ?_⟩⟩
  · intro cA
    obtain ⟨hC1, g1⟩ := hC.ref (i := 1) (by decide)
    have hM1 := hM.cm g1
    refine Or.inr ⟨rfl, vj (j := 1) (by omega) hL, ⟨⟨Nat.zero_le _, Nat.le_of_ble_eq_true rfl, Nat.le_of_ble_eq_true rfl⟩, e_mStart hM1 s2 s1 _ ?_ (fun k' k1' k2' hx' hS' S' hM' hF hth => False.elim (cA ⟨k', k1', k2', hx'⟩)) (fun k' k1' k2' hx' hS' S' hM' hF hth => False.elim (cA ⟨k', k1', k2', hx'⟩))⟩⟩
    intro cA' S' hM' hF hth
    exact ⟨⟨Nat.zero_le _, Nat.le_of_ble_eq_true rfl, Nat.le_of_ble_eq_true rfl⟩, e_mThrown S' (And.intro (fun _ => And.intro (fun _ => ⟨rfl, show rc ≤ rc - 2 - 0 - 0 + 4 by omega, ⟨rfl, rfl, rfl, rfl, rfl, trivial⟩, INV_q hC1 hF hM' hW hH⟩) (fun q => absurd q (by decide))) (fun q => absurd hth q))⟩
  · intro k k1 k2 hx hS
    obtain ⟨hC1, g1⟩ := hC.ref (i := 2) (by decide)
    have hM1 := hM.cm g1
    refine Or.inr ⟨rfl, vj (j := 1) (by omega) hL, ⟨⟨Nat.zero_le _, Nat.le_of_ble_eq_true rfl, Nat.le_of_ble_eq_true rfl⟩, e_mStart hM1 s2 s1 _ (fun cA' S' hM' hF hth => False.elim (cA' ⟨k, k1, k2, hx⟩)) ?_ (fun k' k1' k2' hx' hS' S' hM' hF hth => False.elim ((by have e := nI_un hx hx' (by omega) (by omega); omega)))⟩⟩
    intro k' k1' k2' hx' hS' S' hM' hF hth
    exact ⟨⟨Nat.zero_le _, Nat.le_of_ble_eq_true rfl, Nat.le_of_ble_eq_true rfl⟩, e_mThrown S' (And.intro (fun _ => And.intro (fun _ => ⟨rfl, show rc ≤ rc - 2 - 0 - 0 + 4 by omega, ⟨rfl, rfl, rfl, rfl, rfl, trivial⟩, INV_q hC1 hF hM' hW hH⟩) (fun q => absurd q (by decide))) (fun q => absurd hth q))⟩
  · intro k k1 k2 hx hS S1 c1 f1
    have hC1 := c1.out (Int32.toInt64 ((nI (s + k))))
    have hM1 := (hM.cm f1).out (Int32.toInt64 ((nI (s + k))))
    refine Or.inr ⟨rfl, vj (j := 1) (by omega) hL, ⟨⟨Nat.zero_le _, Nat.le_of_ble_eq_true rfl, Nat.le_of_ble_eq_true rfl⟩, e_mStart hM1 s2 s1 _ (fun cA' S' hM' hF hth => False.elim (cA' ⟨k, k1, k2, hx⟩)) (fun k' k1' k2' hx' hS' S' hM' hF hth => False.elim ((by have e := nI_un hx' hx (by omega) (by omega); omega))) ?_⟩⟩
    intro k' k1' k2' hx' hS' S' hM' hF hth
    obtain rfl : k' = k := nI_un hx' hx (by omega) (by omega)
    exact ⟨⟨Nat.zero_le _, Nat.le_of_ble_eq_true rfl, Nat.le_of_ble_eq_true rfl⟩, e_mThrown S' (And.intro (fun _ => And.intro (fun q => absurd rfl q) (fun _ => ⟨1, rfl, vp_nI (by decide), And.intro (fun _ => ⟨rfl, show rc ≤ rc - 2 - 0 - 0 + 4 by omega, ⟨rfl, rfl, rfl, rfl, rfl, trivial⟩, INV_a hC1 hF hM' hW hH (start_WI hw s2 k2 hS)⟩) (fun q => absurd ((lg_cmp_eq _ _).mpr ((congrFun (hF 155 (Or.inr (by decide))).2 _).trans (outW_v _ _))) q)⟩)) (fun q => absurd hth q))⟩
set_option maxRecDepth 20000 in
set_option maxHeartbeats 2000000 in
theorem lw_spend {L : Nat} {xs : Nat → Int32} {i t rc : Nat} (hi : i + 6 ≤ L) (hL : L ≤ 3072) (ht : t ≤ 512) (hrc : 4 ≤ rc) {S : Mem} (hN : INV S t) : wp 156 pL_law (kL_law 156) hd0 [] (some (L, xs)) 8 (some .boolean) lwQ lwX (lwC rc i t) 100 (jmp 358 pL_law) rc (lwL i) [] S := by
  obtain ⟨tp, sg, fp, r, w, H, hC, hM, hW, hH⟩ := hN
  obtain ⟨n, m, hw⟩ := id hW
  have hf := hw.1
  have n5 := hf.1
  have m4 := hf.2.1
  refine Or.inr ⟨rfl, vj (j := 1) (by omega) hL, Or.inr ⟨rfl, vj (j := 2) (by omega) hL, Or.inr ⟨rfl, vj (j := 3) (by omega) hL, ⟨⟨by omega, Nat.le_of_ble_eq_true rfl, Nat.le_of_ble_eq_true rfl⟩, hc_spend hC hf (fun d hd => hw.com d hd) _ _ _ ?_ ?_ ?_ ?_⟩⟩⟩⟩
  · intro cE
    obtain ⟨hC1, g1⟩ := hC.ref (i := 0) (by decide)
    have hM1 := hM.cm g1
    refine Or.inr ⟨rfl, vj (j := 1) (by omega) hL, Or.inr ⟨rfl, vj (j := 2) (by omega) hL, Or.inr ⟨rfl, vj (j := 3) (by omega) hL, ⟨⟨Nat.zero_le _, Nat.le_of_ble_eq_true rfl, Nat.le_of_ble_eq_true rfl⟩, e_mSpend hM1 hf (fun d hd => hw.com d hd) _ _ _ ?_ (fun d' hd' hx' hq' cA' S' hM' hF hth => False.elim (cE ⟨d', hd', hx', hq'⟩)) (fun d' k' c' v' hd' hx' k1' k4' hy' hq' cc1' cc2' hz' hv' v8' hS' S' hM' hF hth => False.elim (cE ⟨d', hd', hx', hq'⟩)) (fun d' k' c' v' hd' hx' k1' k4' hy' hq' cc1' cc2' hz' hv' hS' S' hM' hF hth => False.elim (cE ⟨d', hd', hx', hq'⟩))⟩⟩⟩⟩
    intro cE' S' hM' hF hth
    exact ⟨⟨Nat.zero_le _, Nat.le_of_ble_eq_true rfl, Nat.le_of_ble_eq_true rfl⟩, e_mThrown S' (And.intro (fun _ => And.intro (fun _ => ⟨rfl, show rc ≤ rc - 4 - 0 - 0 + 4 by omega, ⟨rfl, rfl, rfl, rfl, rfl, trivial⟩, INV_q hC1 hF hM' hW hH⟩) (fun q => absurd q (by decide))) (fun q => absurd hth q))⟩
  · intro d hd hx hq cA
    obtain ⟨hC1, g1⟩ := hC.ref (i := 1) (by decide)
    have hM1 := hM.cm g1
    refine Or.inr ⟨rfl, vj (j := 1) (by omega) hL, Or.inr ⟨rfl, vj (j := 2) (by omega) hL, Or.inr ⟨rfl, vj (j := 3) (by omega) hL, ⟨⟨Nat.zero_le _, Nat.le_of_ble_eq_true rfl, Nat.le_of_ble_eq_true rfl⟩, e_mSpend hM1 hf (fun d hd => hw.com d hd) _ _ _ (fun cE' S' hM' hF hth => False.elim (cE' ⟨d, hd, hx, hq⟩)) ?_ (fun d' k' c' v' hd' hx' k1' k4' hy' hq' cc1' cc2' hz' hv' v8' hS' S' hM' hF hth => False.elim (cA ⟨c', cc1', cc2', hz'⟩)) (fun d' k' c' v' hd' hx' k1' k4' hy' hq' cc1' cc2' hz' hv' hS' S' hM' hF hth => False.elim (cA ⟨c', cc1', cc2', hz'⟩))⟩⟩⟩⟩
    intro d' hd' hx' hq' cA' S' hM' hF hth
    exact ⟨⟨Nat.zero_le _, Nat.le_of_ble_eq_true rfl, Nat.le_of_ble_eq_true rfl⟩, e_mThrown S' (And.intro (fun _ => And.intro (fun _ => ⟨rfl, show rc ≤ rc - 4 - 0 - 0 + 4 by omega, ⟨rfl, rfl, rfl, rfl, rfl, trivial⟩, INV_q hC1 hF hM' hW hH⟩) (fun q => absurd q (by decide))) (fun q => absurd hth q))⟩
  · intro d k c v hd hx k1 k4 hy hq cc1 cc2 hz hv v8 hS
    obtain ⟨hC1, g1⟩ := hC.ref (i := 2) (by decide)
    have hM1 := hM.cm g1
    refine Or.inr ⟨rfl, vj (j := 1) (by omega) hL, Or.inr ⟨rfl, vj (j := 2) (by omega) hL, Or.inr ⟨rfl, vj (j := 3) (by omega) hL, ⟨⟨Nat.zero_le _, Nat.le_of_ble_eq_true rfl, Nat.le_of_ble_eq_true rfl⟩, e_mSpend hM1 hf (fun d hd => hw.com d hd) _ _ _ (fun cE' S' hM' hF hth => False.elim (cE' ⟨d, hd, hx, hq⟩)) (fun d' hd' hx' hq' cA' S' hM' hF hth => False.elim (cA' ⟨c, cc1, cc2, hz⟩)) ?_ (fun d' k' c' v' hd' hx' k1' k4' hy' hq' cc1' cc2' hz' hv' hS' S' hM' hF hth => False.elim ((by obtain rfl := nI_un hx hx' (by omega) (by omega); obtain rfl := nI_un hy hy' (by omega) (by omega); have e := nI_un hz hz' (by omega) (by omega); have e2 := (lN_eq (by omega) (by omega)).mp (hv.symm.trans hv'); omega)))⟩⟩⟩⟩
    intro d' k' c' v' hd' hx' k1' k4' hy' hq' cc1' cc2' hz' hv' v8' hS' S' hM' hF hth
    exact ⟨⟨Nat.zero_le _, Nat.le_of_ble_eq_true rfl, Nat.le_of_ble_eq_true rfl⟩, e_mThrown S' (And.intro (fun _ => And.intro (fun _ => ⟨rfl, show rc ≤ rc - 4 - 0 - 0 + 4 by omega, ⟨rfl, rfl, rfl, rfl, rfl, trivial⟩, INV_q hC1 hF hM' hW hH⟩) (fun q => absurd q (by decide))) (fun q => absurd hth q))⟩
  · intro d k c v hd hx k1 k4 hy hq cc1 cc2 hz hv hS S1 c1 f1
    have hC1 := c1.out (Int32.toInt64 ((nI (v + c))))
    have hM1 := (hM.cm f1).out (Int32.toInt64 ((nI (v + c))))
    refine Or.inr ⟨rfl, vj (j := 1) (by omega) hL, Or.inr ⟨rfl, vj (j := 2) (by omega) hL, Or.inr ⟨rfl, vj (j := 3) (by omega) hL, ⟨⟨Nat.zero_le _, Nat.le_of_ble_eq_true rfl, Nat.le_of_ble_eq_true rfl⟩, e_mSpend hM1 hf (fun d hd => hw.com d hd) _ _ _ (fun cE' S' hM' hF hth => False.elim (cE' ⟨d, hd, hx, hq⟩)) (fun d' hd' hx' hq' cA' S' hM' hF hth => False.elim (cA' ⟨c, cc1, cc2, hz⟩)) (fun d' k' c' v' hd' hx' k1' k4' hy' hq' cc1' cc2' hz' hv' v8' hS' S' hM' hF hth => False.elim ((by obtain rfl := nI_un hx' hx (by omega) (by omega); obtain rfl := nI_un hy' hy (by omega) (by omega); have e := nI_un hz' hz (by omega) (by omega); have e2 := (lN_eq (by omega) (by omega)).mp (hv'.symm.trans hv); omega))) ?_⟩⟩⟩⟩
    intro d' k' c' v' hd' hx' k1' k4' hy' hq' cc1' cc2' hz' hv' hS' S' hM' hF hth
    obtain rfl : d' = d := nI_un hx' hx (by omega) (by omega)
    obtain rfl : k' = k := nI_un hy' hy (by omega) (by omega)
    obtain rfl : c' = c := nI_un hz' hz (by omega) (by omega)
    obtain rfl : v' = v := (lN_eq (by omega) (by omega)).mp (hv'.symm.trans hv)
    exact ⟨⟨Nat.zero_le _, Nat.le_of_ble_eq_true rfl, Nat.le_of_ble_eq_true rfl⟩, e_mThrown S' (And.intro (fun _ => And.intro (fun q => absurd rfl q) (fun _ => ⟨1, rfl, vp_nI (by decide), And.intro (fun _ => ⟨rfl, show rc ≤ rc - 4 - 0 - 0 + 4 by omega, ⟨rfl, rfl, rfl, rfl, rfl, trivial⟩, INV_a hC1 hF hM' hW hH (spend_WI hw hd k1 k4 hv hS)⟩) (fun q => absurd ((lg_cmp_eq _ _).mpr ((congrFun (hF 155 (Or.inr (by decide))).2 _).trans (outW_v _ _))) q)⟩)) (fun q => absurd hth q))⟩
set_option maxRecDepth 20000 in
set_option maxHeartbeats 2000000 in
theorem lw_lost {L : Nat} {xs : Nat → Int32} {i t rc : Nat} (hi : i + 6 ≤ L) (hL : L ≤ 3072) (ht : t ≤ 512) (hrc : 4 ≤ rc) {S : Mem} (hN : INV S t) : wp 156 pL_law (kL_law 156) hd0 [] (some (L, xs)) 8 (some .boolean) lwQ lwX (lwC rc i t) 100 (jmp 438 pL_law) rc (lwL i) [] S := by
  obtain ⟨tp, sg, fp, r, w, H, hC, hM, hW, hH⟩ := hN
  obtain ⟨n, m, hw⟩ := id hW
  have hf := hw.1
  have n5 := hf.1
  have m4 := hf.2.1
  refine Or.inr ⟨rfl, vj (j := 1) (by omega) hL, Or.inr ⟨rfl, vj (j := 2) (by omega) hL, ⟨⟨by omega, Nat.le_of_ble_eq_true rfl, Nat.le_of_ble_eq_true rfl⟩, hc_lost hC hf.2.2.1 hf.1 _ _ ?_ ?_ ?_⟩⟩⟩
  · intro cE
    obtain ⟨hC1, g1⟩ := hC.ref (i := 0) (by decide)
    have hM1 := hM.cm g1
    refine Or.inr ⟨rfl, vj (j := 1) (by omega) hL, Or.inr ⟨rfl, vj (j := 2) (by omega) hL, ⟨⟨Nat.zero_le _, Nat.le_of_ble_eq_true rfl, Nat.le_of_ble_eq_true rfl⟩, e_mLost hM1 hf.2.2.1 hf.1 _ _ ?_ (fun d' hd' hx' cA' S' hM' hF hth => False.elim (cE ⟨d', hd', hx'⟩)) (fun d' k' hd' hx' hk' hy' S' hM' hF hth => False.elim (cE ⟨d', hd', hx'⟩))⟩⟩⟩
    intro cE' S' hM' hF hth
    exact ⟨⟨Nat.zero_le _, Nat.le_of_ble_eq_true rfl, Nat.le_of_ble_eq_true rfl⟩, e_mThrown S' (And.intro (fun _ => And.intro (fun _ => ⟨rfl, show rc ≤ rc - 2 - 0 - 0 + 4 by omega, ⟨rfl, rfl, rfl, rfl, rfl, trivial⟩, INV_q hC1 hF hM' hW hH⟩) (fun q => absurd q (by decide))) (fun q => absurd hth q))⟩
  · intro d hd hx cA
    obtain ⟨hC1, g1⟩ := hC.ref (i := 1) (by decide)
    have hM1 := hM.cm g1
    refine Or.inr ⟨rfl, vj (j := 1) (by omega) hL, Or.inr ⟨rfl, vj (j := 2) (by omega) hL, ⟨⟨Nat.zero_le _, Nat.le_of_ble_eq_true rfl, Nat.le_of_ble_eq_true rfl⟩, e_mLost hM1 hf.2.2.1 hf.1 _ _ (fun cE' S' hM' hF hth => False.elim (cE' ⟨d, hd, hx⟩)) ?_ (fun d' k' hd' hx' hk' hy' S' hM' hF hth => False.elim (cA ⟨k', Nat.zero_le _, hk', hy'⟩))⟩⟩⟩
    intro d' hd' hx' cA' S' hM' hF hth
    exact ⟨⟨Nat.zero_le _, Nat.le_of_ble_eq_true rfl, Nat.le_of_ble_eq_true rfl⟩, e_mThrown S' (And.intro (fun _ => And.intro (fun _ => ⟨rfl, show rc ≤ rc - 2 - 0 - 0 + 4 by omega, ⟨rfl, rfl, rfl, rfl, rfl, trivial⟩, INV_q hC1 hF hM' hW hH⟩) (fun q => absurd q (by decide))) (fun q => absurd hth q))⟩
  · intro d k hd hx hk hy S1 c1 f1
    have hC1 := c1.out (Int32.toInt64 ((w (70 + 7 * d)).toInt32))
    have hM1 := (hM.cm f1).out (Int32.toInt64 ((w (70 + 7 * d)).toInt32))
    refine Or.inr ⟨rfl, vj (j := 1) (by omega) hL, Or.inr ⟨rfl, vj (j := 2) (by omega) hL, ⟨⟨Nat.zero_le _, Nat.le_of_ble_eq_true rfl, Nat.le_of_ble_eq_true rfl⟩, e_mLost hM1 hf.2.2.1 hf.1 _ _ (fun cE' S' hM' hF hth => False.elim (cE' ⟨d, hd, hx⟩)) (fun d' hd' hx' cA' S' hM' hF hth => False.elim (cA' ⟨k, Nat.zero_le _, hk, hy⟩)) ?_⟩⟩⟩
    intro d' k' hd' hx' hk' hy' S' hM' hF hth
    obtain rfl : d' = d := nI_un hx' hx (by omega) (by omega)
    obtain rfl : k' = k := nI_un hy' hy (by omega) (by omega)
    exact ⟨⟨Nat.zero_le _, Nat.le_of_ble_eq_true rfl, Nat.le_of_ble_eq_true rfl⟩, e_mThrown S' (And.intro (fun _ => And.intro (fun q => absurd rfl q) (fun _ => ⟨1, rfl, vp_nI (by decide), And.intro (fun _ => ⟨rfl, show rc ≤ rc - 2 - 0 - 0 + 4 by omega, ⟨rfl, rfl, rfl, rfl, rfl, trivial⟩, INV_a hC1 hF hM' hW hH (lost_WI hw hd hk)⟩) (fun q => absurd ((lg_cmp_eq _ _).mpr ((congrFun (hF 155 (Or.inr (by decide))).2 _).trans (outW_v _ _))) q)⟩)) (fun q => absurd hth q))⟩
set_option maxRecDepth 20000 in
set_option maxHeartbeats 2000000 in
theorem lw_left {L : Nat} {xs : Nat → Int32} {i t rc : Nat} (hi : i + 6 ≤ L) (hL : L ≤ 3072) (ht : t ≤ 512) (hrc : 4 ≤ rc) {S : Mem} (hN : INV S t) : wp 156 pL_law (kL_law 156) hd0 [] (some (L, xs)) 8 (some .boolean) lwQ lwX (lwC rc i t) 100 (jmp 506 pL_law) rc (lwL i) [] S := by
  obtain ⟨tp, sg, fp, r, w, H, hC, hM, hW, hH⟩ := hN
  obtain ⟨n, m, hw⟩ := id hW
  have hf := hw.1
  have n5 := hf.1
  have m4 := hf.2.1
  refine Or.inr ⟨rfl, vj (j := 1) (by omega) hL, Or.inr ⟨rfl, vj (j := 2) (by omega) hL, Or.inr ⟨rfl, vj (j := 3) (by omega) hL, ⟨⟨by omega, Nat.le_of_ble_eq_true rfl, Nat.le_of_ble_eq_true rfl⟩, hc_left hC hf.2.2.1 hf.1 _ _ _ ?_ ?_ ?_⟩⟩⟩⟩
  · intro cE
    obtain ⟨hC1, g1⟩ := hC.ref (i := 0) (by decide)
    have hM1 := hM.cm g1
    refine Or.inr ⟨rfl, vj (j := 1) (by omega) hL, Or.inr ⟨rfl, vj (j := 2) (by omega) hL, Or.inr ⟨rfl, vj (j := 3) (by omega) hL, ⟨⟨Nat.zero_le _, Nat.le_of_ble_eq_true rfl, Nat.le_of_ble_eq_true rfl⟩, e_mLeft hM1 hf.2.2.1 hf.1 _ _ _ ?_ (fun d' hd' hx' cA' S' hM' hF hth => False.elim (cE ⟨d', hd', hx'⟩)) (fun d' k' j' hd' hx' hk' hy' hj' hz' S' hM' hF hth => False.elim (cE ⟨d', hd', hx'⟩))⟩⟩⟩⟩
    intro cE' S' hM' hF hth
    exact ⟨⟨Nat.zero_le _, Nat.le_of_ble_eq_true rfl, Nat.le_of_ble_eq_true rfl⟩, e_mThrown S' (And.intro (fun _ => And.intro (fun _ => ⟨rfl, show rc ≤ rc - 3 - 0 - 0 + 4 by omega, ⟨rfl, rfl, rfl, rfl, rfl, trivial⟩, INV_q hC1 hF hM' hW hH⟩) (fun q => absurd q (by decide))) (fun q => absurd hth q))⟩
  · intro d hd hx cA
    obtain ⟨hC1, g1⟩ := hC.ref (i := 1) (by decide)
    have hM1 := hM.cm g1
    refine Or.inr ⟨rfl, vj (j := 1) (by omega) hL, Or.inr ⟨rfl, vj (j := 2) (by omega) hL, Or.inr ⟨rfl, vj (j := 3) (by omega) hL, ⟨⟨Nat.zero_le _, Nat.le_of_ble_eq_true rfl, Nat.le_of_ble_eq_true rfl⟩, e_mLeft hM1 hf.2.2.1 hf.1 _ _ _ (fun cE' S' hM' hF hth => False.elim (cE' ⟨d, hd, hx⟩)) ?_ (fun d' k' j' hd' hx' hk' hy' hj' hz' S' hM' hF hth => False.elim (cA ⟨⟨k', Nat.zero_le _, hk', hy'⟩, ⟨j', Nat.zero_le _, hj', hz'⟩⟩))⟩⟩⟩⟩
    intro d' hd' hx' cA' S' hM' hF hth
    exact ⟨⟨Nat.zero_le _, Nat.le_of_ble_eq_true rfl, Nat.le_of_ble_eq_true rfl⟩, e_mThrown S' (And.intro (fun _ => And.intro (fun _ => ⟨rfl, show rc ≤ rc - 3 - 0 - 0 + 4 by omega, ⟨rfl, rfl, rfl, rfl, rfl, trivial⟩, INV_q hC1 hF hM' hW hH⟩) (fun q => absurd q (by decide))) (fun q => absurd hth q))⟩
  · intro d k j hd hx hk hy hj hz S1 c1 f1
    have hC1 := c1.out (Int32.toInt64 ((w (71 + 7 * d)).toInt32))
    have hM1 := (hM.cm f1).out (Int32.toInt64 ((w (71 + 7 * d)).toInt32))
    refine Or.inr ⟨rfl, vj (j := 1) (by omega) hL, Or.inr ⟨rfl, vj (j := 2) (by omega) hL, Or.inr ⟨rfl, vj (j := 3) (by omega) hL, ⟨⟨Nat.zero_le _, Nat.le_of_ble_eq_true rfl, Nat.le_of_ble_eq_true rfl⟩, e_mLeft hM1 hf.2.2.1 hf.1 _ _ _ (fun cE' S' hM' hF hth => False.elim (cE' ⟨d, hd, hx⟩)) (fun d' hd' hx' cA' S' hM' hF hth => False.elim (cA' ⟨⟨k, Nat.zero_le _, hk, hy⟩, ⟨j, Nat.zero_le _, hj, hz⟩⟩)) ?_⟩⟩⟩⟩
    intro d' k' j' hd' hx' hk' hy' hj' hz' S' hM' hF hth
    obtain rfl : d' = d := nI_un hx' hx (by omega) (by omega)
    obtain rfl : k' = k := nI_un hy' hy (by omega) (by omega)
    obtain rfl : j' = j := nI_un hz' hz (by omega) (by omega)
    exact ⟨⟨Nat.zero_le _, Nat.le_of_ble_eq_true rfl, Nat.le_of_ble_eq_true rfl⟩, e_mThrown S' (And.intro (fun _ => And.intro (fun q => absurd rfl q) (fun _ => ⟨1, rfl, vp_nI (by decide), And.intro (fun _ => ⟨rfl, show rc ≤ rc - 3 - 0 - 0 + 4 by omega, ⟨rfl, rfl, rfl, rfl, rfl, trivial⟩, INV_a hC1 hF hM' hW hH (left_WI hw hd hk hj)⟩) (fun q => absurd ((lg_cmp_eq _ _).mpr ((congrFun (hF 155 (Or.inr (by decide))).2 _).trans (outW_v _ _))) q)⟩)) (fun q => absurd hth q))⟩
set_option maxRecDepth 20000 in
set_option maxHeartbeats 2000000 in
theorem lw_close {L : Nat} {xs : Nat → Int32} {i t rc : Nat} (hi : i + 6 ≤ L) (hL : L ≤ 3072) (ht : t ≤ 512) (hrc : 4 ≤ rc) {S : Mem} (hN : INV S t) : wp 156 pL_law (kL_law 156) hd0 [] (some (L, xs)) 8 (some .boolean) lwQ lwX (lwC rc i t) 100 (jmp 586 pL_law) rc (lwL i) [] S := by
  obtain ⟨tp, sg, fp, r, w, H, hC, hM, hW, hH⟩ := hN
  obtain ⟨w', ew⟩ : ∃ w', cpr S.2 141 143 754 143 = w' := ⟨_, rfl⟩
  have rw' : ∀ i, i < 754 → w' i = w i := fun i hi => by rw [← ew]; exact (cpr_i hi).trans (hM.2.2.2.1 i hi)
  have hC := hC.row rw'
  have hM := hM.row rw'
  have hW := hW.row rw'
  clear rw'
  have mE : ∀ T : Mem, (∀ c, c < 155 → 138 ≤ c → T.2 c = S.2 c) → cpr T.2 141 143 754 143 = w' := fun T h => by rw [← ew]; exact cpr_cg (h 141 (by decide) (by decide)) (h 143 (by decide) (by decide))
  obtain ⟨n, m, hw⟩ := id hW
  obtain ⟨l, rfl⟩ : ∃ l, n = l + 1 := ⟨n - 1, by have := hw.2.1.1; omega⟩
  have hf := hw.1
  have n5 := hf.1
  have m4 := hf.2.1
  refine ⟨⟨by omega, Nat.le_of_ble_eq_true rfl, Nat.le_of_ble_eq_true rfl⟩, hc_close hC hf hw.2.1 hw.2.2.1 (fun d hd => (hw.2.2.2.2.2.1 d hd).1) (fun p hp => (hw.2.2.2.2.2.2.1 p hp).k) hw.2.2.2.1 (by omega) hw.2.2.2.2.1 ?_ ?_⟩
  · intro nok S1 c1 f1
    obtain ⟨hC1, g1⟩ := c1.ref (i := 2) (by decide)
    have hM1 := hM.cm (f1.trans g1)
    refine ⟨⟨Nat.zero_le _, Nat.le_of_ble_eq_true rfl, Nat.le_of_ble_eq_true rfl⟩, e_mClose hM1 hf hw.2.2.1 hw.2.1.2.2 hw.lay (mE _ (fun c a b => ((f1.trans g1) c b).2)) ?_ (fun ok' S' hM' hF hth => False.elim (nok ok'))⟩
    intro nok' S' hM' hF hth
    exact ⟨⟨Nat.zero_le _, Nat.le_of_ble_eq_true rfl, Nat.le_of_ble_eq_true rfl⟩, e_mThrown S' (And.intro (fun _ => And.intro (fun _ => ⟨rfl, show rc ≤ rc - 1 - 0 - 0 + 4 by omega, ⟨rfl, rfl, rfl, rfl, rfl, trivial⟩, INV_q hC1 hF hM' hW hH⟩) (fun q => absurd q (by decide))) (fun q => absurd hth q))⟩
  · intro ok S1 c1 f1
    have hC1 := c1.out ((cloW w' l m ((131 + 55 * l) + 54)))
    have hM1 := (hM.cm f1).out ((cloW w' l m ((131 + 55 * l) + 54)))
    refine ⟨⟨Nat.zero_le _, Nat.le_of_ble_eq_true rfl, Nat.le_of_ble_eq_true rfl⟩, e_mClose hM1 hf hw.2.2.1 hw.2.1.2.2 hw.lay (mE _ (fun c a b => (u2_other _ _ _ (by omega)).trans (f1 c b).2)) (fun nok' S' hM' hF hth => False.elim (nok' ok)) ?_⟩
    intro ok' S' hM' hF hth
    exact ⟨⟨Nat.zero_le _, Nat.le_of_ble_eq_true rfl, Nat.le_of_ble_eq_true rfl⟩, e_mThrown S' (And.intro (fun _ => And.intro (fun q => absurd rfl q) (fun _ => ⟨1, rfl, vp_nI (by decide), And.intro (fun _ => ⟨rfl, show rc ≤ rc - 1 - 0 - 0 + 4 by omega, ⟨rfl, rfl, rfl, rfl, rfl, trivial⟩, INV_a hC1 hF hM' hW hH (close_WI hC hw ht ok)⟩) (fun q => absurd ((lg_cmp_eq _ _).mpr ((congrFun (hF 155 (Or.inr (by decide))).2 _).trans (outW_v _ _))) q)⟩)) (fun q => absurd hth q))⟩
set_option maxRecDepth 20000 in
set_option maxHeartbeats 2000000 in
theorem lw_sell {L : Nat} {xs : Nat → Int32} {i t rc : Nat} (hi : i + 6 ≤ L) (hL : L ≤ 3072) (ht : t ≤ 512) (hrc : 4 ≤ rc) {S : Mem} (hN : INV S t) : wp 156 pL_law (kL_law 156) hd0 [] (some (L, xs)) 8 (some .boolean) lwQ lwX (lwC rc i t) 100 (jmp 629 pL_law) rc (lwL i) [] S := by
  obtain ⟨tp, sg, fp, r, w, H, hC, hM, hW, hH⟩ := hN
  obtain ⟨n, m, hw⟩ := id hW
  have hf := hw.1
  have n5 := hf.1
  have m4 := hf.2.1
  refine Or.inr ⟨rfl, vj (j := 1) (by omega) hL, Or.inr ⟨rfl, vj (j := 2) (by omega) hL, ⟨⟨by omega, Nat.le_of_ble_eq_true rfl, Nat.le_of_ble_eq_true rfl⟩, hc_sell hC hf (hw.sto ht) _ _ ?_ ?_ ?_ ?_⟩⟩⟩
  · intro cE
    obtain ⟨hC1, g1⟩ := hC.ref (i := 0) (by decide)
    have hM1 := hM.cm g1
    refine Or.inr ⟨rfl, vj (j := 1) (by omega) hL, Or.inr ⟨rfl, vj (j := 2) (by omega) hL, ⟨⟨Nat.zero_le _, Nat.le_of_ble_eq_true rfl, Nat.le_of_ble_eq_true rfl⟩, e_mSell hM1 hf (hw.sto ht) _ _ ?_ (fun p' hp' hx' cA' S' hM' hF hth => False.elim (cE ⟨p', hp', hx'⟩)) (fun p' u' k' hp' hx' u1' u2' hy' ho' hS' S' hM' hF hth => False.elim (cE ⟨p', hp', hx'⟩)) (fun p' u' k' g' hp' hx' u1' u2' hy' ho' hS' hg' S' hM' hF hth => False.elim (cE ⟨p', hp', hx'⟩))⟩⟩⟩
    intro cE' S' hM' hF hth
    exact ⟨⟨Nat.zero_le _, Nat.le_of_ble_eq_true rfl, Nat.le_of_ble_eq_true rfl⟩, e_mThrown S' (And.intro (fun _ => And.intro (fun _ => ⟨rfl, show rc ≤ rc - 3 - 0 - 0 + 4 by omega, ⟨rfl, rfl, rfl, rfl, rfl, trivial⟩, INV_q hC1 hF hM' hW hH⟩) (fun q => absurd q (by decide))) (fun q => absurd hth q))⟩
  · intro p hp hx cA
    obtain ⟨hC1, g1⟩ := hC.ref (i := 1) (by decide)
    have hM1 := hM.cm g1
    refine Or.inr ⟨rfl, vj (j := 1) (by omega) hL, Or.inr ⟨rfl, vj (j := 2) (by omega) hL, ⟨⟨Nat.zero_le _, Nat.le_of_ble_eq_true rfl, Nat.le_of_ble_eq_true rfl⟩, e_mSell hM1 hf (hw.sto ht) _ _ (fun cE' S' hM' hF hth => False.elim (cE' ⟨p, hp, hx⟩)) ?_ (fun p' u' k' hp' hx' u1' u2' hy' ho' hS' S' hM' hF hth => False.elim (cA ⟨u', u1', u2', hy'⟩)) (fun p' u' k' g' hp' hx' u1' u2' hy' ho' hS' hg' S' hM' hF hth => False.elim (cA ⟨u', u1', u2', hy'⟩))⟩⟩⟩
    intro p' hp' hx' cA' S' hM' hF hth
    exact ⟨⟨Nat.zero_le _, Nat.le_of_ble_eq_true rfl, Nat.le_of_ble_eq_true rfl⟩, e_mThrown S' (And.intro (fun _ => And.intro (fun _ => ⟨rfl, show rc ≤ rc - 3 - 0 - 0 + 4 by omega, ⟨rfl, rfl, rfl, rfl, rfl, trivial⟩, INV_q hC1 hF hM' hW hH⟩) (fun q => absurd q (by decide))) (fun q => absurd hth q))⟩
  · intro p u k hp hx u1 u2 hy ho hS
    obtain ⟨hC1, g1⟩ := hC.ref (i := 2) (by decide)
    have hM1 := hM.cm g1
    refine Or.inr ⟨rfl, vj (j := 1) (by omega) hL, Or.inr ⟨rfl, vj (j := 2) (by omega) hL, ⟨⟨Nat.zero_le _, Nat.le_of_ble_eq_true rfl, Nat.le_of_ble_eq_true rfl⟩, e_mSell hM1 hf (hw.sto ht) _ _ (fun cE' S' hM' hF hth => False.elim (cE' ⟨p, hp, hx⟩)) (fun p' hp' hx' cA' S' hM' hF hth => False.elim (cA' ⟨u, u1, u2, hy⟩)) ?_ (fun p' u' k' g' hp' hx' u1' u2' hy' ho' hS' hg' S' hM' hF hth => False.elim ((by obtain rfl := nI_un hx hx' (by omega) (by omega); obtain rfl := nI_un hy hy' (by omega) (by omega); obtain rfl := stO_un ho ho'; omega)))⟩⟩⟩
    intro p' u' k' hp' hx' u1' u2' hy' ho' hS' S' hM' hF hth
    exact ⟨⟨Nat.zero_le _, Nat.le_of_ble_eq_true rfl, Nat.le_of_ble_eq_true rfl⟩, e_mThrown S' (And.intro (fun _ => And.intro (fun _ => ⟨rfl, show rc ≤ rc - 3 - 0 - 0 + 4 by omega, ⟨rfl, rfl, rfl, rfl, rfl, trivial⟩, INV_q hC1 hF hM' hW hH⟩) (fun q => absurd q (by decide))) (fun q => absurd hth q))⟩
  · intro p u k g hp hx u1 u2 hy ho hS hg S1 c1 f1
    have hC1 := c1.out ((slV w p k u g))
    have hM1 := (hM.cm f1).out ((slV w p k u g))
    refine Or.inr ⟨rfl, vj (j := 1) (by omega) hL, Or.inr ⟨rfl, vj (j := 2) (by omega) hL, ⟨⟨Nat.zero_le _, Nat.le_of_ble_eq_true rfl, Nat.le_of_ble_eq_true rfl⟩, e_mSell hM1 hf (hw.sto ht) _ _ (fun cE' S' hM' hF hth => False.elim (cE' ⟨p, hp, hx⟩)) (fun p' hp' hx' cA' S' hM' hF hth => False.elim (cA' ⟨u, u1, u2, hy⟩)) (fun p' u' k' hp' hx' u1' u2' hy' ho' hS' S' hM' hF hth => False.elim ((by obtain rfl := nI_un hx' hx (by omega) (by omega); obtain rfl := nI_un hy' hy (by omega) (by omega); obtain rfl := stO_un ho' ho; omega))) ?_⟩⟩⟩
    intro p' u' k' g' hp' hx' u1' u2' hy' ho' hS' hg' S' hM' hF hth
    obtain rfl : p' = p := nI_un hx' hx (by omega) (by omega)
    obtain rfl : u' = u := nI_un hy' hy (by omega) (by omega)
    obtain rfl : k' = k := stO_un ho' ho
    obtain rfl : g' = g := slR.un (fun i hi => (ho.2.2.1 i hi).2.2.1) hg' hg
    exact ⟨⟨Nat.zero_le _, Nat.le_of_ble_eq_true rfl, Nat.le_of_ble_eq_true rfl⟩, e_mThrown S' (And.intro (fun _ => And.intro (fun q => absurd rfl q) (fun _ => ⟨1, rfl, vp_nI (by decide), And.intro (fun _ => ⟨rfl, show rc ≤ rc - 3 - 0 - 0 + 4 by omega, ⟨rfl, rfl, rfl, rfl, rfl, trivial⟩, INV_a hC1 hF hM' hW hH (sell_WI hw ht hp ho hg)⟩) (fun q => absurd ((lg_cmp_eq _ _).mpr ((congrFun (hF 155 (Or.inr (by decide))).2 _).trans (outW_v _ _))) q)⟩)) (fun q => absurd hth q))⟩
set_option maxRecDepth 20000 in
set_option maxHeartbeats 2000000 in
theorem lw_told {L : Nat} {xs : Nat → Int32} {i t rc : Nat} (hi : i + 6 ≤ L) (hL : L ≤ 3072) (ht : t ≤ 512) (hrc : 4 ≤ rc) {S : Mem} (hN : INV S t) : wp 156 pL_law (kL_law 156) hd0 [] (some (L, xs)) 8 (some .boolean) lwQ lwX (lwC rc i t) 100 (jmp 709 pL_law) rc (lwL i) [] S := by
  obtain ⟨tp, sg, fp, r, w, H, hC, hM, hW, hH⟩ := hN
  obtain ⟨n, m, hw⟩ := id hW
  have hf := hw.1
  have n5 := hf.1
  have m4 := hf.2.1
  refine Or.inr ⟨rfl, vj (j := 1) (by omega) hL, ⟨⟨by omega, Nat.le_of_ble_eq_true rfl, Nat.le_of_ble_eq_true rfl⟩, hc_told hC _ ?_ ?_⟩⟩
  · intro cA
    obtain ⟨hC1, g1⟩ := hC.ref (i := 1) (by decide)
    have hM1 := hM.cm g1
    refine Or.inr ⟨rfl, vj (j := 1) (by omega) hL, ⟨⟨Nat.zero_le _, Nat.le_of_ble_eq_true rfl, Nat.le_of_ble_eq_true rfl⟩, e_mTold hM1 hf _ ?_ (fun k' hk' hx' S' hM' hF hth => False.elim (cA ⟨k', Nat.zero_le _, hk', hx'⟩))⟩⟩
    intro cA' S' hM' hF hth
    exact ⟨⟨Nat.zero_le _, Nat.le_of_ble_eq_true rfl, Nat.le_of_ble_eq_true rfl⟩, e_mThrown S' (And.intro (fun _ => And.intro (fun _ => ⟨rfl, show rc ≤ rc - 1 - 0 - 0 + 4 by omega, ⟨rfl, rfl, rfl, rfl, rfl, trivial⟩, INV_q hC1 hF hM' hW hH⟩) (fun q => absurd q (by decide))) (fun q => absurd hth q))⟩
  · intro k hk hx
    have hC1 := hC.out (Int32.toInt64 ((tdV w tp H.length k)))
    have hM1 := hM.out (Int32.toInt64 ((tdV w tp H.length k)))
    refine Or.inr ⟨rfl, vj (j := 1) (by omega) hL, ⟨⟨Nat.zero_le _, Nat.le_of_ble_eq_true rfl, Nat.le_of_ble_eq_true rfl⟩, e_mTold hM1 hf _ (fun cA' S' hM' hF hth => False.elim (cA' ⟨k, Nat.zero_le _, hk, hx⟩)) ?_⟩⟩
    intro k' hk' hx' S' hM' hF hth
    obtain rfl : k' = k := nI_un hx' hx (by omega) (by omega)
    exact ⟨⟨Nat.zero_le _, Nat.le_of_ble_eq_true rfl, Nat.le_of_ble_eq_true rfl⟩, e_mThrown S' (And.intro (fun _ => And.intro (fun q => absurd rfl q) (fun _ => ⟨1, rfl, vp_nI (by decide), And.intro (fun _ => ⟨rfl, show rc ≤ rc - 1 - 0 - 0 + 4 by omega, ⟨rfl, rfl, rfl, rfl, rfl, trivial⟩, INV_q hC1 hF hM' hW hH⟩) (fun q => absurd ((lg_cmp_eq _ _).mpr ((congrFun (hF 155 (Or.inr (by decide))).2 _).trans (outW_v _ _))) q)⟩)) (fun q => absurd hth q))⟩
set_option maxRecDepth 20000 in
set_option maxHeartbeats 2000000 in
theorem lw_department {L : Nat} {xs : Nat → Int32} {i t rc : Nat} (hi : i + 6 ≤ L) (hL : L ≤ 3072) (ht : t ≤ 512) (hrc : 4 ≤ rc) {S : Mem} (hN : INV S t) : wp 156 pL_law (kL_law 156) hd0 [] (some (L, xs)) 8 (some .boolean) lwQ lwX (lwC rc i t) 100 (jmp 765 pL_law) rc (lwL i) [] S := by
  obtain ⟨tp, sg, fp, r, w, H, hC, hM, hW, hH⟩ := hN
  obtain ⟨n, m, hw⟩ := id hW
  have hf := hw.1
  have n5 := hf.1
  have m4 := hf.2.1
  refine Or.inr ⟨rfl, vj (j := 1) (by omega) hL, Or.inr ⟨rfl, vj (j := 2) (by omega) hL, ⟨⟨by omega, Nat.le_of_ble_eq_true rfl, Nat.le_of_ble_eq_true rfl⟩, hc_department hC hf _ _ ?_ ?_ ?_⟩⟩⟩
  · intro cE
    obtain ⟨hC1, g1⟩ := hC.ref (i := 0) (by decide)
    have hM1 := hM.cm g1
    refine Or.inr ⟨rfl, vj (j := 1) (by omega) hL, Or.inr ⟨rfl, vj (j := 2) (by omega) hL, ⟨⟨Nat.zero_le _, Nat.le_of_ble_eq_true rfl, Nat.le_of_ble_eq_true rfl⟩, e_mDepartment hM1 hf _ _ ?_ (fun d' hd' hx' cA' S' hM' hF hth => False.elim (cE ⟨d', hd', hx'⟩)) (fun d' k' hd' hx' hk' hy' S' hM' hF hth => False.elim (cE ⟨d', hd', hx'⟩))⟩⟩⟩
    intro cE' S' hM' hF hth
    exact ⟨⟨Nat.zero_le _, Nat.le_of_ble_eq_true rfl, Nat.le_of_ble_eq_true rfl⟩, e_mThrown S' (And.intro (fun _ => And.intro (fun _ => ⟨rfl, show rc ≤ rc - 2 - 0 - 0 + 4 by omega, ⟨rfl, rfl, rfl, rfl, rfl, trivial⟩, INV_q hC1 hF hM' hW hH⟩) (fun q => absurd q (by decide))) (fun q => absurd hth q))⟩
  · intro d hd hx cA
    obtain ⟨hC1, g1⟩ := hC.ref (i := 1) (by decide)
    have hM1 := hM.cm g1
    refine Or.inr ⟨rfl, vj (j := 1) (by omega) hL, Or.inr ⟨rfl, vj (j := 2) (by omega) hL, ⟨⟨Nat.zero_le _, Nat.le_of_ble_eq_true rfl, Nat.le_of_ble_eq_true rfl⟩, e_mDepartment hM1 hf _ _ (fun cE' S' hM' hF hth => False.elim (cE' ⟨d, hd, hx⟩)) ?_ (fun d' k' hd' hx' hk' hy' S' hM' hF hth => False.elim (cA ⟨k', Nat.zero_le _, hk', hy'⟩))⟩⟩⟩
    intro d' hd' hx' cA' S' hM' hF hth
    exact ⟨⟨Nat.zero_le _, Nat.le_of_ble_eq_true rfl, Nat.le_of_ble_eq_true rfl⟩, e_mThrown S' (And.intro (fun _ => And.intro (fun _ => ⟨rfl, show rc ≤ rc - 2 - 0 - 0 + 4 by omega, ⟨rfl, rfl, rfl, rfl, rfl, trivial⟩, INV_q hC1 hF hM' hW hH⟩) (fun q => absurd q (by decide))) (fun q => absurd hth q))⟩
  · intro d k hd hx hk hy
    have hC1 := hC.out (Int32.toInt64 ((dpV w d k)))
    have hM1 := hM.out (Int32.toInt64 ((dpV w d k)))
    refine Or.inr ⟨rfl, vj (j := 1) (by omega) hL, Or.inr ⟨rfl, vj (j := 2) (by omega) hL, ⟨⟨Nat.zero_le _, Nat.le_of_ble_eq_true rfl, Nat.le_of_ble_eq_true rfl⟩, e_mDepartment hM1 hf _ _ (fun cE' S' hM' hF hth => False.elim (cE' ⟨d, hd, hx⟩)) (fun d' hd' hx' cA' S' hM' hF hth => False.elim (cA' ⟨k, Nat.zero_le _, hk, hy⟩)) ?_⟩⟩⟩
    intro d' k' hd' hx' hk' hy' S' hM' hF hth
    obtain rfl : d' = d := nI_un hx' hx (by omega) (by omega)
    obtain rfl : k' = k := nI_un hy' hy (by omega) (by omega)
    exact ⟨⟨Nat.zero_le _, Nat.le_of_ble_eq_true rfl, Nat.le_of_ble_eq_true rfl⟩, e_mThrown S' (And.intro (fun _ => And.intro (fun q => absurd rfl q) (fun _ => ⟨1, rfl, vp_nI (by decide), And.intro (fun _ => ⟨rfl, show rc ≤ rc - 2 - 0 - 0 + 4 by omega, ⟨rfl, rfl, rfl, rfl, rfl, trivial⟩, INV_q hC1 hF hM' hW hH⟩) (fun q => absurd ((lg_cmp_eq _ _).mpr ((congrFun (hF 155 (Or.inr (by decide))).2 _).trans (outW_v _ _))) q)⟩)) (fun q => absurd hth q))⟩
set_option maxRecDepth 20000 in
set_option maxHeartbeats 2000000 in
theorem lw_product {L : Nat} {xs : Nat → Int32} {i t rc : Nat} (hi : i + 6 ≤ L) (hL : L ≤ 3072) (ht : t ≤ 512) (hrc : 4 ≤ rc) {S : Mem} (hN : INV S t) : wp 156 pL_law (kL_law 156) hd0 [] (some (L, xs)) 8 (some .boolean) lwQ lwX (lwC rc i t) 100 (jmp 833 pL_law) rc (lwL i) [] S := by
  obtain ⟨tp, sg, fp, r, w, H, hC, hM, hW, hH⟩ := hN
  obtain ⟨n, m, hw⟩ := id hW
  have hf := hw.1
  have n5 := hf.1
  have m4 := hf.2.1
  refine Or.inr ⟨rfl, vj (j := 1) (by omega) hL, Or.inr ⟨rfl, vj (j := 2) (by omega) hL, ⟨⟨by omega, Nat.le_of_ble_eq_true rfl, Nat.le_of_ble_eq_true rfl⟩, hc_product hC hf _ _ ?_ ?_ ?_⟩⟩⟩
  · intro cE
    obtain ⟨hC1, g1⟩ := hC.ref (i := 0) (by decide)
    have hM1 := hM.cm g1
    refine Or.inr ⟨rfl, vj (j := 1) (by omega) hL, Or.inr ⟨rfl, vj (j := 2) (by omega) hL, ⟨⟨Nat.zero_le _, Nat.le_of_ble_eq_true rfl, Nat.le_of_ble_eq_true rfl⟩, e_mProduct hM1 hf _ _ ?_ (fun d' hd' hx' cA' S' hM' hF hth => False.elim (cE ⟨d', hd', hx'⟩)) (fun d' k' hd' hx' hk' hy' S' hM' hF hth => False.elim (cE ⟨d', hd', hx'⟩))⟩⟩⟩
    intro cE' S' hM' hF hth
    exact ⟨⟨Nat.zero_le _, Nat.le_of_ble_eq_true rfl, Nat.le_of_ble_eq_true rfl⟩, e_mThrown S' (And.intro (fun _ => And.intro (fun _ => ⟨rfl, show rc ≤ rc - 2 - 0 - 0 + 4 by omega, ⟨rfl, rfl, rfl, rfl, rfl, trivial⟩, INV_q hC1 hF hM' hW hH⟩) (fun q => absurd q (by decide))) (fun q => absurd hth q))⟩
  · intro d hd hx cA
    obtain ⟨hC1, g1⟩ := hC.ref (i := 1) (by decide)
    have hM1 := hM.cm g1
    refine Or.inr ⟨rfl, vj (j := 1) (by omega) hL, Or.inr ⟨rfl, vj (j := 2) (by omega) hL, ⟨⟨Nat.zero_le _, Nat.le_of_ble_eq_true rfl, Nat.le_of_ble_eq_true rfl⟩, e_mProduct hM1 hf _ _ (fun cE' S' hM' hF hth => False.elim (cE' ⟨d, hd, hx⟩)) ?_ (fun d' k' hd' hx' hk' hy' S' hM' hF hth => False.elim (cA ⟨k', Nat.zero_le _, hk', hy'⟩))⟩⟩⟩
    intro d' hd' hx' cA' S' hM' hF hth
    exact ⟨⟨Nat.zero_le _, Nat.le_of_ble_eq_true rfl, Nat.le_of_ble_eq_true rfl⟩, e_mThrown S' (And.intro (fun _ => And.intro (fun _ => ⟨rfl, show rc ≤ rc - 2 - 0 - 0 + 4 by omega, ⟨rfl, rfl, rfl, rfl, rfl, trivial⟩, INV_q hC1 hF hM' hW hH⟩) (fun q => absurd q (by decide))) (fun q => absurd hth q))⟩
  · intro d k hd hx hk hy
    have hC1 := hC.out (Int32.toInt64 ((w (50 + 4 * d + k)).toInt32))
    have hM1 := hM.out (Int32.toInt64 ((w (50 + 4 * d + k)).toInt32))
    refine Or.inr ⟨rfl, vj (j := 1) (by omega) hL, Or.inr ⟨rfl, vj (j := 2) (by omega) hL, ⟨⟨Nat.zero_le _, Nat.le_of_ble_eq_true rfl, Nat.le_of_ble_eq_true rfl⟩, e_mProduct hM1 hf _ _ (fun cE' S' hM' hF hth => False.elim (cE' ⟨d, hd, hx⟩)) (fun d' hd' hx' cA' S' hM' hF hth => False.elim (cA' ⟨k, Nat.zero_le _, hk, hy⟩)) ?_⟩⟩⟩
    intro d' k' hd' hx' hk' hy' S' hM' hF hth
    obtain rfl : d' = d := nI_un hx' hx (by omega) (by omega)
    obtain rfl : k' = k := nI_un hy' hy (by omega) (by omega)
    exact ⟨⟨Nat.zero_le _, Nat.le_of_ble_eq_true rfl, Nat.le_of_ble_eq_true rfl⟩, e_mThrown S' (And.intro (fun _ => And.intro (fun q => absurd rfl q) (fun _ => ⟨1, rfl, vp_nI (by decide), And.intro (fun _ => ⟨rfl, show rc ≤ rc - 2 - 0 - 0 + 4 by omega, ⟨rfl, rfl, rfl, rfl, rfl, trivial⟩, INV_q hC1 hF hM' hW hH⟩) (fun q => absurd ((lg_cmp_eq _ _).mpr ((congrFun (hF 155 (Or.inr (by decide))).2 _).trans (outW_v _ _))) q)⟩)) (fun q => absurd hth q))⟩
set_option maxRecDepth 20000 in
set_option maxHeartbeats 2000000 in
theorem lw_work {L : Nat} {xs : Nat → Int32} {i t rc : Nat} (hi : i + 6 ≤ L) (hL : L ≤ 3072) (ht : t ≤ 512) (hrc : 4 ≤ rc) {S : Mem} (hN : INV S t) : wp 156 pL_law (kL_law 156) hd0 [] (some (L, xs)) 8 (some .boolean) lwQ lwX (lwC rc i t) 100 (jmp 901 pL_law) rc (lwL i) [] S := by
  obtain ⟨tp, sg, fp, r, w, H, hC, hM, hW, hH⟩ := hN
  obtain ⟨n, m, hw⟩ := id hW
  have hf := hw.1
  have n5 := hf.1
  have m4 := hf.2.1
  refine Or.inr ⟨rfl, vj (j := 1) (by omega) hL, Or.inr ⟨rfl, vj (j := 2) (by omega) hL, ⟨⟨by omega, Nat.le_of_ble_eq_true rfl, Nat.le_of_ble_eq_true rfl⟩, hc_work hC hf _ _ ?_ ?_ ?_⟩⟩⟩
  · intro cE
    obtain ⟨hC1, g1⟩ := hC.ref (i := 0) (by decide)
    have hM1 := hM.cm g1
    refine Or.inr ⟨rfl, vj (j := 1) (by omega) hL, Or.inr ⟨rfl, vj (j := 2) (by omega) hL, ⟨⟨Nat.zero_le _, Nat.le_of_ble_eq_true rfl, Nat.le_of_ble_eq_true rfl⟩, e_mWork hM1 hf _ _ ?_ (fun d' hd' hx' cA' S' hM' hF hth => False.elim (cE ⟨d', hd', hx'⟩)) (fun d' k' hd' hx' hk' hy' S' hM' hF hth => False.elim (cE ⟨d', hd', hx'⟩))⟩⟩⟩
    intro cE' S' hM' hF hth
    exact ⟨⟨Nat.zero_le _, Nat.le_of_ble_eq_true rfl, Nat.le_of_ble_eq_true rfl⟩, e_mThrown S' (And.intro (fun _ => And.intro (fun _ => ⟨rfl, show rc ≤ rc - 2 - 0 - 0 + 4 by omega, ⟨rfl, rfl, rfl, rfl, rfl, trivial⟩, INV_q hC1 hF hM' hW hH⟩) (fun q => absurd q (by decide))) (fun q => absurd hth q))⟩
  · intro d hd hx cA
    obtain ⟨hC1, g1⟩ := hC.ref (i := 1) (by decide)
    have hM1 := hM.cm g1
    refine Or.inr ⟨rfl, vj (j := 1) (by omega) hL, Or.inr ⟨rfl, vj (j := 2) (by omega) hL, ⟨⟨Nat.zero_le _, Nat.le_of_ble_eq_true rfl, Nat.le_of_ble_eq_true rfl⟩, e_mWork hM1 hf _ _ (fun cE' S' hM' hF hth => False.elim (cE' ⟨d, hd, hx⟩)) ?_ (fun d' k' hd' hx' hk' hy' S' hM' hF hth => False.elim (cA ⟨k', Nat.zero_le _, hk', hy'⟩))⟩⟩⟩
    intro d' hd' hx' cA' S' hM' hF hth
    exact ⟨⟨Nat.zero_le _, Nat.le_of_ble_eq_true rfl, Nat.le_of_ble_eq_true rfl⟩, e_mThrown S' (And.intro (fun _ => And.intro (fun _ => ⟨rfl, show rc ≤ rc - 2 - 0 - 0 + 4 by omega, ⟨rfl, rfl, rfl, rfl, rfl, trivial⟩, INV_q hC1 hF hM' hW hH⟩) (fun q => absurd q (by decide))) (fun q => absurd hth q))⟩
  · intro d k hd hx hk hy
    have hC1 := hC.out ((w (101 + 6 * d + k)))
    have hM1 := hM.out ((w (101 + 6 * d + k)))
    refine Or.inr ⟨rfl, vj (j := 1) (by omega) hL, Or.inr ⟨rfl, vj (j := 2) (by omega) hL, ⟨⟨Nat.zero_le _, Nat.le_of_ble_eq_true rfl, Nat.le_of_ble_eq_true rfl⟩, e_mWork hM1 hf _ _ (fun cE' S' hM' hF hth => False.elim (cE' ⟨d, hd, hx⟩)) (fun d' hd' hx' cA' S' hM' hF hth => False.elim (cA' ⟨k, Nat.zero_le _, hk, hy⟩)) ?_⟩⟩⟩
    intro d' k' hd' hx' hk' hy' S' hM' hF hth
    obtain rfl : d' = d := nI_un hx' hx (by omega) (by omega)
    obtain rfl : k' = k := nI_un hy' hy (by omega) (by omega)
    exact ⟨⟨Nat.zero_le _, Nat.le_of_ble_eq_true rfl, Nat.le_of_ble_eq_true rfl⟩, e_mThrown S' (And.intro (fun _ => And.intro (fun q => absurd rfl q) (fun _ => ⟨1, rfl, vp_nI (by decide), And.intro (fun _ => ⟨rfl, show rc ≤ rc - 2 - 0 - 0 + 4 by omega, ⟨rfl, rfl, rfl, rfl, rfl, trivial⟩, INV_q hC1 hF hM' hW hH⟩) (fun q => absurd ((lg_cmp_eq _ _).mpr ((congrFun (hF 155 (Or.inr (by decide))).2 _).trans (outW_v _ _))) q)⟩)) (fun q => absurd hth q))⟩
set_option maxRecDepth 20000 in
set_option maxHeartbeats 2000000 in
theorem lw_units {L : Nat} {xs : Nat → Int32} {i t rc : Nat} (hi : i + 6 ≤ L) (hL : L ≤ 3072) (ht : t ≤ 512) (hrc : 4 ≤ rc) {S : Mem} (hN : INV S t) : wp 156 pL_law (kL_law 156) hd0 [] (some (L, xs)) 8 (some .boolean) lwQ lwX (lwC rc i t) 100 (jmp 968 pL_law) rc (lwL i) [] S := by
  obtain ⟨tp, sg, fp, r, w, H, hC, hM, hW, hH⟩ := hN
  obtain ⟨n, m, hw⟩ := id hW
  have hf := hw.1
  have n5 := hf.1
  have m4 := hf.2.1
  refine Or.inr ⟨rfl, vj (j := 1) (by omega) hL, Or.inr ⟨rfl, vj (j := 2) (by omega) hL, ⟨⟨by omega, Nat.le_of_ble_eq_true rfl, Nat.le_of_ble_eq_true rfl⟩, hc_units hC hf _ _ ?_ ?_ ?_⟩⟩⟩
  · intro cE
    obtain ⟨hC1, g1⟩ := hC.ref (i := 0) (by decide)
    have hM1 := hM.cm g1
    refine Or.inr ⟨rfl, vj (j := 1) (by omega) hL, Or.inr ⟨rfl, vj (j := 2) (by omega) hL, ⟨⟨Nat.zero_le _, Nat.le_of_ble_eq_true rfl, Nat.le_of_ble_eq_true rfl⟩, e_mUnits hM1 hf _ _ ?_ (fun d' hd' hx' cA' S' hM' hF hth => False.elim (cE ⟨d', hd', hx'⟩)) (fun d' k' hd' hx' hk' hy' S' hM' hF hth => False.elim (cE ⟨d', hd', hx'⟩))⟩⟩⟩
    intro cE' S' hM' hF hth
    exact ⟨⟨Nat.zero_le _, Nat.le_of_ble_eq_true rfl, Nat.le_of_ble_eq_true rfl⟩, e_mThrown S' (And.intro (fun _ => And.intro (fun _ => ⟨rfl, show rc ≤ rc - 2 - 0 - 0 + 4 by omega, ⟨rfl, rfl, rfl, rfl, rfl, trivial⟩, INV_q hC1 hF hM' hW hH⟩) (fun q => absurd q (by decide))) (fun q => absurd hth q))⟩
  · intro d hd hx cA
    obtain ⟨hC1, g1⟩ := hC.ref (i := 1) (by decide)
    have hM1 := hM.cm g1
    refine Or.inr ⟨rfl, vj (j := 1) (by omega) hL, Or.inr ⟨rfl, vj (j := 2) (by omega) hL, ⟨⟨Nat.zero_le _, Nat.le_of_ble_eq_true rfl, Nat.le_of_ble_eq_true rfl⟩, e_mUnits hM1 hf _ _ (fun cE' S' hM' hF hth => False.elim (cE' ⟨d, hd, hx⟩)) ?_ (fun d' k' hd' hx' hk' hy' S' hM' hF hth => False.elim (cA ⟨k', Nat.zero_le _, hk', hy'⟩))⟩⟩⟩
    intro d' hd' hx' cA' S' hM' hF hth
    exact ⟨⟨Nat.zero_le _, Nat.le_of_ble_eq_true rfl, Nat.le_of_ble_eq_true rfl⟩, e_mThrown S' (And.intro (fun _ => And.intro (fun _ => ⟨rfl, show rc ≤ rc - 2 - 0 - 0 + 4 by omega, ⟨rfl, rfl, rfl, rfl, rfl, trivial⟩, INV_q hC1 hF hM' hW hH⟩) (fun q => absurd q (by decide))) (fun q => absurd hth q))⟩
  · intro d k hd hx hk hy
    have hC1 := hC.out (Int32.toInt64 ((w (131 + 55 * d + unP7 k)).toInt32))
    have hM1 := hM.out (Int32.toInt64 ((w (131 + 55 * d + unP7 k)).toInt32))
    refine Or.inr ⟨rfl, vj (j := 1) (by omega) hL, Or.inr ⟨rfl, vj (j := 2) (by omega) hL, ⟨⟨Nat.zero_le _, Nat.le_of_ble_eq_true rfl, Nat.le_of_ble_eq_true rfl⟩, e_mUnits hM1 hf _ _ (fun cE' S' hM' hF hth => False.elim (cE' ⟨d, hd, hx⟩)) (fun d' hd' hx' cA' S' hM' hF hth => False.elim (cA' ⟨k, Nat.zero_le _, hk, hy⟩)) ?_⟩⟩⟩
    intro d' k' hd' hx' hk' hy' S' hM' hF hth
    obtain rfl : d' = d := nI_un hx' hx (by omega) (by omega)
    obtain rfl : k' = k := nI_un hy' hy (by omega) (by omega)
    exact ⟨⟨Nat.zero_le _, Nat.le_of_ble_eq_true rfl, Nat.le_of_ble_eq_true rfl⟩, e_mThrown S' (And.intro (fun _ => And.intro (fun q => absurd rfl q) (fun _ => ⟨1, rfl, vp_nI (by decide), And.intro (fun _ => ⟨rfl, show rc ≤ rc - 2 - 0 - 0 + 4 by omega, ⟨rfl, rfl, rfl, rfl, rfl, trivial⟩, INV_q hC1 hF hM' hW hH⟩) (fun q => absurd ((lg_cmp_eq _ _).mpr ((congrFun (hF 155 (Or.inr (by decide))).2 _).trans (outW_v _ _))) q)⟩)) (fun q => absurd hth q))⟩
set_option maxRecDepth 20000 in
set_option maxHeartbeats 2000000 in
theorem lw_asDone {L : Nat} {xs : Nat → Int32} {i t rc : Nat} (hi : i + 6 ≤ L) (hL : L ≤ 3072) (ht : t ≤ 512) (hrc : 4 ≤ rc) {S : Mem} (hN : INV S t) : wp 156 pL_law (kL_law 156) hd0 [] (some (L, xs)) 8 (some .boolean) lwQ lwX (lwC rc i t) 100 (jmp 1036 pL_law) rc (lwL i) [] S := by
  obtain ⟨tp, sg, fp, r, w, H, hC, hM, hW, hH⟩ := hN
  obtain ⟨n, m, hw⟩ := id hW
  have hf := hw.1
  have n5 := hf.1
  have m4 := hf.2.1
  refine Or.inr ⟨rfl, vj (j := 1) (by omega) hL, Or.inr ⟨rfl, vj (j := 2) (by omega) hL, Or.inr ⟨rfl, vj (j := 3) (by omega) hL, ⟨⟨by omega, Nat.le_of_ble_eq_true rfl, Nat.le_of_ble_eq_true rfl⟩, hc_asDone hC hf _ _ _ ?_ ?_ ?_⟩⟩⟩⟩
  · intro cE
    obtain ⟨hC1, g1⟩ := hC.ref (i := 0) (by decide)
    have hM1 := hM.cm g1
    refine Or.inr ⟨rfl, vj (j := 1) (by omega) hL, Or.inr ⟨rfl, vj (j := 2) (by omega) hL, Or.inr ⟨rfl, vj (j := 3) (by omega) hL, ⟨⟨Nat.zero_le _, Nat.le_of_ble_eq_true rfl, Nat.le_of_ble_eq_true rfl⟩, e_mAsDone hM1 hf _ _ _ ?_ (fun d' hd' hx' hq' cA' S' hM' hF hth => False.elim (cE ⟨d', hd', hx', hq'⟩)) (fun d' k' j' hd' hx' hk' hy' hq' hj' hz' S' hM' hF hth => False.elim (cE ⟨d', hd', hx', hq'⟩))⟩⟩⟩⟩
    intro cE' S' hM' hF hth
    exact ⟨⟨Nat.zero_le _, Nat.le_of_ble_eq_true rfl, Nat.le_of_ble_eq_true rfl⟩, e_mThrown S' (And.intro (fun _ => And.intro (fun _ => ⟨rfl, show rc ≤ rc - 3 - 0 - 0 + 4 by omega, ⟨rfl, rfl, rfl, rfl, rfl, trivial⟩, INV_q hC1 hF hM' hW hH⟩) (fun q => absurd q (by decide))) (fun q => absurd hth q))⟩
  · intro d hd hx hq cA
    obtain ⟨hC1, g1⟩ := hC.ref (i := 1) (by decide)
    have hM1 := hM.cm g1
    refine Or.inr ⟨rfl, vj (j := 1) (by omega) hL, Or.inr ⟨rfl, vj (j := 2) (by omega) hL, Or.inr ⟨rfl, vj (j := 3) (by omega) hL, ⟨⟨Nat.zero_le _, Nat.le_of_ble_eq_true rfl, Nat.le_of_ble_eq_true rfl⟩, e_mAsDone hM1 hf _ _ _ (fun cE' S' hM' hF hth => False.elim (cE' ⟨d, hd, hx, hq⟩)) ?_ (fun d' k' j' hd' hx' hk' hy' hq' hj' hz' S' hM' hF hth => False.elim (cA ⟨j', Nat.zero_le _, hj', hz'⟩))⟩⟩⟩⟩
    intro d' hd' hx' hq' cA' S' hM' hF hth
    exact ⟨⟨Nat.zero_le _, Nat.le_of_ble_eq_true rfl, Nat.le_of_ble_eq_true rfl⟩, e_mThrown S' (And.intro (fun _ => And.intro (fun _ => ⟨rfl, show rc ≤ rc - 3 - 0 - 0 + 4 by omega, ⟨rfl, rfl, rfl, rfl, rfl, trivial⟩, INV_q hC1 hF hM' hW hH⟩) (fun q => absurd q (by decide))) (fun q => absurd hth q))⟩
  · intro d k j hd hx hk hy hq hj hz
    have hC1 := hC.out (Int32.toInt64 ((w (149 + 55 * d + 4 * k + j)).toInt32))
    have hM1 := hM.out (Int32.toInt64 ((w (149 + 55 * d + 4 * k + j)).toInt32))
    refine Or.inr ⟨rfl, vj (j := 1) (by omega) hL, Or.inr ⟨rfl, vj (j := 2) (by omega) hL, Or.inr ⟨rfl, vj (j := 3) (by omega) hL, ⟨⟨Nat.zero_le _, Nat.le_of_ble_eq_true rfl, Nat.le_of_ble_eq_true rfl⟩, e_mAsDone hM1 hf _ _ _ (fun cE' S' hM' hF hth => False.elim (cE' ⟨d, hd, hx, hq⟩)) (fun d' hd' hx' hq' cA' S' hM' hF hth => False.elim (cA' ⟨j, Nat.zero_le _, hj, hz⟩)) ?_⟩⟩⟩⟩
    intro d' k' j' hd' hx' hk' hy' hq' hj' hz' S' hM' hF hth
    obtain rfl : d' = d := nI_un hx' hx (by omega) (by omega)
    obtain rfl : k' = k := nI_un hy' hy (by omega) (by omega)
    obtain rfl : j' = j := nI_un hz' hz (by omega) (by omega)
    exact ⟨⟨Nat.zero_le _, Nat.le_of_ble_eq_true rfl, Nat.le_of_ble_eq_true rfl⟩, e_mThrown S' (And.intro (fun _ => And.intro (fun q => absurd rfl q) (fun _ => ⟨1, rfl, vp_nI (by decide), And.intro (fun _ => ⟨rfl, show rc ≤ rc - 3 - 0 - 0 + 4 by omega, ⟨rfl, rfl, rfl, rfl, rfl, trivial⟩, INV_q hC1 hF hM' hW hH⟩) (fun q => absurd ((lg_cmp_eq _ _).mpr ((congrFun (hF 155 (Or.inr (by decide))).2 _).trans (outW_v _ _))) q)⟩)) (fun q => absurd hth q))⟩
set_option maxRecDepth 20000 in
set_option maxHeartbeats 2000000 in
theorem lw_cents {L : Nat} {xs : Nat → Int32} {i t rc : Nat} (hi : i + 6 ≤ L) (hL : L ≤ 3072) (ht : t ≤ 512) (hrc : 4 ≤ rc) {S : Mem} (hN : INV S t) : wp 156 pL_law (kL_law 156) hd0 [] (some (L, xs)) 8 (some .boolean) lwQ lwX (lwC rc i t) 100 (jmp 1116 pL_law) rc (lwL i) [] S := by
  obtain ⟨tp, sg, fp, r, w, H, hC, hM, hW, hH⟩ := hN
  obtain ⟨n, m, hw⟩ := id hW
  have hf := hw.1
  have n5 := hf.1
  have m4 := hf.2.1
  refine Or.inr ⟨rfl, vj (j := 1) (by omega) hL, Or.inr ⟨rfl, vj (j := 2) (by omega) hL, Or.inr ⟨rfl, vj (j := 3) (by omega) hL, ⟨⟨by omega, Nat.le_of_ble_eq_true rfl, Nat.le_of_ble_eq_true rfl⟩, hc_cents hC hf _ _ _ ?_ ?_ ?_⟩⟩⟩⟩
  · intro cE
    obtain ⟨hC1, g1⟩ := hC.ref (i := 0) (by decide)
    have hM1 := hM.cm g1
    refine Or.inr ⟨rfl, vj (j := 1) (by omega) hL, Or.inr ⟨rfl, vj (j := 2) (by omega) hL, Or.inr ⟨rfl, vj (j := 3) (by omega) hL, ⟨⟨Nat.zero_le _, Nat.le_of_ble_eq_true rfl, Nat.le_of_ble_eq_true rfl⟩, e_mCents hM1 hf _ _ _ ?_ (fun d' hd' hx' hq' cA' S' hM' hF hth => False.elim (cE ⟨d', hd', hx', hq'⟩)) (fun d' k' j' hd' hx' hk' hy' hq' hj' hz' S' hM' hF hth => False.elim (cE ⟨d', hd', hx', hq'⟩))⟩⟩⟩⟩
    intro cE' S' hM' hF hth
    exact ⟨⟨Nat.zero_le _, Nat.le_of_ble_eq_true rfl, Nat.le_of_ble_eq_true rfl⟩, e_mThrown S' (And.intro (fun _ => And.intro (fun _ => ⟨rfl, show rc ≤ rc - 3 - 0 - 0 + 4 by omega, ⟨rfl, rfl, rfl, rfl, rfl, trivial⟩, INV_q hC1 hF hM' hW hH⟩) (fun q => absurd q (by decide))) (fun q => absurd hth q))⟩
  · intro d hd hx hq cA
    obtain ⟨hC1, g1⟩ := hC.ref (i := 1) (by decide)
    have hM1 := hM.cm g1
    refine Or.inr ⟨rfl, vj (j := 1) (by omega) hL, Or.inr ⟨rfl, vj (j := 2) (by omega) hL, Or.inr ⟨rfl, vj (j := 3) (by omega) hL, ⟨⟨Nat.zero_le _, Nat.le_of_ble_eq_true rfl, Nat.le_of_ble_eq_true rfl⟩, e_mCents hM1 hf _ _ _ (fun cE' S' hM' hF hth => False.elim (cE' ⟨d, hd, hx, hq⟩)) ?_ (fun d' k' j' hd' hx' hk' hy' hq' hj' hz' S' hM' hF hth => False.elim (cA ⟨j', Nat.zero_le _, hj', hz'⟩))⟩⟩⟩⟩
    intro d' hd' hx' hq' cA' S' hM' hF hth
    exact ⟨⟨Nat.zero_le _, Nat.le_of_ble_eq_true rfl, Nat.le_of_ble_eq_true rfl⟩, e_mThrown S' (And.intro (fun _ => And.intro (fun _ => ⟨rfl, show rc ≤ rc - 3 - 0 - 0 + 4 by omega, ⟨rfl, rfl, rfl, rfl, rfl, trivial⟩, INV_q hC1 hF hM' hW hH⟩) (fun q => absurd q (by decide))) (fun q => absurd hth q))⟩
  · intro d k j hd hx hk hy hq hj hz
    have hC1 := hC.out ((w (165 + 55 * d + 4 * k + j)))
    have hM1 := hM.out ((w (165 + 55 * d + 4 * k + j)))
    refine Or.inr ⟨rfl, vj (j := 1) (by omega) hL, Or.inr ⟨rfl, vj (j := 2) (by omega) hL, Or.inr ⟨rfl, vj (j := 3) (by omega) hL, ⟨⟨Nat.zero_le _, Nat.le_of_ble_eq_true rfl, Nat.le_of_ble_eq_true rfl⟩, e_mCents hM1 hf _ _ _ (fun cE' S' hM' hF hth => False.elim (cE' ⟨d, hd, hx, hq⟩)) (fun d' hd' hx' hq' cA' S' hM' hF hth => False.elim (cA' ⟨j, Nat.zero_le _, hj, hz⟩)) ?_⟩⟩⟩⟩
    intro d' k' j' hd' hx' hk' hy' hq' hj' hz' S' hM' hF hth
    obtain rfl : d' = d := nI_un hx' hx (by omega) (by omega)
    obtain rfl : k' = k := nI_un hy' hy (by omega) (by omega)
    obtain rfl : j' = j := nI_un hz' hz (by omega) (by omega)
    exact ⟨⟨Nat.zero_le _, Nat.le_of_ble_eq_true rfl, Nat.le_of_ble_eq_true rfl⟩, e_mThrown S' (And.intro (fun _ => And.intro (fun q => absurd rfl q) (fun _ => ⟨1, rfl, vp_nI (by decide), And.intro (fun _ => ⟨rfl, show rc ≤ rc - 3 - 0 - 0 + 4 by omega, ⟨rfl, rfl, rfl, rfl, rfl, trivial⟩, INV_q hC1 hF hM' hW hH⟩) (fun q => absurd ((lg_cmp_eq _ _).mpr ((congrFun (hF 155 (Or.inr (by decide))).2 _).trans (outW_v _ _))) q)⟩)) (fun q => absurd hth q))⟩
set_option maxRecDepth 20000 in
set_option maxHeartbeats 2000000 in
theorem lw_loss {L : Nat} {xs : Nat → Int32} {i t rc : Nat} (hi : i + 6 ≤ L) (hL : L ≤ 3072) (ht : t ≤ 512) (hrc : 4 ≤ rc) {S : Mem} (hN : INV S t) : wp 156 pL_law (kL_law 156) hd0 [] (some (L, xs)) 8 (some .boolean) lwQ lwX (lwC rc i t) 100 (jmp 1195 pL_law) rc (lwL i) [] S := by
  obtain ⟨tp, sg, fp, r, w, H, hC, hM, hW, hH⟩ := hN
  obtain ⟨n, m, hw⟩ := id hW
  have hf := hw.1
  have n5 := hf.1
  have m4 := hf.2.1
  refine Or.inr ⟨rfl, vj (j := 1) (by omega) hL, Or.inr ⟨rfl, vj (j := 2) (by omega) hL, ⟨⟨by omega, Nat.le_of_ble_eq_true rfl, Nat.le_of_ble_eq_true rfl⟩, hc_loss hC hf _ _ ?_ ?_ ?_⟩⟩⟩
  · intro cE
    obtain ⟨hC1, g1⟩ := hC.ref (i := 0) (by decide)
    have hM1 := hM.cm g1
    refine Or.inr ⟨rfl, vj (j := 1) (by omega) hL, Or.inr ⟨rfl, vj (j := 2) (by omega) hL, ⟨⟨Nat.zero_le _, Nat.le_of_ble_eq_true rfl, Nat.le_of_ble_eq_true rfl⟩, e_mLoss hM1 hf _ _ ?_ (fun d' hd' hx' cA' S' hM' hF hth => False.elim (cE ⟨d', hd', hx'⟩)) (fun d' k' hd' hx' hk' hy' S' hM' hF hth => False.elim (cE ⟨d', hd', hx'⟩))⟩⟩⟩
    intro cE' S' hM' hF hth
    exact ⟨⟨Nat.zero_le _, Nat.le_of_ble_eq_true rfl, Nat.le_of_ble_eq_true rfl⟩, e_mThrown S' (And.intro (fun _ => And.intro (fun _ => ⟨rfl, show rc ≤ rc - 2 - 0 - 0 + 4 by omega, ⟨rfl, rfl, rfl, rfl, rfl, trivial⟩, INV_q hC1 hF hM' hW hH⟩) (fun q => absurd q (by decide))) (fun q => absurd hth q))⟩
  · intro d hd hx cA
    obtain ⟨hC1, g1⟩ := hC.ref (i := 1) (by decide)
    have hM1 := hM.cm g1
    refine Or.inr ⟨rfl, vj (j := 1) (by omega) hL, Or.inr ⟨rfl, vj (j := 2) (by omega) hL, ⟨⟨Nat.zero_le _, Nat.le_of_ble_eq_true rfl, Nat.le_of_ble_eq_true rfl⟩, e_mLoss hM1 hf _ _ (fun cE' S' hM' hF hth => False.elim (cE' ⟨d, hd, hx⟩)) ?_ (fun d' k' hd' hx' hk' hy' S' hM' hF hth => False.elim (cA ⟨k', Nat.zero_le _, hk', hy'⟩))⟩⟩⟩
    intro d' hd' hx' cA' S' hM' hF hth
    exact ⟨⟨Nat.zero_le _, Nat.le_of_ble_eq_true rfl, Nat.le_of_ble_eq_true rfl⟩, e_mThrown S' (And.intro (fun _ => And.intro (fun _ => ⟨rfl, show rc ≤ rc - 2 - 0 - 0 + 4 by omega, ⟨rfl, rfl, rfl, rfl, rfl, trivial⟩, INV_q hC1 hF hM' hW hH⟩) (fun q => absurd q (by decide))) (fun q => absurd hth q))⟩
  · intro d k hd hx hk hy
    have hC1 := hC.out ((w (181 + 55 * d + k)))
    have hM1 := hM.out ((w (181 + 55 * d + k)))
    refine Or.inr ⟨rfl, vj (j := 1) (by omega) hL, Or.inr ⟨rfl, vj (j := 2) (by omega) hL, ⟨⟨Nat.zero_le _, Nat.le_of_ble_eq_true rfl, Nat.le_of_ble_eq_true rfl⟩, e_mLoss hM1 hf _ _ (fun cE' S' hM' hF hth => False.elim (cE' ⟨d, hd, hx⟩)) (fun d' hd' hx' cA' S' hM' hF hth => False.elim (cA' ⟨k, Nat.zero_le _, hk, hy⟩)) ?_⟩⟩⟩
    intro d' k' hd' hx' hk' hy' S' hM' hF hth
    obtain rfl : d' = d := nI_un hx' hx (by omega) (by omega)
    obtain rfl : k' = k := nI_un hy' hy (by omega) (by omega)
    exact ⟨⟨Nat.zero_le _, Nat.le_of_ble_eq_true rfl, Nat.le_of_ble_eq_true rfl⟩, e_mThrown S' (And.intro (fun _ => And.intro (fun q => absurd rfl q) (fun _ => ⟨1, rfl, vp_nI (by decide), And.intro (fun _ => ⟨rfl, show rc ≤ rc - 2 - 0 - 0 + 4 by omega, ⟨rfl, rfl, rfl, rfl, rfl, trivial⟩, INV_q hC1 hF hM' hW hH⟩) (fun q => absurd ((lg_cmp_eq _ _).mpr ((congrFun (hF 155 (Or.inr (by decide))).2 _).trans (outW_v _ _))) q)⟩)) (fun q => absurd hth q))⟩
set_option maxRecDepth 20000 in
set_option maxHeartbeats 2000000 in
theorem lw_other {L : Nat} {xs : Nat → Int32} {i t rc : Nat} (hi : i + 6 ≤ L) (hL : L ≤ 3072) (ht : t ≤ 512) (hrc : 4 ≤ rc) {S : Mem} (hN : INV S t) : wp 156 pL_law (kL_law 156) hd0 [] (some (L, xs)) 8 (some .boolean) lwQ lwX (lwC rc i t) 100 (jmp 1262 pL_law) rc (lwL i) [] S := by
  obtain ⟨tp, sg, fp, r, w, H, hC, hM, hW, hH⟩ := hN
  obtain ⟨w', ew⟩ : ∃ w', cpr S.2 141 143 754 143 = w' := ⟨_, rfl⟩
  have rw' : ∀ i, i < 754 → w' i = w i := fun i hi => by rw [← ew]; exact (cpr_i hi).trans (hM.2.2.2.1 i hi)
  have hC := hC.row rw'
  have hM := hM.row rw'
  have hW := hW.row rw'
  clear rw'
  have mE : ∀ T : Mem, (∀ c, c < 155 → 138 ≤ c → T.2 c = S.2 c) → cpr T.2 141 143 754 143 = w' := fun T h => by rw [← ew]; exact cpr_cg (h 141 (by decide) (by decide)) (h 143 (by decide) (by decide))
  obtain ⟨n, m, hw⟩ := id hW
  have hf := hw.1
  have n5 := hf.1
  have m4 := hf.2.1
  refine Or.inr ⟨rfl, vj (j := 1) (by omega) hL, ⟨⟨by omega, Nat.le_of_ble_eq_true rfl, Nat.le_of_ble_eq_true rfl⟩, hc_other hC hf (fun d hd => hw.rgm d hd) _ ?_ ?_⟩⟩
  · intro cE
    obtain ⟨hC1, g1⟩ := hC.ref (i := 0) (by decide)
    have hM1 := hM.cm g1
    refine Or.inr ⟨rfl, vj (j := 1) (by omega) hL, ⟨⟨Nat.zero_le _, Nat.le_of_ble_eq_true rfl, Nat.le_of_ble_eq_true rfl⟩, e_mOther hM1 hf (mE _ (fun c a b => (g1 c b).2)) _ ?_ (fun d' v' hd' hx' hv' S' hM' hF hth => False.elim (cE ⟨d', hd', hx'⟩))⟩⟩
    intro cE' S' hM' hF hth
    exact ⟨⟨Nat.zero_le _, Nat.le_of_ble_eq_true rfl, Nat.le_of_ble_eq_true rfl⟩, e_mThrown S' (And.intro (fun _ => And.intro (fun _ => ⟨rfl, show rc ≤ rc - 1 - 0 - 0 + 4 by omega, ⟨rfl, rfl, rfl, rfl, rfl, trivial⟩, INV_q hC1 hF hM' hW hH⟩) (fun q => absurd q (by decide))) (fun q => absurd hth q))⟩
  · intro d v hd hx hv S1 c1 f1
    have hC1 := c1.out (v)
    have hM1 := (hM.cm f1).out (v)
    refine Or.inr ⟨rfl, vj (j := 1) (by omega) hL, ⟨⟨Nat.zero_le _, Nat.le_of_ble_eq_true rfl, Nat.le_of_ble_eq_true rfl⟩, e_mOther hM1 hf (mE _ (fun c a b => (u2_other _ _ _ (by omega)).trans (f1 c b).2)) _ (fun cE' S' hM' hF hth => False.elim (cE' ⟨d, hd, hx⟩)) ?_⟩⟩
    intro d' v' hd' hx' hv' S' hM' hF hth
    obtain rfl : d' = d := nI_un hx' hx (by omega) (by omega)
    obtain rfl : v' = v := otV_un hv' hv
    exact ⟨⟨Nat.zero_le _, Nat.le_of_ble_eq_true rfl, Nat.le_of_ble_eq_true rfl⟩, e_mThrown S' (And.intro (fun _ => And.intro (fun q => absurd rfl q) (fun _ => ⟨1, rfl, vp_nI (by decide), And.intro (fun _ => ⟨rfl, show rc ≤ rc - 1 - 0 - 0 + 4 by omega, ⟨rfl, rfl, rfl, rfl, rfl, trivial⟩, INV_q hC1 hF hM' hW hH⟩) (fun q => absurd ((lg_cmp_eq _ _).mpr ((congrFun (hF 155 (Or.inr (by decide))).2 _).trans (outW_v _ _))) q)⟩)) (fun q => absurd hth q))⟩
set_option maxRecDepth 20000 in
set_option maxHeartbeats 2000000 in
theorem lw_parted {L : Nat} {xs : Nat → Int32} {i t rc : Nat} (hi : i + 6 ≤ L) (hL : L ≤ 3072) (ht : t ≤ 512) (hrc : 4 ≤ rc) {S : Mem} (hN : INV S t) : wp 156 pL_law (kL_law 156) hd0 [] (some (L, xs)) 8 (some .boolean) lwQ lwX (lwC rc i t) 100 (jmp 1317 pL_law) rc (lwL i) [] S := by
  obtain ⟨tp, sg, fp, r, w, H, hC, hM, hW, hH⟩ := hN
  obtain ⟨n, m, hw⟩ := id hW
  have hf := hw.1
  have n5 := hf.1
  have m4 := hf.2.1
  refine Or.inr ⟨rfl, vj (j := 1) (by omega) hL, Or.inr ⟨rfl, vj (j := 2) (by omega) hL, ⟨⟨by omega, Nat.le_of_ble_eq_true rfl, Nat.le_of_ble_eq_true rfl⟩, hc_parted hC hf _ _ ?_ ?_ ?_⟩⟩⟩
  · intro cE
    obtain ⟨hC1, g1⟩ := hC.ref (i := 0) (by decide)
    have hM1 := hM.cm g1
    refine Or.inr ⟨rfl, vj (j := 1) (by omega) hL, Or.inr ⟨rfl, vj (j := 2) (by omega) hL, ⟨⟨Nat.zero_le _, Nat.le_of_ble_eq_true rfl, Nat.le_of_ble_eq_true rfl⟩, e_mParted hM1 hf _ _ ?_ (fun d' hd' hx' cA' S' hM' hF hth => False.elim (cE ⟨d', hd', hx'⟩)) (fun d' k' hd' hx' hk' hy' S' hM' hF hth => False.elim (cE ⟨d', hd', hx'⟩))⟩⟩⟩
    intro cE' S' hM' hF hth
    exact ⟨⟨Nat.zero_le _, Nat.le_of_ble_eq_true rfl, Nat.le_of_ble_eq_true rfl⟩, e_mThrown S' (And.intro (fun _ => And.intro (fun _ => ⟨rfl, show rc ≤ rc - 2 - 0 - 0 + 4 by omega, ⟨rfl, rfl, rfl, rfl, rfl, trivial⟩, INV_q hC1 hF hM' hW hH⟩) (fun q => absurd q (by decide))) (fun q => absurd hth q))⟩
  · intro d hd hx cA
    obtain ⟨hC1, g1⟩ := hC.ref (i := 1) (by decide)
    have hM1 := hM.cm g1
    refine Or.inr ⟨rfl, vj (j := 1) (by omega) hL, Or.inr ⟨rfl, vj (j := 2) (by omega) hL, ⟨⟨Nat.zero_le _, Nat.le_of_ble_eq_true rfl, Nat.le_of_ble_eq_true rfl⟩, e_mParted hM1 hf _ _ (fun cE' S' hM' hF hth => False.elim (cE' ⟨d, hd, hx⟩)) ?_ (fun d' k' hd' hx' hk' hy' S' hM' hF hth => False.elim (cA ⟨k', Nat.zero_le _, hk', hy'⟩))⟩⟩⟩
    intro d' hd' hx' cA' S' hM' hF hth
    exact ⟨⟨Nat.zero_le _, Nat.le_of_ble_eq_true rfl, Nat.le_of_ble_eq_true rfl⟩, e_mThrown S' (And.intro (fun _ => And.intro (fun _ => ⟨rfl, show rc ≤ rc - 2 - 0 - 0 + 4 by omega, ⟨rfl, rfl, rfl, rfl, rfl, trivial⟩, INV_q hC1 hF hM' hW hH⟩) (fun q => absurd q (by decide))) (fun q => absurd hth q))⟩
  · intro d k hd hx hk hy
    have hC1 := hC.out ((w (406 + 3 * d + k)))
    have hM1 := hM.out ((w (406 + 3 * d + k)))
    refine Or.inr ⟨rfl, vj (j := 1) (by omega) hL, Or.inr ⟨rfl, vj (j := 2) (by omega) hL, ⟨⟨Nat.zero_le _, Nat.le_of_ble_eq_true rfl, Nat.le_of_ble_eq_true rfl⟩, e_mParted hM1 hf _ _ (fun cE' S' hM' hF hth => False.elim (cE' ⟨d, hd, hx⟩)) (fun d' hd' hx' cA' S' hM' hF hth => False.elim (cA' ⟨k, Nat.zero_le _, hk, hy⟩)) ?_⟩⟩⟩
    intro d' k' hd' hx' hk' hy' S' hM' hF hth
    obtain rfl : d' = d := nI_un hx' hx (by omega) (by omega)
    obtain rfl : k' = k := nI_un hy' hy (by omega) (by omega)
    exact ⟨⟨Nat.zero_le _, Nat.le_of_ble_eq_true rfl, Nat.le_of_ble_eq_true rfl⟩, e_mThrown S' (And.intro (fun _ => And.intro (fun q => absurd rfl q) (fun _ => ⟨1, rfl, vp_nI (by decide), And.intro (fun _ => ⟨rfl, show rc ≤ rc - 2 - 0 - 0 + 4 by omega, ⟨rfl, rfl, rfl, rfl, rfl, trivial⟩, INV_q hC1 hF hM' hW hH⟩) (fun q => absurd ((lg_cmp_eq _ _).mpr ((congrFun (hF 155 (Or.inr (by decide))).2 _).trans (outW_v _ _))) q)⟩)) (fun q => absurd hth q))⟩
set_option maxRecDepth 20000 in
set_option maxHeartbeats 2000000 in
theorem lw_store {L : Nat} {xs : Nat → Int32} {i t rc : Nat} (hi : i + 6 ≤ L) (hL : L ≤ 3072) (ht : t ≤ 512) (hrc : 4 ≤ rc) {S : Mem} (hN : INV S t) : wp 156 pL_law (kL_law 156) hd0 [] (some (L, xs)) 8 (some .boolean) lwQ lwX (lwC rc i t) 100 (jmp 1384 pL_law) rc (lwL i) [] S := by
  obtain ⟨tp, sg, fp, r, w, H, hC, hM, hW, hH⟩ := hN
  obtain ⟨n, m, hw⟩ := id hW
  have hf := hw.1
  have n5 := hf.1
  have m4 := hf.2.1
  refine Or.inr ⟨rfl, vj (j := 1) (by omega) hL, Or.inr ⟨rfl, vj (j := 2) (by omega) hL, ⟨⟨by omega, Nat.le_of_ble_eq_true rfl, Nat.le_of_ble_eq_true rfl⟩, hc_store hC hf _ _ ?_ ?_ ?_⟩⟩⟩
  · intro cE
    obtain ⟨hC1, g1⟩ := hC.ref (i := 0) (by decide)
    have hM1 := hM.cm g1
    refine Or.inr ⟨rfl, vj (j := 1) (by omega) hL, Or.inr ⟨rfl, vj (j := 2) (by omega) hL, ⟨⟨Nat.zero_le _, Nat.le_of_ble_eq_true rfl, Nat.le_of_ble_eq_true rfl⟩, e_mStore hM1 hf hw.lay _ _ ?_ (fun d' hd' hx' cA' S' hM' hF hth => False.elim (cE ⟨d', hd', hx'⟩)) (fun d' k' hd' hx' hk' hy' S' hM' hF hth => False.elim (cE ⟨d', hd', hx'⟩))⟩⟩⟩
    intro cE' S' hM' hF hth
    exact ⟨⟨Nat.zero_le _, Nat.le_of_ble_eq_true rfl, Nat.le_of_ble_eq_true rfl⟩, e_mThrown S' (And.intro (fun _ => And.intro (fun _ => ⟨rfl, show rc ≤ rc - 2 - 0 - 0 + 4 by omega, ⟨rfl, rfl, rfl, rfl, rfl, trivial⟩, INV_q hC1 hF hM' hW hH⟩) (fun q => absurd q (by decide))) (fun q => absurd hth q))⟩
  · intro d hd hx cA
    obtain ⟨hC1, g1⟩ := hC.ref (i := 1) (by decide)
    have hM1 := hM.cm g1
    refine Or.inr ⟨rfl, vj (j := 1) (by omega) hL, Or.inr ⟨rfl, vj (j := 2) (by omega) hL, ⟨⟨Nat.zero_le _, Nat.le_of_ble_eq_true rfl, Nat.le_of_ble_eq_true rfl⟩, e_mStore hM1 hf hw.lay _ _ (fun cE' S' hM' hF hth => False.elim (cE' ⟨d, hd, hx⟩)) ?_ (fun d' k' hd' hx' hk' hy' S' hM' hF hth => False.elim (cA ⟨k', Nat.zero_le _, hk', hy'⟩))⟩⟩⟩
    intro d' hd' hx' cA' S' hM' hF hth
    exact ⟨⟨Nat.zero_le _, Nat.le_of_ble_eq_true rfl, Nat.le_of_ble_eq_true rfl⟩, e_mThrown S' (And.intro (fun _ => And.intro (fun _ => ⟨rfl, show rc ≤ rc - 2 - 0 - 0 + 4 by omega, ⟨rfl, rfl, rfl, rfl, rfl, trivial⟩, INV_q hC1 hF hM' hW hH⟩) (fun q => absurd q (by decide))) (fun q => absurd hth q))⟩
  · intro d k hd hx hk hy
    have hC1 := hC.out ((stW w d k))
    have hM1 := hM.out ((stW w d k))
    refine Or.inr ⟨rfl, vj (j := 1) (by omega) hL, Or.inr ⟨rfl, vj (j := 2) (by omega) hL, ⟨⟨Nat.zero_le _, Nat.le_of_ble_eq_true rfl, Nat.le_of_ble_eq_true rfl⟩, e_mStore hM1 hf hw.lay _ _ (fun cE' S' hM' hF hth => False.elim (cE' ⟨d, hd, hx⟩)) (fun d' hd' hx' cA' S' hM' hF hth => False.elim (cA' ⟨k, Nat.zero_le _, hk, hy⟩)) ?_⟩⟩⟩
    intro d' k' hd' hx' hk' hy' S' hM' hF hth
    obtain rfl : d' = d := nI_un hx' hx (by omega) (by omega)
    obtain rfl : k' = k := nI_un hy' hy (by omega) (by omega)
    exact ⟨⟨Nat.zero_le _, Nat.le_of_ble_eq_true rfl, Nat.le_of_ble_eq_true rfl⟩, e_mThrown S' (And.intro (fun _ => And.intro (fun q => absurd rfl q) (fun _ => ⟨1, rfl, vp_nI (by decide), And.intro (fun _ => ⟨rfl, show rc ≤ rc - 2 - 0 - 0 + 4 by omega, ⟨rfl, rfl, rfl, rfl, rfl, trivial⟩, INV_q hC1 hF hM' hW hH⟩) (fun q => absurd ((lg_cmp_eq _ _).mpr ((congrFun (hF 155 (Or.inr (by decide))).2 _).trans (outW_v _ _))) q)⟩)) (fun q => absurd hth q))⟩
set_option maxRecDepth 20000 in
set_option maxHeartbeats 2000000 in
theorem lw_layer {L : Nat} {xs : Nat → Int32} {i t rc : Nat} (hi : i + 6 ≤ L) (hL : L ≤ 3072) (ht : t ≤ 512) (hrc : 4 ≤ rc) {S : Mem} (hN : INV S t) : wp 156 pL_law (kL_law 156) hd0 [] (some (L, xs)) 8 (some .boolean) lwQ lwX (lwC rc i t) 100 (jmp 1451 pL_law) rc (lwL i) [] S := by
  obtain ⟨tp, sg, fp, r, w, H, hC, hM, hW, hH⟩ := hN
  obtain ⟨n, m, hw⟩ := id hW
  have hf := hw.1
  have n5 := hf.1
  have m4 := hf.2.1
  have lyb : ∀ d, d < m → lyN w d ≤ 40 := fun d hd => hw.lyn d hd
  refine Or.inr ⟨rfl, vj (j := 1) (by omega) hL, Or.inr ⟨rfl, vj (j := 2) (by omega) hL, Or.inr ⟨rfl, vj (j := 3) (by omega) hL, ⟨⟨by omega, Nat.le_of_ble_eq_true rfl, Nat.le_of_ble_eq_true rfl⟩, hc_layer hC hf _ _ _ ?_ ?_ ?_⟩⟩⟩⟩
  · intro cE
    obtain ⟨hC1, g1⟩ := hC.ref (i := 0) (by decide)
    have hM1 := hM.cm g1
    refine Or.inr ⟨rfl, vj (j := 1) (by omega) hL, Or.inr ⟨rfl, vj (j := 2) (by omega) hL, Or.inr ⟨rfl, vj (j := 3) (by omega) hL, ⟨⟨Nat.zero_le _, Nat.le_of_ble_eq_true rfl, Nat.le_of_ble_eq_true rfl⟩, e_mLayer hM1 hf hw.lay _ _ _ ?_ (fun d' k' hd' hx' hk' hy' cA' S' hM' hF hth => False.elim (cE ⟨d', k', hd', hx', hk', hy'⟩)) (fun d' k' j' hd' hx' hk' hy' hj' hz' S' hM' hF hth => False.elim (cE ⟨d', k', hd', hx', hk', hy'⟩))⟩⟩⟩⟩
    intro cE' S' hM' hF hth
    exact ⟨⟨Nat.zero_le _, Nat.le_of_ble_eq_true rfl, Nat.le_of_ble_eq_true rfl⟩, e_mThrown S' (And.intro (fun _ => And.intro (fun _ => ⟨rfl, show rc ≤ rc - 3 - 0 - 0 + 4 by omega, ⟨rfl, rfl, rfl, rfl, rfl, trivial⟩, INV_q hC1 hF hM' hW hH⟩) (fun q => absurd q (by decide))) (fun q => absurd hth q))⟩
  · intro d k hd hx hk hy cA
    obtain ⟨hC1, g1⟩ := hC.ref (i := 1) (by decide)
    have hM1 := hM.cm g1
    refine Or.inr ⟨rfl, vj (j := 1) (by omega) hL, Or.inr ⟨rfl, vj (j := 2) (by omega) hL, Or.inr ⟨rfl, vj (j := 3) (by omega) hL, ⟨⟨Nat.zero_le _, Nat.le_of_ble_eq_true rfl, Nat.le_of_ble_eq_true rfl⟩, e_mLayer hM1 hf hw.lay _ _ _ (fun cE' S' hM' hF hth => False.elim (cE' ⟨d, k, hd, hx, hk, hy⟩)) ?_ (fun d' k' j' hd' hx' hk' hy' hj' hz' S' hM' hF hth => False.elim (cA ⟨j', Nat.zero_le _, hj', hz'⟩))⟩⟩⟩⟩
    intro d' k' hd' hx' hk' hy' cA' S' hM' hF hth
    exact ⟨⟨Nat.zero_le _, Nat.le_of_ble_eq_true rfl, Nat.le_of_ble_eq_true rfl⟩, e_mThrown S' (And.intro (fun _ => And.intro (fun _ => ⟨rfl, show rc ≤ rc - 3 - 0 - 0 + 4 by omega, ⟨rfl, rfl, rfl, rfl, rfl, trivial⟩, INV_q hC1 hF hM' hW hH⟩) (fun q => absurd q (by decide))) (fun q => absurd hth q))⟩
  · intro d k j hd hx hk hy hj hz
    have hC1 := hC.out ((w (419 + 83 * d + 2 * k + j)))
    have hM1 := hM.out ((w (419 + 83 * d + 2 * k + j)))
    refine Or.inr ⟨rfl, vj (j := 1) (by omega) hL, Or.inr ⟨rfl, vj (j := 2) (by omega) hL, Or.inr ⟨rfl, vj (j := 3) (by omega) hL, ⟨⟨Nat.zero_le _, Nat.le_of_ble_eq_true rfl, Nat.le_of_ble_eq_true rfl⟩, e_mLayer hM1 hf hw.lay _ _ _ (fun cE' S' hM' hF hth => False.elim (cE' ⟨d, k, hd, hx, hk, hy⟩)) (fun d' k' hd' hx' hk' hy' cA' S' hM' hF hth => False.elim (cA' ⟨j, Nat.zero_le _, hj, hz⟩)) ?_⟩⟩⟩⟩
    intro d' k' j' hd' hx' hk' hy' hj' hz' S' hM' hF hth
    obtain rfl : d' = d := nI_un hx' hx (by omega) (by omega)
    obtain rfl : k' = k := nI_un hy' hy (by have := lyb _ hd; omega) (by have := lyb _ hd; omega)
    obtain rfl : j' = j := nI_un hz' hz (by omega) (by omega)
    exact ⟨⟨Nat.zero_le _, Nat.le_of_ble_eq_true rfl, Nat.le_of_ble_eq_true rfl⟩, e_mThrown S' (And.intro (fun _ => And.intro (fun q => absurd rfl q) (fun _ => ⟨1, rfl, vp_nI (by decide), And.intro (fun _ => ⟨rfl, show rc ≤ rc - 3 - 0 - 0 + 4 by omega, ⟨rfl, rfl, rfl, rfl, rfl, trivial⟩, INV_q hC1 hF hM' hW hH⟩) (fun q => absurd ((lg_cmp_eq _ _).mpr ((congrFun (hF 155 (Or.inr (by decide))).2 _).trans (outW_v _ _))) q)⟩)) (fun q => absurd hth q))⟩
set_option maxRecDepth 20000 in
set_option maxHeartbeats 2000000 in
theorem lw_account {L : Nat} {xs : Nat → Int32} {i t rc : Nat} (hi : i + 6 ≤ L) (hL : L ≤ 3072) (ht : t ≤ 512) (hrc : 4 ≤ rc) {S : Mem} (hN : INV S t) : wp 156 pL_law (kL_law 156) hd0 [] (some (L, xs)) 8 (some .boolean) lwQ lwX (lwC rc i t) 100 (jmp 1530 pL_law) rc (lwL i) [] S := by
  obtain ⟨tp, sg, fp, r, w, H, hC, hM, hW, hH⟩ := hN
  obtain ⟨n, m, hw⟩ := id hW
  have hf := hw.1
  have n5 := hf.1
  have m4 := hf.2.1
  refine Or.inr ⟨rfl, vj (j := 1) (by omega) hL, ⟨⟨by omega, Nat.le_of_ble_eq_true rfl, Nat.le_of_ble_eq_true rfl⟩, hc_account hC hf _ ?_ ?_⟩⟩
  · intro cA
    obtain ⟨hC1, g1⟩ := hC.ref (i := 1) (by decide)
    have hM1 := hM.cm g1
    refine Or.inr ⟨rfl, vj (j := 1) (by omega) hL, ⟨⟨Nat.zero_le _, Nat.le_of_ble_eq_true rfl, Nat.le_of_ble_eq_true rfl⟩, e_mAccount hM1 hf hw.lay _ ?_ (fun k' hk' hx' S' hM' hF hth => False.elim (cA ⟨k', Nat.zero_le _, hk', hx'⟩))⟩⟩
    intro cA' S' hM' hF hth
    exact ⟨⟨Nat.zero_le _, Nat.le_of_ble_eq_true rfl, Nat.le_of_ble_eq_true rfl⟩, e_mThrown S' (And.intro (fun _ => And.intro (fun _ => ⟨rfl, show rc ≤ rc - 1 - 0 - 0 + 4 by omega, ⟨rfl, rfl, rfl, rfl, rfl, trivial⟩, INV_q hC1 hF hM' hW hH⟩) (fun q => absurd q (by decide))) (fun q => absurd hth q))⟩
  · intro k hk hx
    have hC1 := hC.out ((acV w n m k))
    have hM1 := hM.out ((acV w n m k))
    refine Or.inr ⟨rfl, vj (j := 1) (by omega) hL, ⟨⟨Nat.zero_le _, Nat.le_of_ble_eq_true rfl, Nat.le_of_ble_eq_true rfl⟩, e_mAccount hM1 hf hw.lay _ (fun cA' S' hM' hF hth => False.elim (cA' ⟨k, Nat.zero_le _, hk, hx⟩)) ?_⟩⟩
    intro k' hk' hx' S' hM' hF hth
    obtain rfl : k' = k := nI_un hx' hx (by omega) (by omega)
    exact ⟨⟨Nat.zero_le _, Nat.le_of_ble_eq_true rfl, Nat.le_of_ble_eq_true rfl⟩, e_mThrown S' (And.intro (fun _ => And.intro (fun q => absurd rfl q) (fun _ => ⟨1, rfl, vp_nI (by decide), And.intro (fun _ => ⟨rfl, show rc ≤ rc - 1 - 0 - 0 + 4 by omega, ⟨rfl, rfl, rfl, rfl, rfl, trivial⟩, INV_q hC1 hF hM' hW hH⟩) (fun q => absurd ((lg_cmp_eq _ _).mpr ((congrFun (hF 155 (Or.inr (by decide))).2 _).trans (outW_v _ _))) q)⟩)) (fun q => absurd hth q))⟩
set_option maxRecDepth 20000 in
set_option maxHeartbeats 2000000 in
theorem lw_plan {L : Nat} {xs : Nat → Int32} {i t rc : Nat} (hi : i + 6 ≤ L) (hL : L ≤ 3072) (ht : t ≤ 512) (hrc : 4 ≤ rc) {S : Mem} (hN : INV S t) : wp 156 pL_law (kL_law 156) hd0 [] (some (L, xs)) 8 (some .boolean) lwQ lwX (lwC rc i t) 100 (jmp 1585 pL_law) rc (lwL i) [] S := by
  obtain ⟨tp, sg, fp, r, w, H, hC, hM, hW, hH⟩ := hN
  obtain ⟨n, m, hw⟩ := id hW
  have hf := hw.1
  have n5 := hf.1
  have m4 := hf.2.1
  refine Or.inr ⟨rfl, vj (j := 1) (by omega) hL, Or.inr ⟨rfl, vj (j := 2) (by omega) hL, ⟨⟨by omega, Nat.le_of_ble_eq_true rfl, Nat.le_of_ble_eq_true rfl⟩, hc_plan hC hf hw.2.1.1 _ _ ?_ ?_ ?_⟩⟩⟩
  · intro cA
    obtain ⟨hC1, g1⟩ := hC.ref (i := 1) (by decide)
    have hM1 := hM.cm g1
    refine Or.inr ⟨rfl, vj (j := 1) (by omega) hL, Or.inr ⟨rfl, vj (j := 2) (by omega) hL, ⟨⟨Nat.zero_le _, Nat.le_of_ble_eq_true rfl, Nat.le_of_ble_eq_true rfl⟩, e_mPlan hM1 hf hw.2.1.1 _ _ ?_ (fun k' j' hk' hx' hj' hy' e5' en' S' hM' hF hth => False.elim (cA ⟨⟨k', Nat.zero_le _, hk', hx'⟩, ⟨j', Nat.zero_le _, hj', hy'⟩⟩)) (fun k' j' T' hk' hx' hj' hy' ej' hT' hs' S' hM' hF hth => False.elim (cA ⟨⟨k', Nat.zero_le _, hk', hx'⟩, ⟨j', Nat.zero_le _, hj', hy'⟩⟩))⟩⟩⟩
    intro cA' S' hM' hF hth
    exact ⟨⟨Nat.zero_le _, Nat.le_of_ble_eq_true rfl, Nat.le_of_ble_eq_true rfl⟩, e_mThrown S' (And.intro (fun _ => And.intro (fun _ => ⟨rfl, show rc ≤ rc - 3 - 0 - 0 + 4 by omega, ⟨rfl, rfl, rfl, rfl, rfl, trivial⟩, INV_q hC1 hF hM' hW hH⟩) (fun q => absurd q (by decide))) (fun q => absurd hth q))⟩
  · intro k j hk hx hj hy e5 en
    obtain ⟨hC1, g1⟩ := hC.ref (i := 0) (by decide)
    have hM1 := hM.cm g1
    refine Or.inr ⟨rfl, vj (j := 1) (by omega) hL, Or.inr ⟨rfl, vj (j := 2) (by omega) hL, ⟨⟨Nat.zero_le _, Nat.le_of_ble_eq_true rfl, Nat.le_of_ble_eq_true rfl⟩, e_mPlan hM1 hf hw.2.1.1 _ _ (fun cA' S' hM' hF hth => False.elim (cA' ⟨⟨k, Nat.zero_le _, hk, hx⟩, ⟨j, Nat.zero_le _, hj, hy⟩⟩)) ?_ (fun k' j' T' hk' hx' hj' hy' ej' hT' hs' S' hM' hF hth => False.elim ((by have e := nI_un hy hy' (by omega) (by omega); have := ej' (by omega); omega)))⟩⟩⟩
    intro k' j' hk' hx' hj' hy' e5' en' S' hM' hF hth
    exact ⟨⟨Nat.zero_le _, Nat.le_of_ble_eq_true rfl, Nat.le_of_ble_eq_true rfl⟩, e_mThrown S' (And.intro (fun _ => And.intro (fun _ => ⟨rfl, show rc ≤ rc - 3 - 0 - 0 + 4 by omega, ⟨rfl, rfl, rfl, rfl, rfl, trivial⟩, INV_q hC1 hF hM' hW hH⟩) (fun q => absurd q (by decide))) (fun q => absurd hth q))⟩
  · intro k j T hk hx hj hy ej hT hs S1 c1 f1
    have hC1 := c1.out ((plV w n k T j))
    have hM1 := (hM.cm f1).out ((plV w n k T j))
    refine Or.inr ⟨rfl, vj (j := 1) (by omega) hL, Or.inr ⟨rfl, vj (j := 2) (by omega) hL, ⟨⟨Nat.zero_le _, Nat.le_of_ble_eq_true rfl, Nat.le_of_ble_eq_true rfl⟩, e_mPlan hM1 hf hw.2.1.1 _ _ (fun cA' S' hM' hF hth => False.elim (cA' ⟨⟨k, Nat.zero_le _, hk, hx⟩, ⟨j, Nat.zero_le _, hj, hy⟩⟩)) (fun k' j' hk' hx' hj' hy' e5' en' S' hM' hF hth => False.elim ((by have e := nI_un hy' hy (by omega) (by omega); have := ej (by omega); omega))) ?_⟩⟩⟩
    intro k' j' T' hk' hx' hj' hy' ej' hT' hs' S' hM' hF hth
    obtain rfl : k' = k := nI_un hx' hx (by omega) (by omega)
    obtain rfl : j' = j := nI_un hy' hy (by omega) (by omega)
    obtain rfl : T' = T := stl_un hs' hs
    exact ⟨⟨Nat.zero_le _, Nat.le_of_ble_eq_true rfl, Nat.le_of_ble_eq_true rfl⟩, e_mThrown S' (And.intro (fun _ => And.intro (fun q => absurd rfl q) (fun _ => ⟨1, rfl, vp_nI (by decide), And.intro (fun _ => ⟨rfl, show rc ≤ rc - 3 - 0 - 0 + 4 by omega, ⟨rfl, rfl, rfl, rfl, rfl, trivial⟩, INV_q hC1 hF hM' hW hH⟩) (fun q => absurd ((lg_cmp_eq _ _).mpr ((congrFun (hF 155 (Or.inr (by decide))).2 _).trans (outW_v _ _))) q)⟩)) (fun q => absurd hth q))⟩
