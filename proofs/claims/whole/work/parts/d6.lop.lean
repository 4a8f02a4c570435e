/-! ===== the law's cases without helpers; its loop ===== -/
set_option maxRecDepth 20000 in
set_option maxHeartbeats 2000000 in
theorem lw_feed {L : Nat} {xs : Nat → Int32} {i t rc : Nat} (hi : i + 6 ≤ L) (hL : L ≤ 3072) (ht : t ≤ 512) (hrc : 4 ≤ rc) {S : Mem} (hN : INV S t) : wp 156 pL_law (kL_law 156) hd0 [] (some (L, xs)) 8 (some .boolean) lwQ lwX (lwC rc i t) 100 (jmp 160 pL_law) rc (lwL i) [] S := by
  obtain ⟨tp, sg, fp, r, w, H, hC, hM, hW, hH⟩ := hN
  have tp4 : tp ≤ 400 := hC.2.2.1.2.1
  refine Or.inr ⟨rfl, vj (j := 1) (by omega) hL, Or.inr ⟨rfl, vj (j := 2) (by omega) hL, Or.inr ⟨rfl, vj (j := 3) (by omega) hL, Or.inr ⟨rfl, vj (j := 4) (by omega) hL, Or.inr ⟨rfl, vj (j := 5) (by omega) hL, ⟨Nat.zero_le _, Nat.le_of_ble_eq_true rfl, Nat.le_of_ble_eq_true rfl⟩, e_cFeed hC _ _ _ _ _ ?_ ?_⟩⟩⟩⟩⟩
  · intro h0
    exact Or.inr ⟨rfl, vj (j := 1) (by omega) hL, Or.inr ⟨rfl, vj (j := 2) (by omega) hL, Or.inr ⟨rfl, vj (j := 3) (by omega) hL, Or.inr ⟨rfl, vj (j := 4) (by omega) hL, Or.inr ⟨rfl, vj (j := 5) (by omega) hL, ⟨Nat.zero_le _, Nat.le_of_ble_eq_true rfl, Nat.le_of_ble_eq_true rfl⟩, e_mFeed hM tp4 _ _ _ _ _ (fun _ S' hM' hF => And.intro (fun _ => ⟨rfl, show rc ≤ rc - 0 - 0 + 4 by omega, ⟨rfl, rfl, rfl, rfl, rfl, trivial⟩, INV_q hC hF hM' hW hH⟩) (fun q => absurd rfl q)) (fun h1 => absurd h1 (by omega))⟩⟩⟩⟩⟩
  · intro h1 S1 c1 f1
    exact Or.inr ⟨rfl, vj (j := 1) (by omega) hL, Or.inr ⟨rfl, vj (j := 2) (by omega) hL, Or.inr ⟨rfl, vj (j := 3) (by omega) hL, Or.inr ⟨rfl, vj (j := 4) (by omega) hL, Or.inr ⟨rfl, vj (j := 5) (by omega) hL, ⟨Nat.zero_le _, Nat.le_of_ble_eq_true rfl, Nat.le_of_ble_eq_true rfl⟩, e_mFeed (hM.cm f1) tp4 _ _ _ _ _ (fun h0 => absurd h0 (by omega)) (fun _ S' hM' hF => And.intro (fun _ => ⟨rfl, show rc ≤ rc - 0 - 0 + 4 by omega, ⟨rfl, rfl, rfl, rfl, rfl, trivial⟩, INV_q c1 hF hM' hW hH⟩) (fun q => absurd rfl q))⟩⟩⟩⟩⟩
set_option maxRecDepth 20000 in
set_option maxHeartbeats 2000000 in
theorem lw_fault {L : Nat} {xs : Nat → Int32} {i t rc : Nat} (hi : i + 6 ≤ L) (hL : L ≤ 3072) (ht : t ≤ 512) (hrc : 4 ≤ rc) {S : Mem} (hN : INV S t) : wp 156 pL_law (kL_law 156) hd0 [] (some (L, xs)) 8 (some .boolean) lwQ lwX (lwC rc i t) 100 (jmp 289 pL_law) rc (lwL i) [] S := by
  obtain ⟨tp, sg, fp, r, w, H, hC, hM, hW, hH⟩ := hN
  exact ⟨⟨Nat.zero_le _, Nat.le_of_ble_eq_true rfl, Nat.le_of_ble_eq_true rfl⟩, e_cFault hC ⟨⟨Nat.zero_le _, Nat.le_of_ble_eq_true rfl, Nat.le_of_ble_eq_true rfl⟩, e_mFault hM (fun S' hM' hF => And.intro (fun _ => ⟨rfl, show rc ≤ rc - 0 - 0 + 4 by omega, ⟨rfl, rfl, rfl, rfl, rfl, trivial⟩, INV_q hC hF hM' hW hH⟩) (fun q => absurd rfl q))⟩⟩
set_option maxRecDepth 20000 in
set_option maxHeartbeats 2000000 in
theorem lw_undo {L : Nat} {xs : Nat → Int32} {i t rc : Nat} (hi : i + 6 ≤ L) (hL : L ≤ 3072) (ht : t ≤ 512) (hrc : 4 ≤ rc) {S : Mem} (hN : INV S t) : wp 156 pL_law (kL_law 156) hd0 [] (some (L, xs)) 8 (some .boolean) lwQ lwX (lwC rc i t) 100 (jmp 696 pL_law) rc (lwL i) [] S := by
  obtain ⟨tp, sg, fp, r, w, H, hC, hM, hW, hH⟩ := hN
  refine ⟨⟨Nat.zero_le _, Nat.le_of_ble_eq_true rfl, Nat.le_of_ble_eq_true rfl⟩, e_cUndo hC (fun h0 => ?_) (fun w' H' e S1 c1 f1 => ?_)⟩
  · exact ⟨⟨Nat.zero_le _, Nat.le_of_ble_eq_true rfl, Nat.le_of_ble_eq_true rfl⟩, e_mUndo hM (fun _ S' hM' hF _ => And.intro (fun _ => ⟨rfl, show rc ≤ rc - 0 - 0 + 4 by omega, ⟨rfl, rfl, rfl, rfl, rfl, trivial⟩, INV_q hC hF hM' hW hH⟩) (fun q => absurd rfl q)) (fun w' H' e => absurd (h0.symm.trans e) (by simp))⟩
  · refine ⟨⟨Nat.zero_le _, Nat.le_of_ble_eq_true rfl, Nat.le_of_ble_eq_true rfl⟩, e_mUndo (hM.cm f1) (fun h0 => absurd (h0.symm.trans e) (by simp)) (fun w2 H2 e2 S' hM' hF _ => ?_)⟩
    obtain ⟨rfl, rfl⟩ := List.cons.inj (e2.symm.trans e)
    exact And.intro (fun _ => ⟨rfl, show rc ≤ rc - 0 - 0 + 4 by omega, ⟨rfl, rfl, rfl, rfl, rfl, trivial⟩, ⟨tp, sg, fp, r, w2, H2, c1.cc hF, hM', (hH w2 (by rw [e]; exact List.mem_cons_self)).up (by omega), fun h x => (hH h (by rw [e]; exact List.mem_cons_of_mem _ x)).up (by omega)⟩⟩) (fun q => absurd rfl q)
set_option maxRecDepth 20000 in
set_option maxHeartbeats 2000000 in
theorem lw_print {L : Nat} {xs : Nat → Int32} {i t rc : Nat} (hi : i + 6 ≤ L) (hL : L ≤ 3072) (ht : t ≤ 512) (hrc : 4 ≤ rc) {S : Mem} (hN : INV S t) : wp 156 pL_law (kL_law 156) hd0 [] (some (L, xs)) 8 (some .boolean) lwQ lwX (lwC rc i t) 100 (jmp 1652 pL_law) rc (lwL i) [] S := by
  obtain ⟨tp, sg, fp, r, w, H, hC, hM, hW, hH⟩ := hN
  obtain ⟨n, m, hw⟩ := id hW
  exact ⟨⟨Nat.zero_le _, Nat.le_of_ble_eq_true rfl, Nat.le_of_ble_eq_true rfl⟩, e_cPrint hC hw.1 ⟨⟨Nat.zero_le _, Nat.le_of_ble_eq_true rfl, Nat.le_of_ble_eq_true rfl⟩, e_mPrint hM hw.1 hw.lay (fun S' hM' hF => And.intro (fun _ => ⟨rfl, show rc ≤ rc - 0 - 0 + 4 by omega, ⟨rfl, rfl, rfl, rfl, rfl, trivial⟩, INV_q hC hF hM' hW hH⟩) (fun q => absurd ((lg_cmp_eq _ _).mpr rfl) q))⟩⟩
set_option maxRecDepth 20000 in
set_option maxHeartbeats 2000000 in
theorem lw_status {L : Nat} {xs : Nat → Int32} {i t rc : Nat} (hi : i + 6 ≤ L) (hL : L ≤ 3072) (ht : t ≤ 512) (hrc : 4 ≤ rc) {S : Mem} (hN : INV S t) : wp 156 pL_law (kL_law 156) hd0 [] (some (L, xs)) 8 (some .boolean) lwQ lwX (lwC rc i t) 100 (jmp 1666 pL_law) rc (lwL i) [] S := by
  obtain ⟨tp, sg, fp, r, w, H, hC, hM, hW, hH⟩ := hN
  refine Or.inr ⟨rfl, vj (j := 1) (by omega) hL, ⟨Nat.zero_le _, Nat.le_of_ble_eq_true rfl, Nat.le_of_ble_eq_true rfl⟩, e_cStatus hC _ (fun h0 => ?_) (fun k hk hx => ?_)⟩
  · exact Or.inr ⟨rfl, vj (j := 1) (by omega) hL, ⟨Nat.zero_le _, Nat.le_of_ble_eq_true rfl, Nat.le_of_ble_eq_true rfl⟩, e_mStatus hM _ (fun _ S' hM' hF => And.intro (fun _ => ⟨rfl, show rc ≤ rc - 0 - 0 + 4 by omega, ⟨rfl, rfl, rfl, rfl, rfl, trivial⟩, INV_q hC hF hM' hW hH⟩) (fun q => absurd rfl q)) (fun k hk hx => False.elim (h0 ⟨k, Nat.zero_le _, hk, hx⟩))⟩
  · refine Or.inr ⟨rfl, vj (j := 1) (by omega) hL, ⟨Nat.zero_le _, Nat.le_of_ble_eq_true rfl, Nat.le_of_ble_eq_true rfl⟩, e_mStatus hM _ (fun h0 => False.elim (h0 ⟨k, Nat.zero_le _, hk, hx⟩)) (fun k' hk' hx' S' hM' hF => ?_)⟩
    obtain rfl : k' = k := nI_un hx' hx (by omega) (by omega)
    exact And.intro (fun _ => ⟨rfl, show rc ≤ rc - 0 - 0 + 4 by omega, ⟨rfl, rfl, rfl, rfl, rfl, trivial⟩, INV_q hC hF hM' hW hH⟩) (fun q => absurd rfl q)
theorem INV.up {S : Mem} {t : Nat} (h : INV S t) : INV S (t + 1) := by
  obtain ⟨tp, sg, fp, r, w, H, hC, hM, hW, hH⟩ := h
  exact ⟨tp, sg, fp, r, w, H, hC, hM, hW.up (by omega), fun h x => (hH h x).up (by omega)⟩
theorem nI_tI {n : Nat} (h : n < 2 ^ 31) : (nI n).toInt = (n : Int) := Int32.toInt_ofNat_of_lt h
theorem lw_end {L i : Nat} (hL : L ≤ 3072) (hi : i ≤ 3072) : Int32.ofNat L - 6 < nI i ↔ L < i + 6 := by
  have e1 : (Int32.ofNat L - 6).toInt = (L : Int) - 6 := s_sub (nI_tI (by omega)) (show (6 : Int32).toInt = 6 from rfl) (by omega)
  rw [Int32.lt_iff_toInt_lt, e1, nI_tI (by omega)]
  omega
set_option maxRecDepth 20000 in
set_option maxHeartbeats 4000000 in
theorem law_loop {L : Nat} {xs : Nat → Int32} (hL : L ≤ 3072) {G : GT} (hG : BODY 156 pL_law (kL_law 156) hd0 [] (some (L, xs)) 8 (some .boolean) lwQ lwX G) (hw : WK G) : ∀ (k i t rc : Nat) (S : Mem), L ≤ i + 6 * k → t + k ≤ 512 → 4 * k ≤ rc → i ≤ 3072 → INV S t → G 23 rc (lwL i) [] S := by
  intro k
  induction k with
  | zero =>
    intro i t rc S h1 h2 h3 h4 hN
    refine hG [] 111 23 rc (lwL i) [] S noCuts ?_
    exact Or.inr ⟨rfl, And.intro (fun _ => ⟨Or.inr rfl, rfl⟩) (fun q => absurd ((lw_end hL h4).mpr (by omega)) q)⟩
  | succ k ih =>
    intro i t rc S h1 h2 h3 h4 hN
    by_cases hi : i + 6 ≤ L
    · have ht : t ≤ 512 := by omega
      have hrc : 4 ≤ rc := by omega
      refine hG (lwC rc i t) 111 23 rc (lwL i) [] S ?_ ?_
      · intro q hq rc' L' st S' hP
        rw [show lwC rc i t = [(1691, fun rc' L st S => st = [] ∧ rc ≤ rc' + 4 ∧ sb (lwL i) L ∧ INV S (t + 1))] from rfl, List.mem_singleton] at hq
        subst hq
        obtain ⟨rfl, hr, hs, hI⟩ := hP
        refine hw _ _ _ (lwL i) _ _ ?_ (sb_mem hs)
        refine hG [(23, fun rc2 L2 st2 S2 => rc2 = rc' ∧ st2 = [] ∧ S2 = S' ∧ sb (lwL (i + 6)) L2)] 10 1691 rc' (lwL i) [] S' ?_ ?_
        · intro q hq rc2 L2 st2 S2 hP
          rw [List.mem_singleton] at hq
          subst hq
          obtain ⟨rfl, rfl, rfl, hs2⟩ := hP
          exact hw _ _ _ (lwL (i + 6)) _ _ (ih (i + 6) (t + 1) rc2 S2 (by omega) (by omega) (by omega) (by omega) hI) (sb_mem hs2)
        · exact ⟨rfl, rfl, rfl, congrArg (fun z => some (Value.int z)) (nI_add i 6), rfl, rfl, rfl, rfl, trivial⟩
      · refine Or.inr ⟨rfl, And.intro (fun q => absurd ((lw_end hL h4).mp q) (by omega)) (fun _ => Or.inr ⟨rfl, vp_nI (show i < L by omega) (by omega), ?_⟩)⟩
        exact ⟨fun _ => ⟨rfl, by omega, ⟨rfl, rfl, rfl, rfl, rfl, trivial⟩, hN.up⟩, fun _ => lw_feed hi hL ht hrc hN, fun _ => lw_text hi hL ht hrc hN, fun _ => lw_fault hi hL ht hrc hN, fun _ => lw_start hi hL ht hrc hN, fun _ => lw_spend hi hL ht hrc hN, fun _ => lw_lost hi hL ht hrc hN, fun _ => lw_left hi hL ht hrc hN, fun _ => lw_close hi hL ht hrc hN, fun _ => lw_sell hi hL ht hrc hN, fun _ => lw_undo hi hL ht hrc hN, fun _ => lw_told hi hL ht hrc hN, fun _ => lw_department hi hL ht hrc hN, fun _ => lw_product hi hL ht hrc hN, fun _ => lw_work hi hL ht hrc hN, fun _ => lw_units hi hL ht hrc hN, fun _ => lw_asDone hi hL ht hrc hN, fun _ => lw_cents hi hL ht hrc hN, fun _ => lw_loss hi hL ht hrc hN, fun _ => lw_other hi hL ht hrc hN, fun _ => lw_parted hi hL ht hrc hN, fun _ => lw_store hi hL ht hrc hN, fun _ => lw_layer hi hL ht hrc hN, fun _ => lw_account hi hL ht hrc hN, fun _ => lw_plan hi hL ht hrc hN, fun _ => lw_print hi hL ht hrc hN, fun _ => lw_status hi hL ht hrc hN, trivial⟩
    · refine hG [] 111 23 rc (lwL i) [] S noCuts ?_
      exact Or.inr ⟨rfl, And.intro (fun _ => ⟨Or.inr rfl, rfl⟩) (fun q => absurd ((lw_end hL h4).mpr (by omega)) q)⟩
