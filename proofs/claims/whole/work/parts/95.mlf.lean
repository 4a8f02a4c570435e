/-! ===== acts of the model: left, spend ===== -/
set_option maxHeartbeats 1000000 in
theorem e_mLeft {S : Mem} {tp : Nat} {sg : Nat → Int32} {fp : Int32} {r : Nat → Int32} {w : Nat → Int64} {H : HL} {n : Nat} (hI : MI S tp sg fp r w H) (hn : w 0 = lN n) (hn5 : n ≤ 5) (x y v : Int32) {Qr : QR} {Qx : QX} (hE : ¬ (∃ d, d < n ∧ x = nI d) → ∀ S', MI S' tp sg fp (bmp r 0) w H → FC S S' → S'.1 138 0 = 1 → Qr (some (.int 0)) S') (hA : ∀ d, d < n → x = nI d → ¬ (inR y 0 50000 ∧ inR v 0 100) → ∀ S', MI S' tp sg fp (bmp r 1) w H → FC S S' → S'.1 138 0 = 2 → Qr (some (.int 0)) S')
    (h1 : ∀ d k j, d < n → x = nI d → k ≤ 50000 → y = nI k → j ≤ 100 → v = nI j → ∀ S', MI S' tp sg fp r (u1L (u1L w (71 + 7 * d) (lN k)) (72 + 7 * d) (lN j)) ((w :: H).take 8) → FC S S' → S'.1 138 0 = 0 → Qr (some (.int (w (71 + 7 * d)).toInt32)) S') : vsp 156 10 (sX10_left 156) [.ref 138, .int x, .int y, .int v] S Qr Qx := by
  obtain ⟨i0, f0⟩ := hI.thr 0
  have t0 : (th0 S).1 138 0 = 0 := u2_s S.1 138 0 0
  have s0 : (th0 S).2 141 0 = lN n := (i0.2.2.2.1 0 (by decide)).trans hn
  obtain ⟨ib, fb, eb⟩ := i0.bad 2 (i := 1) (by decide)
  refine ⟨tM, runG rfl 120 ⟨tM, ⟨Nat.le_of_ble_eq_true rfl, Nat.le_of_ble_eq_true rfl, Nat.le_of_ble_eq_true rfl⟩, e_isDept x (th0 S) s0 hn5 (fun d hd e => And.intro (fun _ => ⟨⟨Nat.le_of_ble_eq_true rfl, Nat.le_of_ble_eq_true rfl, Nat.le_of_ble_eq_true rfl⟩, e_bad (r := 0) (by decide) 0 1 (th0 S) t0 (by decide) (fun z => absurd rfl z) (fun _ => And.intro (fun z => absurd rfl z) (fun _ => ⟨⟨Nat.le_of_ble_eq_true rfl, Nat.le_of_ble_eq_true rfl, Nat.le_of_ble_eq_true rfl⟩, e_inW y 0 50000 (by decide) (by decide) (th0 S) (fun k k1 k2 e' => And.intro (fun z => absurd z (by decide)) (fun _ => ⟨⟨Nat.le_of_ble_eq_true rfl, Nat.le_of_ble_eq_true rfl, Nat.le_of_ble_eq_true rfl⟩, e_inW v 0 100 (by decide) (by decide) (th0 S) (fun j j1 j2 e'' => And.intro (fun _ => ⟨⟨Nat.le_of_ble_eq_true rfl, Nat.le_of_ble_eq_true rfl, Nat.le_of_ble_eq_true rfl⟩, e_bad (r := 1) (by decide) 0 2 (th0 S) t0 (by decide) (fun z => absurd rfl z) (fun _ => And.intro (fun _ => ⟨⟨Nat.le_of_ble_eq_true rfl, Nat.le_of_ble_eq_true rfl, Nat.le_of_ble_eq_true rfl⟩, e_remembers i0.2.2.2.2.2.1 (th0 S) i0.2.2.2.2.1 (fun T hT => ?_)⟩) (fun z => absurd rfl z))⟩) (fun z => absurd z (by decide))) (fun q => And.intro (fun z => absurd rfl z) (fun _ => ⟨⟨Nat.le_of_ble_eq_true rfl, Nat.le_of_ble_eq_true rfl, Nat.le_of_ble_eq_true rfl⟩, e_bad (r := 1) (by decide) 1 2 (th0 S) t0 (by decide) (fun _ => And.intro (fun z => absurd z (by decide)) (fun _ => hA d hd e (fun q' => q q'.2) _ ib (f0.trans fb) eb)) (fun z => absurd z (by decide))⟩))⟩)) (fun q => And.intro (fun _ => ⟨⟨Nat.le_of_ble_eq_true rfl, Nat.le_of_ble_eq_true rfl, Nat.le_of_ble_eq_true rfl⟩, e_bad (r := 1) (by decide) 1 2 (th0 S) t0 (by decide) (fun _ => And.intro (fun z => absurd z (by decide)) (fun _ => hA d hd e (fun q' => q q'.1) _ ib (f0.trans fb) eb)) (fun z => absurd z (by decide))⟩) (fun z => absurd rfl z))⟩))⟩) (fun z => absurd z (by decide))) (fun q => And.intro (fun z => absurd rfl z) (fun _ => ⟨⟨Nat.le_of_ble_eq_true rfl, Nat.le_of_ble_eq_true rfl, Nat.le_of_ble_eq_true rfl⟩, e_bad (r := 0) (by decide) 1 1 (th0 S) t0 (by decide) (fun _ => And.intro (fun _ => ?_) (fun z => absurd z (by decide))) (fun z => absurd z (by decide))⟩))⟩⟩
  · obtain ⟨iT, fT, z0⟩ := MI_rem hI hT
    refine ⟨tM, ⟨Nat.le_of_ble_eq_true rfl, Nat.le_of_ble_eq_true rfl, Nat.le_of_ble_eq_true rfl⟩, ?_⟩
    show sX10_coming 156 [.int x, .int (nI 5)] T _ _
    rw [e]
    refine e_coming d 5 T ⟨754, tNow, vp_nI (by omega), tM, ⟨Nat.le_of_ble_eq_true rfl, Nat.le_of_ble_eq_true rfl, Nat.le_of_ble_eq_true rfl⟩, ?_⟩
    refine e_coming d 5 T ⟨754, tNow, vp_nI (by omega), tM, ⟨Nat.le_of_ble_eq_true rfl, Nat.le_of_ble_eq_true rfl, Nat.le_of_ble_eq_true rfl⟩, ?_⟩
    refine e_coming d 6 _ ⟨754, tNow, vp_nI (by omega), ?_⟩
    show Qr (some (.int (T.2 141 (nI (66 + 7 * d + 5)).toNatClampNeg).toInt32)) (T.1, u2 (u2 T.2 141 (nI (66 + 7 * d + 5)).toNatClampNeg y.toInt64) 141 (nI (66 + 7 * d + 6)).toNatClampNeg v.toInt64)
    rw [nI_clamp (by omega), nI_clamp (by omega), show 66 + 7 * d + 5 = 71 + 7 * d by omega, show 66 + 7 * d + 6 = 72 + 7 * d by omega, iT.2.2.2.1 _ (by omega), e', e'', nI_l (by omega), nI_l (by omega)]
    obtain ⟨iU, fU⟩ := iT.now (w' := u1L (u1L w (71 + 7 * d) (lN k)) (72 + 7 * d) (lN j)) (u2 (u2 T.2 141 (71 + 7 * d) (lN k)) 141 (72 + 7 * d) (lN j)) (fun i hi => by rw [u2_rowL, u2_rowL]; exact u1L_c (u1L_c (fun i hi => iT.2.2.2.1 i hi) rfl) rfl i hi) (fun c hc => (u2_other _ _ _ hc).trans (u2_other _ _ _ hc))
    exact h1 d k j hd e k2 e' j2 e'' _ iU (fT.trans fU) z0
  · obtain ⟨ib, fb, eb⟩ := i0.bad 1 (i := 0) (by decide)
    exact hE q _ ib (f0.trans fb) eb
set_option maxHeartbeats 1000000 in
theorem e_mSpend {S : Mem} {tp : Nat} {sg : Nat → Int32} {fp : Int32} {r : Nat → Int32} {w : Nat → Int64} {H : HL} {n m : Nat} (hI : MI S tp sg fp r w H) (hf : WFt w n m) (hv : ∀ d, d < n → ∀ j, 1 ≤ j → j < 4 → rg w (66 + 7 * d + j) 100000000) (x y v : Int32) {Qr : QR} {Qx : QX} (hE : ¬ (∃ d, d < n ∧ x = nI d ∧ kndP y 1 (mtN w d)) → ∀ S', MI S' tp sg fp (bmp r 0) w H → FC S S' → S'.1 138 0 = 1 → Qr (some (.int 0)) S') (hA : ∀ d, d < n → x = nI d → kndP y 1 (mtN w d) → ¬ inR v 1 100000000 → ∀ S', MI S' tp sg fp (bmp r 1) w H → FC S S' → S'.1 138 0 = 2 → Qr (some (.int 0)) S')
    (hS : ∀ d k c u, d < n → x = nI d → 1 ≤ k → k < 4 → y = nI k → kndP y 1 (mtN w d) → 1 ≤ c → c ≤ 100000000 → v = nI c → w (66 + 7 * d + k) = lN u → u ≤ 100000000 → 100000000 < u + c → ∀ S', MI S' tp sg fp (bmp r 2) w H → FC S S' → S'.1 138 0 = 3 → Qr (some (.int 0)) S')
    (h1 : ∀ d k c u, d < n → x = nI d → 1 ≤ k → k < 4 → y = nI k → kndP y 1 (mtN w d) → 1 ≤ c → c ≤ 100000000 → v = nI c → w (66 + 7 * d + k) = lN u → u + c ≤ 100000000 → ∀ S', MI S' tp sg fp r (u1L w (66 + 7 * d + k) (lN (u + c))) ((w :: H).take 8) → FC S S' → S'.1 138 0 = 0 → Qr (some (.int (nI (u + c)))) S') : vsp 156 10 (sX10_spend 156) [.ref 138, .int x, .int y, .int v] S Qr Qx := by
  obtain ⟨i0, f0⟩ := hI.thr 0
  have t0 : (th0 S).1 138 0 = 0 := u2_s S.1 138 0 0
  have hn5 := hf.1
  have s0 : (th0 S).2 141 0 = lN n := (i0.2.2.2.1 0 (by decide)).trans hf.2.2.1
  obtain ⟨ib0, fb0, eb0⟩ := i0.bad 1 (i := 0) (by decide)
  obtain ⟨ib, fb, eb⟩ := i0.bad 2 (i := 1) (by decide)
  obtain ⟨ib2, fb2, eb2⟩ := i0.bad 3 (i := 2) (by decide)
  refine ⟨tM, runG rfl 160 ⟨tM, ⟨Nat.le_of_ble_eq_true rfl, Nat.le_of_ble_eq_true rfl, Nat.le_of_ble_eq_true rfl⟩, e_isDept x (th0 S) s0 hn5 (fun d hd e => And.intro (fun z => absurd z (by decide)) (fun _ => ⟨⟨Nat.le_of_ble_eq_true rfl, Nat.le_of_ble_eq_true rfl, Nat.le_of_ble_eq_true rfl⟩, ?_⟩)) (fun q => And.intro (fun _ => ⟨⟨Nat.le_of_ble_eq_true rfl, Nat.le_of_ble_eq_true rfl, Nat.le_of_ble_eq_true rfl⟩, e_bad (r := 0) (by decide) 1 1 (th0 S) t0 (by decide) (fun _ => And.intro (fun _ => hE (fun ⟨d, a, b, _⟩ => q ⟨d, a, b⟩) _ ib0 (f0.trans fb0) eb0) (fun z => absurd z (by decide))) (fun z => absurd z (by decide))⟩) (fun z => absurd rfl z))⟩⟩
  obtain ⟨-, -, -, -, ⟨mm, mm2, em, -⟩, -⟩ := hf.2.2.2.2.2.1 d hd
  have emt : mtN w d = mm := by unfold mtN cnt; rw [em, lN_clamp (by omega)]
  have sm : (th0 S).2 141 (5 + 9 * d + 4) = lN (mtN w d) := by rw [emt]; exact (i0.2.2.2.1 _ (by omega)).trans em
  show vsp 156 10 (sX10_isKind 156) [.ref 138, .int x, .int y, .int (nI 1)] (th0 S) _ _
  rw [e]
  refine e_isKind (l := 1) (by omega) y (th0 S) sm (by omega) (by decide) (fun kp => And.intro (fun _ => ⟨⟨Nat.le_of_ble_eq_true rfl, Nat.le_of_ble_eq_true rfl, Nat.le_of_ble_eq_true rfl⟩, e_bad (r := 0) (by decide) 0 1 (th0 S) t0 (by decide) (fun z => absurd rfl z) (fun _ => And.intro (fun z => absurd rfl z) (fun _ => ⟨⟨Nat.le_of_ble_eq_true rfl, Nat.le_of_ble_eq_true rfl, Nat.le_of_ble_eq_true rfl⟩, e_inW v 1 100000000 (by decide) (by decide) (th0 S) (fun c c1 c2 e3 => And.intro (fun _ => ⟨⟨Nat.le_of_ble_eq_true rfl, Nat.le_of_ble_eq_true rfl, Nat.le_of_ble_eq_true rfl⟩, e_bad (r := 1) (by decide) 0 2 (th0 S) t0 (by decide) (fun z => absurd rfl z) (fun _ => And.intro (fun z => absurd rfl z) (fun _ => ⟨tM, ⟨Nat.le_of_ble_eq_true rfl, Nat.le_of_ble_eq_true rfl, Nat.le_of_ble_eq_true rfl⟩, ?_⟩))⟩) (fun z => absurd z (by decide))) (fun q => And.intro (fun z => absurd rfl z) (fun _ => ⟨⟨Nat.le_of_ble_eq_true rfl, Nat.le_of_ble_eq_true rfl, Nat.le_of_ble_eq_true rfl⟩, e_bad (r := 1) (by decide) 1 2 (th0 S) t0 (by decide) (fun _ => And.intro (fun _ => hA d hd e kp q _ ib (f0.trans fb) eb) (fun z => absurd z (by decide))) (fun z => absurd z (by decide))⟩))⟩))⟩) (fun z => absurd z (by decide))) (fun q => And.intro (fun z => absurd rfl z) (fun _ => ⟨⟨Nat.le_of_ble_eq_true rfl, Nat.le_of_ble_eq_true rfl, Nat.le_of_ble_eq_true rfl⟩, e_bad (r := 0) (by decide) 1 1 (th0 S) t0 (by decide) (fun _ => And.intro (fun _ => hE (fun ⟨d', a, b, kk⟩ => q (by
    have : d' = d := (nI_eq (by omega) (by omega)).mp (b.symm.trans e)
    subst this; exact kk)) _ ib0 (f0.trans fb0) eb0) (fun z => absurd z (by decide))) (fun z => absurd z (by decide))⟩))
  have kp' := kp
  obtain ⟨k, k4, ey, kl, -⟩ := kp'
  obtain ⟨u, u8, ev⟩ := hv d hd k kl k4
  show sX10_coming 156 [.int (nI d), .int y] (th0 S) _ _
  rw [ey]
  have su0 : (th0 S).2 141 (66 + 7 * d + k) = lN u := (i0.2.2.2.1 _ (by omega)).trans ev
  have su : (th0 S).2 141 (66 + 7 * d + k) + v.toInt64 = lN (u + c) := by rw [su0, e3, nI_l (by omega), lN_add]
  refine e_coming d k (th0 S) ⟨754, tNow, vp_nI (by omega), And.intro (fun q => ?_) (fun q => ?_)⟩
  · have q : (th0 S).2 141 (nI (66 + 7 * d + k)).toNatClampNeg + v.toInt64 ≤ lN 100000000 := (lg_cmp_le _ _).mp q
    rw [nI_clamp (by omega), su] at q
    have q := (lN_le (by omega) (by decide)).mp q
    refine ⟨⟨Nat.le_of_ble_eq_true rfl, Nat.le_of_ble_eq_true rfl, Nat.le_of_ble_eq_true rfl⟩, e_bad (r := 2) (by decide) 0 3 (th0 S) t0 (by decide) (fun z => absurd rfl z) (fun _ => And.intro (fun _ => ⟨⟨Nat.le_of_ble_eq_true rfl, Nat.le_of_ble_eq_true rfl, Nat.le_of_ble_eq_true rfl⟩, e_remembers i0.2.2.2.2.2.1 (th0 S) i0.2.2.2.2.1 (fun T hT => ⟨tM, ⟨Nat.le_of_ble_eq_true rfl, Nat.le_of_ble_eq_true rfl, Nat.le_of_ble_eq_true rfl⟩, ?_⟩)⟩) (fun z => absurd rfl z))⟩
    obtain ⟨iT, fT, z0⟩ := MI_rem hI hT
    have tu : T.2 141 (66 + 7 * d + k) + v.toInt64 = lN (u + c) := by rw [iT.2.2.2.1 _ (by omega), ev, e3, nI_l (by omega), lN_add]
    refine e_coming d k T ⟨754, tNow, vp_nI (by omega), 754, tNow, vp_nI (by omega), tM, ⟨Nat.le_of_ble_eq_true rfl, Nat.le_of_ble_eq_true rfl, Nat.le_of_ble_eq_true rfl⟩, ?_⟩
    refine e_coming d k _ ⟨754, tNow, vp_nI (by omega), ?_⟩
    show Qr (some (.int (u2 T.2 141 (nI (66 + 7 * d + k)).toNatClampNeg (T.2 141 (nI (66 + 7 * d + k)).toNatClampNeg + v.toInt64) 141 (nI (66 + 7 * d + k)).toNatClampNeg).toInt32)) (T.1, u2 T.2 141 (nI (66 + 7 * d + k)).toNatClampNeg (T.2 141 (nI (66 + 7 * d + k)).toNatClampNeg + v.toInt64))
    rw [u2_s, nI_clamp (by omega), tu, lN_i]
    obtain ⟨iU, fU⟩ := iT.now (w' := u1L w (66 + 7 * d + k) (lN (u + c))) (u2 T.2 141 (66 + 7 * d + k) (lN (u + c))) (fun i hi => by rw [u2_rowL]; exact u1L_c (fun i hi => iT.2.2.2.1 i hi) rfl i hi) (fun c hc => u2_other _ _ _ hc)
    exact h1 d k c u hd e kl k4 ey kp c1 c2 e3 ev q _ iU (fT.trans fU) z0
  · have q : ¬ (th0 S).2 141 (nI (66 + 7 * d + k)).toNatClampNeg + v.toInt64 ≤ lN 100000000 := fun q' => q ((lg_cmp_le _ _).mpr q')
    rw [nI_clamp (by omega), su] at q
    have q : 100000000 < u + c := by
      rcases Nat.lt_or_ge 100000000 (u + c) with q' | q'
      · exact q'
      · exact absurd ((lN_le (by omega) (by decide)).mpr q') q
    exact ⟨⟨Nat.le_of_ble_eq_true rfl, Nat.le_of_ble_eq_true rfl, Nat.le_of_ble_eq_true rfl⟩, e_bad (r := 2) (by decide) 1 3 (th0 S) t0 (by decide) (fun _ => And.intro (fun z => absurd z (by decide)) (fun _ => hS d k c u hd e kl k4 ey kp c1 c2 e3 ev u8 q _ ib2 (f0.trans fb2) eb2)) (fun z => absurd z (by decide))⟩
