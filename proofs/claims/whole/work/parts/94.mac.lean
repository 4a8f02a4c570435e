/-! ===== acts of the model: start, lost, left, spend, undo ===== -/
theorem MI_rem {S T : Mem} {tp : Nat} {sg : Nat → Int32} {fp : Int32} {r : Nat → Int32} {w : Nat → Int64} {H : HL} (hI : MI S tp sg fp r w H) (hR : remR (th0 S) T H.length) : MI T tp sg fp r w ((w :: H).take 8) ∧ FC S T ∧ T.1 138 0 = 0 := by
  obtain ⟨h1, f1⟩ := hI.thr 0
  obtain ⟨a, b, ⟨c1, c2⟩, d, e⟩ := h1
  have hM := hisM_rem (S := th0 S) e d hR
  obtain ⟨r1, r2, r3, r4⟩ := hR
  have e1 : ∀ c, c ≠ 138 → T.1 c = (th0 S).1 c := fun c hc => by rw [r4]; exact u2_other _ _ _ hc
  have e2 : ∀ j, j ≠ 13 → T.1 138 j = (th0 S).1 138 j := fun j hj => by rw [r4]; exact u2_j _ _ _ _ hj
  refine ⟨⟨(e2 5 (by decide)).trans a, fun i hi => by rw [e1 139 (by decide)]; exact b i hi, ⟨(e2 2 (by decide)).trans c1, fun i hi => by rw [e1 140 (by decide)]; exact c2 i hi⟩, fun i hi => by rw [r3 141 (by decide)]; exact d i hi, hM⟩, fun c hc => ⟨(e1 c (by omega)).trans (f1 c hc).1, (r3 c (by omega)).trans (f1 c hc).2⟩, (e2 0 (by decide)).trans (u2_s S.1 138 0 0)⟩
theorem MI.now {T : Mem} {tp : Nat} {sg : Nat → Int32} {fp : Int32} {r : Nat → Int32} {w w' : Nat → Int64} {H : HL} (h : MI T tp sg fp r w H) (X : Nat → Nat → Int64) (h1 : ∀ i, i < 754 → X 141 i = w' i) (h2 : ∀ c, c ≠ 141 → X c = T.2 c) : MI (T.1, X) tp sg fp r w' H ∧ FC T (T.1, X) := by
  obtain ⟨a, b, c, d, ⟨e1, e2, e3⟩⟩ := h
  exact ⟨⟨a, b, c, h1, ⟨e1, e2, fun i hi j hj => by show X (145 + (H.length - 1 - i)) j = _; rw [h2 _ (by omega)]; exact e3 i hi j hj⟩⟩, fun c hc => ⟨rfl, h2 c (by omega)⟩⟩
set_option maxHeartbeats 1000000 in
theorem e_mStart {S : Mem} {tp : Nat} {sg : Nat → Int32} {fp : Int32} {r : Nat → Int32} {w : Nat → Int64} {H : HL} {s : Nat} (hI : MI S tp sg fp r w H) (hs : w 4 = lN s) (hs4 : s ≤ 10000) (x : Int32) {Qr : QR} {Qx : QX} (hA : ¬ inR x 1 10000 → ∀ S', MI S' tp sg fp (bmp r 1) w H → FC S S' → S'.1 138 0 = 1 → Qr (some (.int 0)) S') (hS : ∀ k, 1 ≤ k → k ≤ 10000 → x = nI k → 10000 < s + k → ∀ S', MI S' tp sg fp (bmp r 2) w H → FC S S' → S'.1 138 0 = 2 → Qr (some (.int 0)) S')
    (h1 : ∀ k, 1 ≤ k → k ≤ 10000 → x = nI k → s + k ≤ 10000 → ∀ S', MI S' tp sg fp r (u1L w 4 (lN (s + k))) ((w :: H).take 8) → FC S S' → S'.1 138 0 = 0 → Qr (some (.int (nI (s + k)))) S') : vsp 156 10 (sX10_start 156) [.ref 138, .int x] S Qr Qx := by
  obtain ⟨i0, f0⟩ := hI.thr 0
  have t0 : (th0 S).1 138 0 = 0 := u2_s S.1 138 0 0
  have s4 : (th0 S).2 141 4 = lN s := (i0.2.2.2.1 4 (by decide)).trans hs
  refine ⟨tM, runG rfl 120 ⟨tM, ⟨Nat.le_of_ble_eq_true rfl, Nat.le_of_ble_eq_true rfl, Nat.le_of_ble_eq_true rfl⟩, e_inW x 1 10000 (by decide) (by decide) (th0 S) (fun k k1 k2 e => And.intro (fun _ => ⟨⟨Nat.le_of_ble_eq_true rfl, Nat.le_of_ble_eq_true rfl, Nat.le_of_ble_eq_true rfl⟩, e_bad (r := 1) (by decide) 0 1 (th0 S) t0 (by decide) (fun z => absurd rfl z) (fun _ => And.intro (fun z => absurd rfl z) (fun _ => ?_))⟩) (fun z => absurd z (by decide))) (fun q => And.intro (fun z => absurd rfl z) (fun _ => ⟨⟨Nat.le_of_ble_eq_true rfl, Nat.le_of_ble_eq_true rfl, Nat.le_of_ble_eq_true rfl⟩, e_bad (r := 1) (by decide) 1 1 (th0 S) t0 (by decide) (fun _ => And.intro (fun _ => ?_) (fun z => absurd z (by decide))) (fun z => absurd z (by decide))⟩))⟩⟩
  · have sk : (th0 S).2 141 4 + x.toInt64 = lN (s + k) := by rw [s4, e, nI_l (by omega), lN_add]
    refine ⟨tM, 754, tNow, vp_nI (n := 4) (by decide), And.intro (fun y => ?_) (fun y => ?_)⟩
    · have y : (th0 S).2 141 4 + x.toInt64 ≤ lN 10000 := (lg_cmp_le _ _).mp y
      rw [sk] at y
      have y := (lN_le (by omega) (by decide)).mp y
      refine ⟨⟨Nat.le_of_ble_eq_true rfl, Nat.le_of_ble_eq_true rfl, Nat.le_of_ble_eq_true rfl⟩, e_bad (r := 2) (by decide) 0 2 (th0 S) t0 (by decide) (fun z => absurd rfl z) (fun _ => And.intro (fun _ => ⟨⟨Nat.le_of_ble_eq_true rfl, Nat.le_of_ble_eq_true rfl, Nat.le_of_ble_eq_true rfl⟩, e_remembers i0.2.2.2.2.2.1 (th0 S) i0.2.2.2.2.1 (fun T hT => ?_)⟩) (fun z => absurd rfl z))⟩
      obtain ⟨iT, fT, z0⟩ := MI_rem hI hT
      have t4 : T.2 141 4 + x.toInt64 = lN (s + k) := by rw [iT.2.2.2.1 4 (by decide), hs, e, nI_l (by omega), lN_add]
      refine ⟨tM, 754, tNow, vp_nI (n := 4) (by decide), 754, tNow, vp_nI (n := 4) (by decide), tM, 754, tNow, vp_nI (n := 4) (by decide), ?_⟩
      show Qr (some (.int (u2 T.2 141 4 (T.2 141 4 + x.toInt64) 141 4).toInt32)) (T.1, u2 T.2 141 4 (T.2 141 4 + x.toInt64))
      rw [u2_s, t4, lN_i]
      obtain ⟨iU, fU⟩ := iT.now (w' := u1L w 4 (lN (s + k))) (u2 T.2 141 4 (lN (s + k))) (fun i hi => by rw [u2_rowL]; exact u1L_c (fun i hi => iT.2.2.2.1 i hi) rfl i hi) (fun c hc => u2_other _ _ _ hc)
      exact h1 k k1 k2 e y _ iU (fT.trans fU) z0
    · have y : ¬ (th0 S).2 141 4 + x.toInt64 ≤ lN 10000 := fun q => y ((lg_cmp_le _ _).mpr q)
      rw [sk] at y
      have y : 10000 < s + k := by
        rcases Nat.lt_or_ge 10000 (s + k) with q | q
        · exact q
        · exact absurd ((lN_le (by omega) (by decide)).mpr q) y
      obtain ⟨ib, fb, eb⟩ := i0.bad 2 (i := 2) (by decide)
      exact ⟨⟨Nat.le_of_ble_eq_true rfl, Nat.le_of_ble_eq_true rfl, Nat.le_of_ble_eq_true rfl⟩, e_bad (r := 2) (by decide) 1 2 (th0 S) t0 (by decide) (fun _ => And.intro (fun z => absurd z (by decide)) (fun _ => hS k k1 k2 e y _ ib (f0.trans fb) eb)) (fun z => absurd z (by decide))⟩
  · obtain ⟨ib, fb, eb⟩ := i0.bad 1 (i := 1) (by decide)
    exact hA q _ ib (f0.trans fb) eb
set_option maxHeartbeats 1000000 in
theorem e_mLost {S : Mem} {tp : Nat} {sg : Nat → Int32} {fp : Int32} {r : Nat → Int32} {w : Nat → Int64} {H : HL} {n : Nat} (hI : MI S tp sg fp r w H) (hn : w 0 = lN n) (hn5 : n ≤ 5) (x y : Int32) {Qr : QR} {Qx : QX} (hE : ¬ (∃ d, d < n ∧ x = nI d) → ∀ S', MI S' tp sg fp (bmp r 0) w H → FC S S' → S'.1 138 0 = 1 → Qr (some (.int 0)) S') (hA : ∀ d, d < n → x = nI d → ¬ inR y 0 50000 → ∀ S', MI S' tp sg fp (bmp r 1) w H → FC S S' → S'.1 138 0 = 2 → Qr (some (.int 0)) S')
    (h1 : ∀ d k, d < n → x = nI d → k ≤ 50000 → y = nI k → ∀ S', MI S' tp sg fp r (u1L w (70 + 7 * d) (lN k)) ((w :: H).take 8) → FC S S' → S'.1 138 0 = 0 → Qr (some (.int (w (70 + 7 * d)).toInt32)) S') : vsp 156 10 (sX10_lost 156) [.ref 138, .int x, .int y] S Qr Qx := by
  obtain ⟨i0, f0⟩ := hI.thr 0
  have t0 : (th0 S).1 138 0 = 0 := u2_s S.1 138 0 0
  have s0 : (th0 S).2 141 0 = lN n := (i0.2.2.2.1 0 (by decide)).trans hn
  refine ⟨tM, runG rfl 120 ⟨tM, ⟨Nat.le_of_ble_eq_true rfl, Nat.le_of_ble_eq_true rfl, Nat.le_of_ble_eq_true rfl⟩, e_isDept x (th0 S) s0 hn5 (fun d hd e => And.intro (fun _ => ⟨⟨Nat.le_of_ble_eq_true rfl, Nat.le_of_ble_eq_true rfl, Nat.le_of_ble_eq_true rfl⟩, e_bad (r := 0) (by decide) 0 1 (th0 S) t0 (by decide) (fun z => absurd rfl z) (fun _ => And.intro (fun z => absurd rfl z) (fun _ => ⟨⟨Nat.le_of_ble_eq_true rfl, Nat.le_of_ble_eq_true rfl, Nat.le_of_ble_eq_true rfl⟩, e_inW y 0 50000 (by decide) (by decide) (th0 S) (fun k k1 k2 e' => And.intro (fun _ => ⟨⟨Nat.le_of_ble_eq_true rfl, Nat.le_of_ble_eq_true rfl, Nat.le_of_ble_eq_true rfl⟩, e_bad (r := 1) (by decide) 0 2 (th0 S) t0 (by decide) (fun z => absurd rfl z) (fun _ => And.intro (fun _ => ⟨⟨Nat.le_of_ble_eq_true rfl, Nat.le_of_ble_eq_true rfl, Nat.le_of_ble_eq_true rfl⟩, e_remembers i0.2.2.2.2.2.1 (th0 S) i0.2.2.2.2.1 (fun T hT => ?_)⟩) (fun z => absurd rfl z))⟩) (fun z => absurd z (by decide))) (fun q => And.intro (fun z => absurd rfl z) (fun _ => ⟨⟨Nat.le_of_ble_eq_true rfl, Nat.le_of_ble_eq_true rfl, Nat.le_of_ble_eq_true rfl⟩, e_bad (r := 1) (by decide) 1 2 (th0 S) t0 (by decide) (fun _ => And.intro (fun z => absurd z (by decide)) (fun _ => ?_)) (fun z => absurd z (by decide))⟩))⟩))⟩) (fun z => absurd z (by decide))) (fun q => And.intro (fun z => absurd rfl z) (fun _ => ⟨⟨Nat.le_of_ble_eq_true rfl, Nat.le_of_ble_eq_true rfl, Nat.le_of_ble_eq_true rfl⟩, e_bad (r := 0) (by decide) 1 1 (th0 S) t0 (by decide) (fun _ => And.intro (fun _ => ?_) (fun z => absurd z (by decide))) (fun z => absurd z (by decide))⟩))⟩⟩
  · obtain ⟨iT, fT, z0⟩ := MI_rem hI hT
    refine ⟨tM, ⟨Nat.le_of_ble_eq_true rfl, Nat.le_of_ble_eq_true rfl, Nat.le_of_ble_eq_true rfl⟩, ?_⟩
    show sX10_coming 156 [.int x, .int (nI 4)] T _ _
    rw [e]
    refine e_coming d 4 T ⟨754, tNow, vp_nI (by omega), tM, ⟨Nat.le_of_ble_eq_true rfl, Nat.le_of_ble_eq_true rfl, Nat.le_of_ble_eq_true rfl⟩, ?_⟩
    refine e_coming d 4 T ⟨754, tNow, vp_nI (by omega), ?_⟩
    show Qr (some (.int (T.2 141 (nI (66 + 7 * d + 4)).toNatClampNeg).toInt32)) (T.1, u2 T.2 141 (nI (66 + 7 * d + 4)).toNatClampNeg y.toInt64)
    rw [nI_clamp (by omega), show 66 + 7 * d + 4 = 70 + 7 * d by omega, iT.2.2.2.1 _ (by omega), e', nI_l (by omega)]
    obtain ⟨iU, fU⟩ := iT.now (w' := u1L w (70 + 7 * d) (lN k)) (u2 T.2 141 (70 + 7 * d) (lN k)) (fun i hi => by rw [u2_rowL]; exact u1L_c (fun i hi => iT.2.2.2.1 i hi) rfl i hi) (fun c hc => u2_other _ _ _ hc)
    exact h1 d k hd e k2 e' _ iU (fT.trans fU) z0
  · obtain ⟨ib, fb, eb⟩ := i0.bad 2 (i := 1) (by decide)
    exact hA d hd e q _ ib (f0.trans fb) eb
  · obtain ⟨ib, fb, eb⟩ := i0.bad 1 (i := 0) (by decide)
    exact hE q _ ib (f0.trans fb) eb
set_option maxHeartbeats 1000000 in
theorem e_mUndo {S : Mem} {tp : Nat} {sg : Nat → Int32} {fp : Int32} {r : Nat → Int32} {w : Nat → Int64} {H : HL} (hI : MI S tp sg fp r w H) {Qr : QR} {Qx : QX} (h0 : H = [] → ∀ S', MI S' tp sg fp r w H → FC S S' → S'.1 138 0 = 0 → Qr (some (.int (-1))) S')
    (h1 : ∀ w' H', H = w' :: H' → ∀ S', MI S' tp sg fp r w' H' → FC S S' → S'.1 138 0 = 0 → Qr (some (.int (nI H'.length))) S') : vsp 156 10 (sX10_undo 156) [.ref 138] S Qr Qx := by
  obtain ⟨i0, f0⟩ := hI.thr 0
  have t0 : (th0 S).1 138 0 = 0 := u2_s S.1 138 0 0
  have b13 : (th0 S).1 138 13 = nI H.length := i0.2.2.2.2.1
  have hl8 := i0.2.2.2.2.2.1
  refine ⟨tM, runG rfl 80 ⟨tM, tM, And.intro (fun q => ?_) (fun q => ?_)⟩⟩
  · have q : ¬ (th0 S).1 138 13 = 0 := q
    cases H with
    | nil => exact absurd b13 q
    | cons w' H' =>
      rw [List.length_cons] at b13 hl8
      have p1 : (th0 S).1 138 13 - 1 = nI H'.length := by rw [b13]; exact nI_pred _
      have p2 : u2 (th0 S).1 138 13 ((th0 S).1 138 13 - 1) 138 13 = nI H'.length := by rw [u2_s, p1]
      refine ⟨tM, tM, tM, tM, 3, 8, 145, 1, tPast, by decide, by show vp_in (u2 (th0 S).1 138 13 ((th0 S).1 138 13 - 1) 138 13) 8; rw [p2]; exact vp_nI (by omega), tM, ⟨Nat.le_of_ble_eq_true rfl, Nat.le_of_ble_eq_true rfl, Nat.le_of_ble_eq_true rfl⟩, ?_⟩
      show sX10_copies 156 [.ref (145 + 1 * (u2 (th0 S).1 138 13 ((th0 S).1 138 13 - 1) 138 13).toNatClampNeg), .ref 141] (u2 (th0 S).1 138 13 ((th0 S).1 138 13 - 1), (th0 S).2) _ _
      rw [p2, nI_clamp (by omega), Nat.one_mul, p1]
      refine e_copies (tPas H'.length (by omega)) tNow (by omega) _ ⟨tM, ?_⟩
      show Qr (some (.int (u2 (th0 S).1 138 13 (nI H'.length) 138 13))) (u2 (th0 S).1 138 13 (nI H'.length), cpr S.2 (145 + H'.length) 141 754)
      rw [u2_s]
      obtain ⟨a, b, ⟨c1, c2⟩, d, ⟨e1, e2, e3⟩⟩ := i0
      have k1 : ∀ c, c ≠ 138 → u2 (th0 S).1 138 13 (nI H'.length) c = (th0 S).1 c := fun c hc => u2_other _ _ _ hc
      have k2 : ∀ j, j ≠ 13 → u2 (th0 S).1 138 13 (nI H'.length) 138 j = (th0 S).1 138 j := fun j hj => u2_j _ _ _ _ hj
      refine h1 w' H' rfl _ ⟨(k2 5 (by decide)).trans a, fun i hi => ?_, ⟨(k2 2 (by decide)).trans c1, fun i hi => ?_⟩, fun i hi => ?_, ⟨u2_s (th0 S).1 138 13 (nI H'.length), by omega, fun i hi j hj => ?_⟩⟩ (fun c hc => ⟨(k1 c (by omega)).trans (f0 c hc).1, ?_⟩) ((k2 0 (by decide)).trans t0)
      · show u2 (th0 S).1 138 13 (nI H'.length) 139 i = r i
        rw [k1 139 (by decide)]; exact b i hi
      · show ¬ u2 (th0 S).1 138 13 (nI H'.length) 140 i < 0 ∧ (sg i = u2 (th0 S).1 138 13 (nI H'.length) 140 i ∨ (128 ≤ u2 (th0 S).1 138 13 (nI H'.length) 140 i ∧ sg i < 0))
        rw [k1 140 (by decide)]; exact c2 i hi
      · show cpr S.2 (145 + H'.length) 141 754 141 i = w' i
        rw [cpr, if_pos ⟨rfl, hi⟩]
        have := e3 0 (by rw [List.length_cons]; omega) i hi
        rw [show (w' :: H').length - 1 - 0 = H'.length by rw [List.length_cons]; omega] at this
        exact this
      · show cpr S.2 (145 + H'.length) 141 754 (145 + (H'.length - 1 - i)) j = H'[i] j
        rw [cpr, if_neg (by omega)]
        have := e3 (i + 1) (by rw [List.length_cons]; omega) j hj
        rw [show (w' :: H').length - 1 - (i + 1) = H'.length - 1 - i by rw [List.length_cons]; omega] at this
        exact this
      · show cpr S.2 (145 + H'.length) 141 754 c = S.2 c
        funext j
        rw [cpr, if_neg (by omega)]
  · have q : (th0 S).1 138 13 = 0 := q
    rw [b13] at q
    have : H.length = 0 := (nI_eq (b := 0) (by omega) (by decide)).mp q
    exact h0 (List.eq_nil_of_length_eq_zero this) _ i0 f0 t0
