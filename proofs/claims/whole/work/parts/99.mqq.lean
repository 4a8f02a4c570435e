/-! ===== what is asked of the model ===== -/
set_option maxHeartbeats 1000000 in
theorem e_mDepartment {S : Mem} {tp : Nat} {sg : Nat → Int32} {fp : Int32} {r : Nat → Int32} {w : Nat → Int64} {H : HL} {n m : Nat} (hI : MI S tp sg fp r w H) (hf : WFt w n m) (x y : Int32) {Qr : QR} {Qx : QX} (hE : ¬ (∃ d, d < n ∧ x = nI d) → ∀ S', MI S' tp sg fp (bmp r 0) w H → FC S S' → S'.1 138 0 = 1 → Qr (some (.int 0)) S') (hA : ∀ d, d < n → x = nI d → ¬ inR y 0 11 → ∀ S', MI S' tp sg fp (bmp r 1) w H → FC S S' → S'.1 138 0 = 2 → Qr (some (.int 0)) S') (h1 : ∀ d k, d < n → x = nI d → k ≤ 11 → y = nI k → ∀ S', MI S' tp sg fp r w H → FC S S' → S'.1 138 0 = 0 → Qr (some (.int (dpV w d k))) S') : vsp 156 10 (sX10_department 156) [.ref 138, .int x, .int y] S Qr Qx := by
  obtain ⟨i0, f0⟩ := hI.thr 0
  have t0 : (th0 S).1 138 0 = 0 := u2_s S.1 138 0 0
  have hn5 := hf.1
  have hm4 := hf.2.1
  have nw : NwR (th0 S) w := i0.2.2.2.1
  have s0 : (th0 S).2 141 0 = lN n := (nw 0 (by decide)).trans hf.2.2.1
  have s1 : (th0 S).2 141 1 = lN m := (nw 1 (by decide)).trans hf.2.2.2.1
  obtain ⟨ib0, fb0, eb0⟩ := i0.bad 1 (i := 0) (by decide)
  obtain ⟨ib, fb, eb⟩ := i0.bad 2 (i := 1) (by decide)
  refine ⟨tM, runG rfl 160 ⟨tM, ⟨Nat.le_of_ble_eq_true rfl, Nat.le_of_ble_eq_true rfl, Nat.le_of_ble_eq_true rfl⟩, e_isDept x (th0 S) s0 hn5 (fun d hd e => And.intro (fun _ => ⟨⟨Nat.le_of_ble_eq_true rfl, Nat.le_of_ble_eq_true rfl, Nat.le_of_ble_eq_true rfl⟩, e_bad (r := 0) (by decide) 0 1 (th0 S) t0 (by decide) (fun z => absurd rfl z) (fun _ => And.intro (fun z => absurd rfl z) (fun _ => ⟨⟨Nat.le_of_ble_eq_true rfl, Nat.le_of_ble_eq_true rfl, Nat.le_of_ble_eq_true rfl⟩, e_inW y 0 11 (by decide) (by decide) (th0 S) (fun k k1 k2 e' => And.intro (fun _ => ⟨⟨Nat.le_of_ble_eq_true rfl, Nat.le_of_ble_eq_true rfl, Nat.le_of_ble_eq_true rfl⟩, e_bad (r := 1) (by decide) 0 2 (th0 S) t0 (by decide) (fun z => absurd rfl z) (fun _ => And.intro (fun _ => ?_) (fun z => absurd rfl z))⟩) (fun z => absurd z (by decide))) (fun q => And.intro (fun z => absurd rfl z) (fun _ => ⟨⟨Nat.le_of_ble_eq_true rfl, Nat.le_of_ble_eq_true rfl, Nat.le_of_ble_eq_true rfl⟩, e_bad (r := 1) (by decide) 1 2 (th0 S) t0 (by decide) (fun _ => And.intro (fun z => absurd z (by decide)) (fun _ => hA d hd e q _ ib (f0.trans fb) eb)) (fun z => absurd z (by decide))⟩))⟩))⟩) (fun z => absurd z (by decide))) (fun q => And.intro (fun z => absurd rfl z) (fun _ => ⟨⟨Nat.le_of_ble_eq_true rfl, Nat.le_of_ble_eq_true rfl, Nat.le_of_ble_eq_true rfl⟩, e_bad (r := 0) (by decide) 1 1 (th0 S) t0 (by decide) (fun _ => And.intro (fun _ => hE q _ ib0 (f0.trans fb0) eb0) (fun z => absurd z (by decide))) (fun z => absurd z (by decide))⟩))⟩⟩
  refine And.intro (fun q => ?_) (fun q => ?_)
  · have q : nI 9 ≤ y := q
    rw [e'] at q
    have q := (nI_leI (by decide) (by omega)).mp q
    have ix : nI 4 + y - nI 9 = nI (4 + k - 9) := by rw [e', nI_add, pk_sub (by omega)]
    refine ⟨tM, ⟨Nat.le_of_ble_eq_true rfl, Nat.le_of_ble_eq_true rfl, Nat.le_of_ble_eq_true rfl⟩, ?_⟩
    show sX10_coming 156 [.int x, .int (nI 4 + y - nI 9)] (th0 S) _ _
    rw [ix, e]
    refine e_coming d (4 + k - 9) (th0 S) ⟨754, tNow, vp_nI (by omega), ?_⟩
    show Qr (some (.int ((th0 S).2 141 (nI (66 + 7 * d + (4 + k - 9))).toNatClampNeg).toInt32)) (th0 S)
    have := h1 d k hd e k2 e' _ i0 f0 t0
    unfold dpV at this
    rw [if_neg (by omega)] at this
    rw [nI_clamp (by omega), nw _ (by omega), show 66 + 7 * d + (4 + k - 9) = 61 + 7 * d + k by omega]; exact this
  · have q : ¬ nI 9 ≤ y := q
    rw [e'] at q
    have q : k < 9 := by
      rcases Nat.lt_or_ge k 9 with z | z
      · exact z
      · exact absurd (nI_le z (by omega)) q
    refine ⟨⟨Nat.le_of_ble_eq_true rfl, Nat.le_of_ble_eq_true rfl, Nat.le_of_ble_eq_true rfl⟩, ?_⟩
    show vsp 156 10 (sX10_of 156) [.ref 138, .int x, .int y] (th0 S) _ _
    rw [e, e']
    refine e_of (by omega) q (th0 S) ?_
    have := h1 d k hd e k2 e' _ i0 f0 t0
    unfold dpV at this
    rw [if_pos q] at this
    show Qr (some (.int ((th0 S).2 141 (5 + 9 * d + k)).toInt32)) (th0 S)
    rw [nw _ (by omega)]; exact this
set_option maxHeartbeats 1000000 in
theorem e_mWork {S : Mem} {tp : Nat} {sg : Nat → Int32} {fp : Int32} {r : Nat → Int32} {w : Nat → Int64} {H : HL} {n m : Nat} (hI : MI S tp sg fp r w H) (hf : WFt w n m) (x y : Int32) {Qr : QR} {Qx : QX} (hE : ¬ (∃ d, d < n ∧ x = nI d) → ∀ S', MI S' tp sg fp (bmp r 0) w H → FC S S' → S'.1 138 0 = 1 → Qr (some (.long 0)) S') (hA : ∀ d, d < n → x = nI d → ¬ inR y 0 5 → ∀ S', MI S' tp sg fp (bmp r 1) w H → FC S S' → S'.1 138 0 = 2 → Qr (some (.long 0)) S') (h1 : ∀ d k, d < n → x = nI d → k ≤ 5 → y = nI k → ∀ S', MI S' tp sg fp r w H → FC S S' → S'.1 138 0 = 0 → Qr (some (.long (w (101 + 6 * d + k)))) S') : vsp 156 10 (sX10_work 156) [.ref 138, .int x, .int y] S Qr Qx := by
  obtain ⟨i0, f0⟩ := hI.thr 0
  have t0 : (th0 S).1 138 0 = 0 := u2_s S.1 138 0 0
  have hn5 := hf.1
  have hm4 := hf.2.1
  have nw : NwR (th0 S) w := i0.2.2.2.1
  have s0 : (th0 S).2 141 0 = lN n := (nw 0 (by decide)).trans hf.2.2.1
  have s1 : (th0 S).2 141 1 = lN m := (nw 1 (by decide)).trans hf.2.2.2.1
  obtain ⟨ib0, fb0, eb0⟩ := i0.bad 1 (i := 0) (by decide)
  obtain ⟨ib, fb, eb⟩ := i0.bad 2 (i := 1) (by decide)
  refine ⟨tM, runG rfl 160 ⟨tM, ⟨Nat.le_of_ble_eq_true rfl, Nat.le_of_ble_eq_true rfl, Nat.le_of_ble_eq_true rfl⟩, e_isDept x (th0 S) s0 hn5 (fun d hd e => And.intro (fun _ => ⟨⟨Nat.le_of_ble_eq_true rfl, Nat.le_of_ble_eq_true rfl, Nat.le_of_ble_eq_true rfl⟩, e_bad (r := 0) (by decide) 0 1 (th0 S) t0 (by decide) (fun z => absurd rfl z) (fun _ => And.intro (fun z => absurd rfl z) (fun _ => ⟨⟨Nat.le_of_ble_eq_true rfl, Nat.le_of_ble_eq_true rfl, Nat.le_of_ble_eq_true rfl⟩, e_inW y 0 5 (by decide) (by decide) (th0 S) (fun k k1 k2 e' => And.intro (fun _ => ⟨⟨Nat.le_of_ble_eq_true rfl, Nat.le_of_ble_eq_true rfl, Nat.le_of_ble_eq_true rfl⟩, e_bad (r := 1) (by decide) 0 2 (th0 S) t0 (by decide) (fun z => absurd rfl z) (fun _ => And.intro (fun _ => ?_) (fun z => absurd rfl z))⟩) (fun z => absurd z (by decide))) (fun q => And.intro (fun z => absurd rfl z) (fun _ => ⟨⟨Nat.le_of_ble_eq_true rfl, Nat.le_of_ble_eq_true rfl, Nat.le_of_ble_eq_true rfl⟩, e_bad (r := 1) (by decide) 1 2 (th0 S) t0 (by decide) (fun _ => And.intro (fun z => absurd z (by decide)) (fun _ => ⟨rfl, hA d hd e q _ ib (f0.trans fb) eb⟩)) (fun z => absurd z (by decide))⟩))⟩))⟩) (fun z => absurd z (by decide))) (fun q => And.intro (fun z => absurd rfl z) (fun _ => ⟨⟨Nat.le_of_ble_eq_true rfl, Nat.le_of_ble_eq_true rfl, Nat.le_of_ble_eq_true rfl⟩, e_bad (r := 0) (by decide) 1 1 (th0 S) t0 (by decide) (fun _ => And.intro (fun _ => ⟨rfl, hE q _ ib0 (f0.trans fb0) eb0⟩) (fun z => absurd z (by decide))) (fun z => absurd z (by decide))⟩))⟩⟩
  refine ⟨tM, ⟨Nat.le_of_ble_eq_true rfl, Nat.le_of_ble_eq_true rfl, Nat.le_of_ble_eq_true rfl⟩, ?_⟩
  show sX10_working 156 [.int x, .int y] (th0 S) _ _
  rw [e, e']
  refine e_working d k (th0 S) ⟨754, tNow, vp_nI (by omega), rfl, ?_⟩
  show Qr (some (.long ((th0 S).2 141 (nI (101 + 6 * d + k)).toNatClampNeg))) (th0 S)
  rw [nI_clamp (by omega), nw _ (by omega)]
  exact h1 d k hd e k2 e' _ i0 f0 t0
set_option maxHeartbeats 1000000 in
theorem e_mLoss {S : Mem} {tp : Nat} {sg : Nat → Int32} {fp : Int32} {r : Nat → Int32} {w : Nat → Int64} {H : HL} {n m : Nat} (hI : MI S tp sg fp r w H) (hf : WFt w n m) (x y : Int32) {Qr : QR} {Qx : QX} (hE : ¬ (∃ d, d < n ∧ x = nI d) → ∀ S', MI S' tp sg fp (bmp r 0) w H → FC S S' → S'.1 138 0 = 1 → Qr (some (.long 0)) S') (hA : ∀ d, d < n → x = nI d → ¬ inR y 0 4 → ∀ S', MI S' tp sg fp (bmp r 1) w H → FC S S' → S'.1 138 0 = 2 → Qr (some (.long 0)) S') (h1 : ∀ d k, d < n → x = nI d → k ≤ 4 → y = nI k → ∀ S', MI S' tp sg fp r w H → FC S S' → S'.1 138 0 = 0 → Qr (some (.long (w (181 + 55 * d + k)))) S') : vsp 156 10 (sX10_loss 156) [.ref 138, .int x, .int y] S Qr Qx := by
  obtain ⟨i0, f0⟩ := hI.thr 0
  have t0 : (th0 S).1 138 0 = 0 := u2_s S.1 138 0 0
  have hn5 := hf.1
  have hm4 := hf.2.1
  have nw : NwR (th0 S) w := i0.2.2.2.1
  have s0 : (th0 S).2 141 0 = lN n := (nw 0 (by decide)).trans hf.2.2.1
  have s1 : (th0 S).2 141 1 = lN m := (nw 1 (by decide)).trans hf.2.2.2.1
  obtain ⟨ib0, fb0, eb0⟩ := i0.bad 1 (i := 0) (by decide)
  obtain ⟨ib, fb, eb⟩ := i0.bad 2 (i := 1) (by decide)
  refine ⟨tM, runG rfl 160 ⟨tM, ⟨Nat.le_of_ble_eq_true rfl, Nat.le_of_ble_eq_true rfl, Nat.le_of_ble_eq_true rfl⟩, e_isDept x (th0 S) s0 hn5 (fun d hd e => And.intro (fun _ => ⟨⟨Nat.le_of_ble_eq_true rfl, Nat.le_of_ble_eq_true rfl, Nat.le_of_ble_eq_true rfl⟩, e_bad (r := 0) (by decide) 0 1 (th0 S) t0 (by decide) (fun z => absurd rfl z) (fun _ => And.intro (fun z => absurd rfl z) (fun _ => ⟨⟨Nat.le_of_ble_eq_true rfl, Nat.le_of_ble_eq_true rfl, Nat.le_of_ble_eq_true rfl⟩, e_inW y 0 4 (by decide) (by decide) (th0 S) (fun k k1 k2 e' => And.intro (fun _ => ⟨⟨Nat.le_of_ble_eq_true rfl, Nat.le_of_ble_eq_true rfl, Nat.le_of_ble_eq_true rfl⟩, e_bad (r := 1) (by decide) 0 2 (th0 S) t0 (by decide) (fun z => absurd rfl z) (fun _ => And.intro (fun _ => ?_) (fun z => absurd rfl z))⟩) (fun z => absurd z (by decide))) (fun q => And.intro (fun z => absurd rfl z) (fun _ => ⟨⟨Nat.le_of_ble_eq_true rfl, Nat.le_of_ble_eq_true rfl, Nat.le_of_ble_eq_true rfl⟩, e_bad (r := 1) (by decide) 1 2 (th0 S) t0 (by decide) (fun _ => And.intro (fun z => absurd z (by decide)) (fun _ => ⟨rfl, hA d hd e q _ ib (f0.trans fb) eb⟩)) (fun z => absurd z (by decide))⟩))⟩))⟩) (fun z => absurd z (by decide))) (fun q => And.intro (fun z => absurd rfl z) (fun _ => ⟨⟨Nat.le_of_ble_eq_true rfl, Nat.le_of_ble_eq_true rfl, Nat.le_of_ble_eq_true rfl⟩, e_bad (r := 0) (by decide) 1 1 (th0 S) t0 (by decide) (fun _ => And.intro (fun _ => ⟨rfl, hE q _ ib0 (f0.trans fb0) eb0⟩) (fun z => absurd z (by decide))) (fun z => absurd z (by decide))⟩))⟩⟩
  refine ⟨tM, ⟨Nat.le_of_ble_eq_true rfl, Nat.le_of_ble_eq_true rfl, Nat.le_of_ble_eq_true rfl⟩, ?_⟩
  show sX10_latest 156 [.int x, .int (nI 50 + y)] (th0 S) _ _
  rw [e, e', nI_add]
  refine e_latest d (50 + k) (th0 S) ⟨754, tNow, vp_nI (by omega), rfl, ?_⟩
  show Qr (some (.long ((th0 S).2 141 (nI (131 + 55 * d + (50 + k))).toNatClampNeg))) (th0 S)
  rw [nI_clamp (by omega), nw _ (by omega), show 131 + 55 * d + (50 + k) = 181 + 55 * d + k by omega]
  exact h1 d k hd e k2 e' _ i0 f0 t0
set_option maxHeartbeats 1000000 in
theorem e_mUnits {S : Mem} {tp : Nat} {sg : Nat → Int32} {fp : Int32} {r : Nat → Int32} {w : Nat → Int64} {H : HL} {n m : Nat} (hI : MI S tp sg fp r w H) (hf : WFt w n m) (x y : Int32) {Qr : QR} {Qx : QX} (hE : ¬ (∃ d, d < n ∧ x = nI d) → ∀ S', MI S' tp sg fp (bmp r 0) w H → FC S S' → S'.1 138 0 = 1 → Qr (some (.int 0)) S') (hA : ∀ d, d < n → x = nI d → ¬ inR y 0 6 → ∀ S', MI S' tp sg fp (bmp r 1) w H → FC S S' → S'.1 138 0 = 2 → Qr (some (.int 0)) S') (h1 : ∀ d k, d < n → x = nI d → k ≤ 6 → y = nI k → ∀ S', MI S' tp sg fp r w H → FC S S' → S'.1 138 0 = 0 → Qr (some (.int (w (131 + 55 * d + unP7 k)).toInt32)) S') : vsp 156 10 (sX10_units 156) [.ref 138, .int x, .int y] S Qr Qx := by
  obtain ⟨i0, f0⟩ := hI.thr 0
  have t0 : (th0 S).1 138 0 = 0 := u2_s S.1 138 0 0
  have hn5 := hf.1
  have hm4 := hf.2.1
  have nw : NwR (th0 S) w := i0.2.2.2.1
  have s0 : (th0 S).2 141 0 = lN n := (nw 0 (by decide)).trans hf.2.2.1
  have s1 : (th0 S).2 141 1 = lN m := (nw 1 (by decide)).trans hf.2.2.2.1
  obtain ⟨ib0, fb0, eb0⟩ := i0.bad 1 (i := 0) (by decide)
  obtain ⟨ib, fb, eb⟩ := i0.bad 2 (i := 1) (by decide)
  refine ⟨tM, runG rfl 160 ⟨tM, ⟨Nat.le_of_ble_eq_true rfl, Nat.le_of_ble_eq_true rfl, Nat.le_of_ble_eq_true rfl⟩, e_isDept x (th0 S) s0 hn5 (fun d hd e => And.intro (fun _ => ⟨⟨Nat.le_of_ble_eq_true rfl, Nat.le_of_ble_eq_true rfl, Nat.le_of_ble_eq_true rfl⟩, e_bad (r := 0) (by decide) 0 1 (th0 S) t0 (by decide) (fun z => absurd rfl z) (fun _ => And.intro (fun z => absurd rfl z) (fun _ => ⟨⟨Nat.le_of_ble_eq_true rfl, Nat.le_of_ble_eq_true rfl, Nat.le_of_ble_eq_true rfl⟩, e_inW y 0 6 (by decide) (by decide) (th0 S) (fun k k1 k2 e' => And.intro (fun _ => ⟨⟨Nat.le_of_ble_eq_true rfl, Nat.le_of_ble_eq_true rfl, Nat.le_of_ble_eq_true rfl⟩, e_bad (r := 1) (by decide) 0 2 (th0 S) t0 (by decide) (fun z => absurd rfl z) (fun _ => And.intro (fun _ => ?_) (fun z => absurd rfl z))⟩) (fun z => absurd z (by decide))) (fun q => And.intro (fun z => absurd rfl z) (fun _ => ⟨⟨Nat.le_of_ble_eq_true rfl, Nat.le_of_ble_eq_true rfl, Nat.le_of_ble_eq_true rfl⟩, e_bad (r := 1) (by decide) 1 2 (th0 S) t0 (by decide) (fun _ => And.intro (fun z => absurd z (by decide)) (fun _ => hA d hd e q _ ib (f0.trans fb) eb)) (fun z => absurd z (by decide))⟩))⟩))⟩) (fun z => absurd z (by decide))) (fun q => And.intro (fun z => absurd rfl z) (fun _ => ⟨⟨Nat.le_of_ble_eq_true rfl, Nat.le_of_ble_eq_true rfl, Nat.le_of_ble_eq_true rfl⟩, e_bad (r := 0) (by decide) 1 1 (th0 S) t0 (by decide) (fun _ => And.intro (fun _ => hE q _ ib0 (f0.trans fb0) eb0) (fun z => absurd z (by decide))) (fun z => absurd z (by decide))⟩))⟩⟩
  refine ⟨fun q => ?_, fun q => ?_, fun q => ?_, fun q => ?_, fun q => ?_, fun q => ?_, fun q => ?_, trivial⟩
  · have q := sw_d (n := 6) e' k2 (by decide) q
    subst q
    refine ⟨tM, ⟨Nat.le_of_ble_eq_true rfl, Nat.le_of_ble_eq_true rfl, Nat.le_of_ble_eq_true rfl⟩, ?_⟩
    show sX10_latest 156 [.int x, .int (nI 17)] (th0 S) _ _
    rw [e]
    refine e_latest d 17 (th0 S) ⟨754, tNow, vp_nI (by omega), ?_⟩
    show Qr (some (.int ((th0 S).2 141 (nI (131 + 55 * d + 17)).toNatClampNeg).toInt32)) (th0 S)
    rw [nI_clamp (by omega), nw _ (by omega)]
    exact h1 d 6 hd e (by decide) e' _ i0 f0 t0
  · refine ⟨tM, ⟨Nat.le_of_ble_eq_true rfl, Nat.le_of_ble_eq_true rfl, Nat.le_of_ble_eq_true rfl⟩, ?_⟩
    show sX10_latest 156 [.int x, .int (nI 0)] (th0 S) _ _
    rw [e]
    refine e_latest d 0 (th0 S) ⟨754, tNow, vp_nI (by omega), ?_⟩
    show Qr (some (.int ((th0 S).2 141 (nI (131 + 55 * d + 0)).toNatClampNeg).toInt32)) (th0 S)
    rw [nI_clamp (by omega), nw _ (by omega)]
    exact h1 d 0 hd e (by decide) q _ i0 f0 t0
  · refine ⟨tM, ⟨Nat.le_of_ble_eq_true rfl, Nat.le_of_ble_eq_true rfl, Nat.le_of_ble_eq_true rfl⟩, ?_⟩
    show sX10_latest 156 [.int x, .int (nI 6)] (th0 S) _ _
    rw [e]
    refine e_latest d 6 (th0 S) ⟨754, tNow, vp_nI (by omega), ?_⟩
    show Qr (some (.int ((th0 S).2 141 (nI (131 + 55 * d + 6)).toNatClampNeg).toInt32)) (th0 S)
    rw [nI_clamp (by omega), nw _ (by omega)]
    exact h1 d 1 hd e (by decide) q _ i0 f0 t0
  · refine ⟨tM, ⟨Nat.le_of_ble_eq_true rfl, Nat.le_of_ble_eq_true rfl, Nat.le_of_ble_eq_true rfl⟩, ?_⟩
    show sX10_latest 156 [.int x, .int (nI 15)] (th0 S) _ _
    rw [e]
    refine e_latest d 15 (th0 S) ⟨754, tNow, vp_nI (by omega), ?_⟩
    show Qr (some (.int ((th0 S).2 141 (nI (131 + 55 * d + 15)).toNatClampNeg).toInt32)) (th0 S)
    rw [nI_clamp (by omega), nw _ (by omega)]
    exact h1 d 2 hd e (by decide) q _ i0 f0 t0
  · refine ⟨tM, ⟨Nat.le_of_ble_eq_true rfl, Nat.le_of_ble_eq_true rfl, Nat.le_of_ble_eq_true rfl⟩, ?_⟩
    show sX10_latest 156 [.int x, .int (nI 12)] (th0 S) _ _
    rw [e]
    refine e_latest d 12 (th0 S) ⟨754, tNow, vp_nI (by omega), ?_⟩
    show Qr (some (.int ((th0 S).2 141 (nI (131 + 55 * d + 12)).toNatClampNeg).toInt32)) (th0 S)
    rw [nI_clamp (by omega), nw _ (by omega)]
    exact h1 d 3 hd e (by decide) q _ i0 f0 t0
  · refine ⟨tM, ⟨Nat.le_of_ble_eq_true rfl, Nat.le_of_ble_eq_true rfl, Nat.le_of_ble_eq_true rfl⟩, ?_⟩
    show sX10_latest 156 [.int x, .int (nI 16)] (th0 S) _ _
    rw [e]
    refine e_latest d 16 (th0 S) ⟨754, tNow, vp_nI (by omega), ?_⟩
    show Qr (some (.int ((th0 S).2 141 (nI (131 + 55 * d + 16)).toNatClampNeg).toInt32)) (th0 S)
    rw [nI_clamp (by omega), nw _ (by omega)]
    exact h1 d 4 hd e (by decide) q _ i0 f0 t0
  · refine ⟨tM, ⟨Nat.le_of_ble_eq_true rfl, Nat.le_of_ble_eq_true rfl, Nat.le_of_ble_eq_true rfl⟩, ?_⟩
    show sX10_latest 156 [.int x, .int (nI 13)] (th0 S) _ _
    rw [e]
    refine e_latest d 13 (th0 S) ⟨754, tNow, vp_nI (by omega), ?_⟩
    show Qr (some (.int ((th0 S).2 141 (nI (131 + 55 * d + 13)).toNatClampNeg).toInt32)) (th0 S)
    rw [nI_clamp (by omega), nw _ (by omega)]
    exact h1 d 5 hd e (by decide) q _ i0 f0 t0
set_option maxHeartbeats 1000000 in
theorem e_mProduct {S : Mem} {tp : Nat} {sg : Nat → Int32} {fp : Int32} {r : Nat → Int32} {w : Nat → Int64} {H : HL} {n m : Nat} (hI : MI S tp sg fp r w H) (hf : WFt w n m) (x y : Int32) {Qr : QR} {Qx : QX} (hE : ¬ (∃ d, d < m ∧ x = nI d) → ∀ S', MI S' tp sg fp (bmp r 0) w H → FC S S' → S'.1 138 0 = 1 → Qr (some (.int 0)) S') (hA : ∀ d, d < m → x = nI d → ¬ inR y 0 3 → ∀ S', MI S' tp sg fp (bmp r 1) w H → FC S S' → S'.1 138 0 = 2 → Qr (some (.int 0)) S') (h1 : ∀ d k, d < m → x = nI d → k ≤ 3 → y = nI k → ∀ S', MI S' tp sg fp r w H → FC S S' → S'.1 138 0 = 0 → Qr (some (.int (w (50 + 4 * d + k)).toInt32)) S') : vsp 156 10 (sX10_product 156) [.ref 138, .int x, .int y] S Qr Qx := by
  obtain ⟨i0, f0⟩ := hI.thr 0
  have t0 : (th0 S).1 138 0 = 0 := u2_s S.1 138 0 0
  have hn5 := hf.1
  have hm4 := hf.2.1
  have nw : NwR (th0 S) w := i0.2.2.2.1
  have s0 : (th0 S).2 141 0 = lN n := (nw 0 (by decide)).trans hf.2.2.1
  have s1 : (th0 S).2 141 1 = lN m := (nw 1 (by decide)).trans hf.2.2.2.1
  obtain ⟨ib0, fb0, eb0⟩ := i0.bad 1 (i := 0) (by decide)
  obtain ⟨ib, fb, eb⟩ := i0.bad 2 (i := 1) (by decide)
  refine ⟨tM, runG rfl 160 ⟨tM, ⟨Nat.le_of_ble_eq_true rfl, Nat.le_of_ble_eq_true rfl, Nat.le_of_ble_eq_true rfl⟩, e_isProduct x (th0 S) s1 hm4 (fun d hd e => And.intro (fun _ => ⟨⟨Nat.le_of_ble_eq_true rfl, Nat.le_of_ble_eq_true rfl, Nat.le_of_ble_eq_true rfl⟩, e_bad (r := 0) (by decide) 0 1 (th0 S) t0 (by decide) (fun z => absurd rfl z) (fun _ => And.intro (fun z => absurd rfl z) (fun _ => ⟨⟨Nat.le_of_ble_eq_true rfl, Nat.le_of_ble_eq_true rfl, Nat.le_of_ble_eq_true rfl⟩, e_inW y 0 3 (by decide) (by decide) (th0 S) (fun k k1 k2 e' => And.intro (fun _ => ⟨⟨Nat.le_of_ble_eq_true rfl, Nat.le_of_ble_eq_true rfl, Nat.le_of_ble_eq_true rfl⟩, e_bad (r := 1) (by decide) 0 2 (th0 S) t0 (by decide) (fun z => absurd rfl z) (fun _ => And.intro (fun _ => ?_) (fun z => absurd rfl z))⟩) (fun z => absurd z (by decide))) (fun q => And.intro (fun z => absurd rfl z) (fun _ => ⟨⟨Nat.le_of_ble_eq_true rfl, Nat.le_of_ble_eq_true rfl, Nat.le_of_ble_eq_true rfl⟩, e_bad (r := 1) (by decide) 1 2 (th0 S) t0 (by decide) (fun _ => And.intro (fun z => absurd z (by decide)) (fun _ => hA d hd e q _ ib (f0.trans fb) eb)) (fun z => absurd z (by decide))⟩))⟩))⟩) (fun z => absurd z (by decide))) (fun q => And.intro (fun z => absurd rfl z) (fun _ => ⟨⟨Nat.le_of_ble_eq_true rfl, Nat.le_of_ble_eq_true rfl, Nat.le_of_ble_eq_true rfl⟩, e_bad (r := 0) (by decide) 1 1 (th0 S) t0 (by decide) (fun _ => And.intro (fun _ => hE q _ ib0 (f0.trans fb0) eb0) (fun z => absurd z (by decide))) (fun z => absurd z (by decide))⟩))⟩⟩
  refine ⟨tM, ⟨Nat.le_of_ble_eq_true rfl, Nat.le_of_ble_eq_true rfl, Nat.le_of_ble_eq_true rfl⟩, ?_⟩
  show sX10_share 156 [.ref 141, .int x, .int y] (th0 S) _ _
  rw [e, e']
  refine e_share tNow (by omega) (by omega) (th0 S) ?_
  show Qr (some (.int ((th0 S).2 141 (50 + 4 * d + k)).toInt32)) (th0 S)
  rw [nw _ (by omega)]
  exact h1 d k hd e k2 e' _ i0 f0 t0
set_option maxHeartbeats 1000000 in
theorem e_mParted {S : Mem} {tp : Nat} {sg : Nat → Int32} {fp : Int32} {r : Nat → Int32} {w : Nat → Int64} {H : HL} {n m : Nat} (hI : MI S tp sg fp r w H) (hf : WFt w n m) (x y : Int32) {Qr : QR} {Qx : QX} (hE : ¬ (∃ d, d < m ∧ x = nI d) → ∀ S', MI S' tp sg fp (bmp r 0) w H → FC S S' → S'.1 138 0 = 1 → Qr (some (.long 0)) S') (hA : ∀ d, d < m → x = nI d → ¬ inR y 0 2 → ∀ S', MI S' tp sg fp (bmp r 1) w H → FC S S' → S'.1 138 0 = 2 → Qr (some (.long 0)) S') (h1 : ∀ d k, d < m → x = nI d → k ≤ 2 → y = nI k → ∀ S', MI S' tp sg fp r w H → FC S S' → S'.1 138 0 = 0 → Qr (some (.long (w (406 + 3 * d + k)))) S') : vsp 156 10 (sX10_parted 156) [.ref 138, .int x, .int y] S Qr Qx := by
  obtain ⟨i0, f0⟩ := hI.thr 0
  have t0 : (th0 S).1 138 0 = 0 := u2_s S.1 138 0 0
  have hn5 := hf.1
  have hm4 := hf.2.1
  have nw : NwR (th0 S) w := i0.2.2.2.1
  have s0 : (th0 S).2 141 0 = lN n := (nw 0 (by decide)).trans hf.2.2.1
  have s1 : (th0 S).2 141 1 = lN m := (nw 1 (by decide)).trans hf.2.2.2.1
  obtain ⟨ib0, fb0, eb0⟩ := i0.bad 1 (i := 0) (by decide)
  obtain ⟨ib, fb, eb⟩ := i0.bad 2 (i := 1) (by decide)
  refine ⟨tM, runG rfl 160 ⟨tM, ⟨Nat.le_of_ble_eq_true rfl, Nat.le_of_ble_eq_true rfl, Nat.le_of_ble_eq_true rfl⟩, e_isProduct x (th0 S) s1 hm4 (fun d hd e => And.intro (fun _ => ⟨⟨Nat.le_of_ble_eq_true rfl, Nat.le_of_ble_eq_true rfl, Nat.le_of_ble_eq_true rfl⟩, e_bad (r := 0) (by decide) 0 1 (th0 S) t0 (by decide) (fun z => absurd rfl z) (fun _ => And.intro (fun z => absurd rfl z) (fun _ => ⟨⟨Nat.le_of_ble_eq_true rfl, Nat.le_of_ble_eq_true rfl, Nat.le_of_ble_eq_true rfl⟩, e_inW y 0 2 (by decide) (by decide) (th0 S) (fun k k1 k2 e' => And.intro (fun _ => ⟨⟨Nat.le_of_ble_eq_true rfl, Nat.le_of_ble_eq_true rfl, Nat.le_of_ble_eq_true rfl⟩, e_bad (r := 1) (by decide) 0 2 (th0 S) t0 (by decide) (fun z => absurd rfl z) (fun _ => And.intro (fun _ => ?_) (fun z => absurd rfl z))⟩) (fun z => absurd z (by decide))) (fun q => And.intro (fun z => absurd rfl z) (fun _ => ⟨⟨Nat.le_of_ble_eq_true rfl, Nat.le_of_ble_eq_true rfl, Nat.le_of_ble_eq_true rfl⟩, e_bad (r := 1) (by decide) 1 2 (th0 S) t0 (by decide) (fun _ => And.intro (fun z => absurd z (by decide)) (fun _ => ⟨rfl, hA d hd e q _ ib (f0.trans fb) eb⟩)) (fun z => absurd z (by decide))⟩))⟩))⟩) (fun z => absurd z (by decide))) (fun q => And.intro (fun z => absurd rfl z) (fun _ => ⟨⟨Nat.le_of_ble_eq_true rfl, Nat.le_of_ble_eq_true rfl, Nat.le_of_ble_eq_true rfl⟩, e_bad (r := 0) (by decide) 1 1 (th0 S) t0 (by decide) (fun _ => And.intro (fun _ => ⟨rfl, hE q _ ib0 (f0.trans fb0) eb0⟩) (fun z => absurd z (by decide))) (fun z => absurd z (by decide))⟩))⟩⟩
  have ix : nI 406 + nI 3 * x + y = nI (406 + 3 * d + k) := by rw [e, e', ix2]
  refine ⟨tM, 754, tNow, by show vp_in (nI 406 + nI 3 * x + y) 754; rw [ix]; exact vp_nI (by omega), rfl, ?_⟩
  show Qr (some (.long ((th0 S).2 141 (nI 406 + nI 3 * x + y).toNatClampNeg))) (th0 S)
  rw [ix, nI_clamp (by omega), nw _ (by omega)]
  exact h1 d k hd e k2 e' _ i0 f0 t0
set_option maxHeartbeats 1000000 in
theorem e_mStore {S : Mem} {tp : Nat} {sg : Nat → Int32} {fp : Int32} {r : Nat → Int32} {w : Nat → Int64} {H : HL} {n m : Nat} (hI : MI S tp sg fp r w H) (hf : WFt w n m) (hl : ∀ p, p < m → ∃ k, k ≤ 40 ∧ w (418 + 83 * p) = lN k) (x y : Int32) {Qr : QR} {Qx : QX} (hE : ¬ (∃ d, d < m ∧ x = nI d) → ∀ S', MI S' tp sg fp (bmp r 0) w H → FC S S' → S'.1 138 0 = 1 → Qr (some (.long 0)) S') (hA : ∀ d, d < m → x = nI d → ¬ inR y 0 2 → ∀ S', MI S' tp sg fp (bmp r 1) w H → FC S S' → S'.1 138 0 = 2 → Qr (some (.long 0)) S') (h1 : ∀ d k, d < m → x = nI d → k ≤ 2 → y = nI k → ∀ S', MI S' tp sg fp r w H → FC S S' → S'.1 138 0 = 0 → Qr (some (.long (stW w d k))) S') : vsp 156 10 (sX10_store 156) [.ref 138, .int x, .int y] S Qr Qx := by
  obtain ⟨i0, f0⟩ := hI.thr 0
  have t0 : (th0 S).1 138 0 = 0 := u2_s S.1 138 0 0
  have hn5 := hf.1
  have hm4 := hf.2.1
  have nw : NwR (th0 S) w := i0.2.2.2.1
  have s0 : (th0 S).2 141 0 = lN n := (nw 0 (by decide)).trans hf.2.2.1
  have s1 : (th0 S).2 141 1 = lN m := (nw 1 (by decide)).trans hf.2.2.2.1
  obtain ⟨ib0, fb0, eb0⟩ := i0.bad 1 (i := 0) (by decide)
  obtain ⟨ib, fb, eb⟩ := i0.bad 2 (i := 1) (by decide)
  refine ⟨tM, runG rfl 160 ⟨tM, ⟨Nat.le_of_ble_eq_true rfl, Nat.le_of_ble_eq_true rfl, Nat.le_of_ble_eq_true rfl⟩, e_isProduct x (th0 S) s1 hm4 (fun d hd e => And.intro (fun _ => ⟨⟨Nat.le_of_ble_eq_true rfl, Nat.le_of_ble_eq_true rfl, Nat.le_of_ble_eq_true rfl⟩, e_bad (r := 0) (by decide) 0 1 (th0 S) t0 (by decide) (fun z => absurd rfl z) (fun _ => And.intro (fun z => absurd rfl z) (fun _ => ⟨⟨Nat.le_of_ble_eq_true rfl, Nat.le_of_ble_eq_true rfl, Nat.le_of_ble_eq_true rfl⟩, e_inW y 0 2 (by decide) (by decide) (th0 S) (fun k k1 k2 e' => And.intro (fun _ => ⟨⟨Nat.le_of_ble_eq_true rfl, Nat.le_of_ble_eq_true rfl, Nat.le_of_ble_eq_true rfl⟩, e_bad (r := 1) (by decide) 0 2 (th0 S) t0 (by decide) (fun z => absurd rfl z) (fun _ => And.intro (fun _ => ?_) (fun z => absurd rfl z))⟩) (fun z => absurd z (by decide))) (fun q => And.intro (fun z => absurd rfl z) (fun _ => ⟨⟨Nat.le_of_ble_eq_true rfl, Nat.le_of_ble_eq_true rfl, Nat.le_of_ble_eq_true rfl⟩, e_bad (r := 1) (by decide) 1 2 (th0 S) t0 (by decide) (fun _ => And.intro (fun z => absurd z (by decide)) (fun _ => ⟨rfl, hA d hd e q _ ib (f0.trans fb) eb⟩)) (fun z => absurd z (by decide))⟩))⟩))⟩) (fun z => absurd z (by decide))) (fun q => And.intro (fun z => absurd rfl z) (fun _ => ⟨⟨Nat.le_of_ble_eq_true rfl, Nat.le_of_ble_eq_true rfl, Nat.le_of_ble_eq_true rfl⟩, e_bad (r := 0) (by decide) 1 1 (th0 S) t0 (by decide) (fun _ => And.intro (fun _ => ⟨rfl, hE q _ ib0 (f0.trans fb0) eb0⟩) (fun z => absurd z (by decide))) (fun z => absurd z (by decide))⟩))⟩⟩
  obtain ⟨l, l4, el⟩ := hl d hd
  refine And.intro (fun q => ?_) (fun q => ?_)
  · have q : ¬ y = nI 2 := q
    have kk : k ≤ 1 := by
      rcases (show k ≤ 1 ∨ k = 2 by omega) with z | rfl
      · exact z
      · exact absurd e' q
    refine ⟨⟨Nat.le_of_ble_eq_true rfl, Nat.le_of_ble_eq_true rfl, Nat.le_of_ble_eq_true rfl⟩, ?_⟩
    show vsp 156 10 (sX10_unitsIn 156) [.ref 138, .int x, .int y] (th0 S) _ _
    rw [e, e']
    refine e_unitsIn (th0 S) nw (by omega) el l4 kk ⟨rfl, ?_⟩
    have := h1 d k hd e k2 e' _ i0 f0 t0
    unfold stW at this
    rw [if_neg (by omega)] at this
    exact this
  · have q : y = nI 2 := q
    refine ⟨tM, ⟨Nat.le_of_ble_eq_true rfl, Nat.le_of_ble_eq_true rfl, Nat.le_of_ble_eq_true rfl⟩, ?_⟩
    show sX10_storeAt 156 [.int x] (th0 S) _ _
    rw [e]
    refine e_storeAt d (th0 S) ⟨754, tNow, vp_nI (by omega), rfl, ?_⟩
    show Qr (some (.long ((th0 S).2 141 (nI (418 + 83 * d)).toNatClampNeg))) (th0 S)
    rw [nI_clamp (by omega), nw _ (by omega)]
    exact h1 d 2 hd e (by decide) q _ i0 f0 t0
set_option maxHeartbeats 1000000 in
theorem e_mTold {S : Mem} {tp : Nat} {sg : Nat → Int32} {fp : Int32} {r : Nat → Int32} {w : Nat → Int64} {H : HL} {n m : Nat} (hI : MI S tp sg fp r w H) (hf : WFt w n m) (x : Int32) {Qr : QR} {Qx : QX} (hA : ¬ inR x 0 6 → ∀ S', MI S' tp sg fp (bmp r 1) w H → FC S S' → S'.1 138 0 = 1 → Qr (some (.int 0)) S') (h1 : ∀ k, k ≤ 6 → x = nI k → ∀ S', MI S' tp sg fp r w H → FC S S' → S'.1 138 0 = 0 → Qr (some (.int (tdV w tp H.length k))) S') : vsp 156 10 (sX10_told 156) [.ref 138, .int x] S Qr Qx := by
  obtain ⟨i0, f0⟩ := hI.thr 0
  have t0 : (th0 S).1 138 0 = 0 := u2_s S.1 138 0 0
  have hn5 := hf.1
  have hm4 := hf.2.1
  have nw : NwR (th0 S) w := i0.2.2.2.1
  have s0 : (th0 S).2 141 0 = lN n := (nw 0 (by decide)).trans hf.2.2.1
  have s1 : (th0 S).2 141 1 = lN m := (nw 1 (by decide)).trans hf.2.2.2.1
  obtain ⟨ib0, fb0, eb0⟩ := i0.bad 1 (i := 0) (by decide)
  obtain ⟨ib, fb, eb⟩ := i0.bad 2 (i := 1) (by decide)
  obtain ⟨ib1, fb1, eb1⟩ := i0.bad 1 (i := 1) (by decide)
  refine ⟨tM, runG rfl 160 ⟨tM, ⟨Nat.le_of_ble_eq_true rfl, Nat.le_of_ble_eq_true rfl, Nat.le_of_ble_eq_true rfl⟩, e_inW x 0 6 (by decide) (by decide) (th0 S) (fun k k1 k2 e => And.intro (fun _ => ⟨⟨Nat.le_of_ble_eq_true rfl, Nat.le_of_ble_eq_true rfl, Nat.le_of_ble_eq_true rfl⟩, e_bad (r := 1) (by decide) 0 1 (th0 S) t0 (by decide) (fun z => absurd rfl z) (fun _ => And.intro (fun _ => ⟨fun q => ?_, fun q => ?_, fun q => ?_, fun q => ?_, fun q => ?_, fun q => ?_, fun q => ?_, trivial⟩) (fun z => absurd rfl z))⟩) (fun z => absurd z (by decide))) (fun q => And.intro (fun z => absurd rfl z) (fun _ => ⟨⟨Nat.le_of_ble_eq_true rfl, Nat.le_of_ble_eq_true rfl, Nat.le_of_ble_eq_true rfl⟩, e_bad (r := 1) (by decide) 1 1 (th0 S) t0 (by decide) (fun _ => And.intro (fun z => absurd z (by decide)) (fun _ => hA q _ ib1 (f0.trans fb1) eb1)) (fun z => absurd z (by decide))⟩))⟩⟩
  · have q := sw_d (n := 6) e k2 (by decide) q
    subst q
    refine ⟨tM, ?_⟩
    show Qr (some (.int ((th0 S).1 138 13))) (th0 S)
    have b13 : (th0 S).1 138 13 = nI H.length := i0.2.2.2.2.1
    rw [b13]; exact h1 6 (by decide) e _ i0 f0 t0
  · refine ⟨tM, 754, tNow, vp_nI (n := 0) (by decide), ?_⟩
    show Qr (some (.int ((th0 S).2 141 0).toInt32)) (th0 S)
    rw [nw _ (by decide)]; exact h1 0 (by decide) q _ i0 f0 t0
  · refine ⟨tM, 754, tNow, vp_nI (n := 1) (by decide), ?_⟩
    show Qr (some (.int ((th0 S).2 141 1).toInt32)) (th0 S)
    rw [nw _ (by decide)]; exact h1 1 (by decide) q _ i0 f0 t0
  · refine ⟨tM, 754, tNow, vp_nI (n := 3) (by decide), ?_⟩
    show Qr (some (.int ((th0 S).2 141 3).toInt32)) (th0 S)
    rw [nw _ (by decide)]; exact h1 2 (by decide) q _ i0 f0 t0
  · refine ⟨tM, 754, tNow, vp_nI (n := 4) (by decide), ?_⟩
    show Qr (some (.int ((th0 S).2 141 4).toInt32)) (th0 S)
    rw [nw _ (by decide)]; exact h1 3 (by decide) q _ i0 f0 t0
  · refine ⟨tM, 754, tNow, vp_nI (n := 2) (by decide), ?_⟩
    show Qr (some (.int ((th0 S).2 141 2).toInt32)) (th0 S)
    rw [nw _ (by decide)]; exact h1 4 (by decide) q _ i0 f0 t0
  · refine ⟨tM, ?_⟩
    show Qr (some (.int ((th0 S).1 138 2))) (th0 S)
    have b2 : (th0 S).1 138 2 = nI tp := i0.2.2.1.1
    rw [b2]; exact h1 5 (by decide) q _ i0 f0 t0
theorem e_mStatus {S : Mem} {tp : Nat} {sg : Nat → Int32} {fp : Int32} {r : Nat → Int32} {w : Nat → Int64} {H : HL} (hI : MI S tp sg fp r w H) (x : Int32) {Qr : QR} {Qx : QX} (h0 : ¬ inR x 0 2 → ∀ S', MI S' tp sg fp r w H → FC S S' → Qr (some (.int (-1))) S') (h1 : ∀ k, k ≤ 2 → x = nI k → ∀ S', MI S' tp sg fp r w H → FC S S' → Qr (some (.int (r k))) S') : vsp 156 10 (sX10_status 156) [.ref 138, .int x] S Qr Qx := by
  obtain ⟨i0, f0⟩ := hI.thr 0
  refine ⟨tM, runG rfl 80 ⟨tM, ⟨Nat.le_of_ble_eq_true rfl, Nat.le_of_ble_eq_true rfl, Nat.le_of_ble_eq_true rfl⟩, e_inW x 0 2 (by decide) (by decide) (th0 S) (fun k k1 k2 e => And.intro (fun z => absurd z (by decide)) (fun _ => ⟨tM, Or.inl ⟨3, tRef, by rw [e]; exact vp_nI (by omega), ?_⟩⟩)) (fun q => And.intro (fun _ => h0 q _ i0 f0) (fun z => absurd rfl z))⟩⟩
  show Qr (some (.int ((th0 S).1 139 x.toNatClampNeg))) (th0 S)
  have b : (th0 S).1 139 k = r k := i0.2.1 k (by omega)
  rw [e, nI_clamp (by omega), b]
  exact h1 k k2 e _ i0 f0
theorem e_mFault {S : Mem} {tp : Nat} {sg : Nat → Int32} {fp : Int32} {r : Nat → Int32} {w : Nat → Int64} {H : HL} (hI : MI S tp sg fp r w H) {Qr : QR} {Qx : QX} (h1 : ∀ S', MI S' tp sg fp r w H → FC S S' → Qr (some (.int fp)) S') : vsp 156 10 (sX10_fault 156) [.ref 138] S Qr Qx := by
  obtain ⟨i0, f0⟩ := hI.thr 0
  refine ⟨tM, runG rfl 80 ⟨tM, tM, ?_⟩⟩
  show Qr (some (.int ((th0 S).1 138 5))) (th0 S)
  have b : (th0 S).1 138 5 = fp := i0.1
  rw [b]; exact h1 _ i0 f0
theorem e_mThrown (S : Mem) {Qr : QR} {Qx : QX} (h1 : Qr (some (.int (S.1 138 0))) S) : vsp 156 10 (sX10_thrown 156) [.ref 138] S Qr Qx := ⟨tM, runG rfl 80 ⟨tM, h1⟩⟩
set_option maxHeartbeats 1000000 in
theorem e_mAsDone {S : Mem} {tp : Nat} {sg : Nat → Int32} {fp : Int32} {r : Nat → Int32} {w : Nat → Int64} {H : HL} {n m : Nat} (hI : MI S tp sg fp r w H) (hf : WFt w n m) (x y v : Int32) {Qr : QR} {Qx : QX} (hE : ¬ (∃ d, d < n ∧ x = nI d ∧ kndP y 0 (mtN w d)) → ∀ S', MI S' tp sg fp (bmp r 0) w H → FC S S' → S'.1 138 0 = 1 → Qr (some (.int 0)) S') (hA : ∀ d, d < n → x = nI d → kndP y 0 (mtN w d) → ¬ inR v 0 3 → ∀ S', MI S' tp sg fp (bmp r 1) w H → FC S S' → S'.1 138 0 = 2 → Qr (some (.int 0)) S') (h1 : ∀ d k j, d < n → x = nI d → k < 4 → y = nI k → kndP y 0 (mtN w d) → j ≤ 3 → v = nI j → ∀ S', MI S' tp sg fp r w H → FC S S' → S'.1 138 0 = 0 → Qr (some (.int (w (149 + 55 * d + 4 * k + j)).toInt32)) S') : vsp 156 10 (sX10_asDone 156) [.ref 138, .int x, .int y, .int v] S Qr Qx := by
  obtain ⟨i0, f0⟩ := hI.thr 0
  have t0 : (th0 S).1 138 0 = 0 := u2_s S.1 138 0 0
  have hn5 := hf.1
  have hm4 := hf.2.1
  have nw : NwR (th0 S) w := i0.2.2.2.1
  have s0 : (th0 S).2 141 0 = lN n := (nw 0 (by decide)).trans hf.2.2.1
  have s1 : (th0 S).2 141 1 = lN m := (nw 1 (by decide)).trans hf.2.2.2.1
  obtain ⟨ib0, fb0, eb0⟩ := i0.bad 1 (i := 0) (by decide)
  obtain ⟨ib, fb, eb⟩ := i0.bad 2 (i := 1) (by decide)
  refine ⟨tM, runG rfl 160 ⟨tM, ⟨Nat.le_of_ble_eq_true rfl, Nat.le_of_ble_eq_true rfl, Nat.le_of_ble_eq_true rfl⟩, e_isDept x (th0 S) s0 hn5 (fun d hd e => And.intro (fun z => absurd z (by decide)) (fun _ => ⟨⟨Nat.le_of_ble_eq_true rfl, Nat.le_of_ble_eq_true rfl, Nat.le_of_ble_eq_true rfl⟩, ?_⟩)) (fun q => And.intro (fun _ => ⟨⟨Nat.le_of_ble_eq_true rfl, Nat.le_of_ble_eq_true rfl, Nat.le_of_ble_eq_true rfl⟩, e_bad (r := 0) (by decide) 1 1 (th0 S) t0 (by decide) (fun _ => And.intro (fun _ => hE (fun ⟨d, a, b, _⟩ => q ⟨d, a, b⟩) _ ib0 (f0.trans fb0) eb0) (fun z => absurd z (by decide))) (fun z => absurd z (by decide))⟩) (fun z => absurd rfl z))⟩⟩
  obtain ⟨-, -, -, -, ⟨mm, mm2, em, -⟩, -⟩ := hf.2.2.2.2.2.1 d hd
  have emt : mtN w d = mm := by unfold mtN cnt; rw [em, lN_clamp (by omega)]
  have sm : (th0 S).2 141 (5 + 9 * d + 4) = lN (mtN w d) := by rw [emt]; exact (nw _ (by omega)).trans em
  show vsp 156 10 (sX10_isKind 156) [.ref 138, .int x, .int y, .int (nI 0)] (th0 S) _ _
  rw [e]
  refine e_isKind (l := 0) (by omega) y (th0 S) sm (by omega) (by decide) (fun kp => And.intro (fun _ => ⟨⟨Nat.le_of_ble_eq_true rfl, Nat.le_of_ble_eq_true rfl, Nat.le_of_ble_eq_true rfl⟩, e_bad (r := 0) (by decide) 0 1 (th0 S) t0 (by decide) (fun z => absurd rfl z) (fun _ => And.intro (fun z => absurd rfl z) (fun _ => ⟨⟨Nat.le_of_ble_eq_true rfl, Nat.le_of_ble_eq_true rfl, Nat.le_of_ble_eq_true rfl⟩, e_inW v 0 3 (by decide) (by decide) (th0 S) (fun j j1 j2 e3 => And.intro (fun _ => ⟨⟨Nat.le_of_ble_eq_true rfl, Nat.le_of_ble_eq_true rfl, Nat.le_of_ble_eq_true rfl⟩, e_bad (r := 1) (by decide) 0 2 (th0 S) t0 (by decide) (fun z => absurd rfl z) (fun _ => And.intro (fun _ => ⟨tM, ⟨Nat.le_of_ble_eq_true rfl, Nat.le_of_ble_eq_true rfl, Nat.le_of_ble_eq_true rfl⟩, ?_⟩) (fun z => absurd rfl z))⟩) (fun z => absurd z (by decide))) (fun q => And.intro (fun z => absurd rfl z) (fun _ => ⟨⟨Nat.le_of_ble_eq_true rfl, Nat.le_of_ble_eq_true rfl, Nat.le_of_ble_eq_true rfl⟩, e_bad (r := 1) (by decide) 1 2 (th0 S) t0 (by decide) (fun _ => And.intro (fun z => absurd z (by decide)) (fun _ => hA d hd e kp q _ ib (f0.trans fb) eb)) (fun z => absurd z (by decide))⟩))⟩))⟩) (fun z => absurd z (by decide))) (fun q => And.intro (fun z => absurd rfl z) (fun _ => ⟨⟨Nat.le_of_ble_eq_true rfl, Nat.le_of_ble_eq_true rfl, Nat.le_of_ble_eq_true rfl⟩, e_bad (r := 0) (by decide) 1 1 (th0 S) t0 (by decide) (fun _ => And.intro (fun _ => hE (fun ⟨d', a, b, kk⟩ => q (by have : d' = d := (nI_eq (by omega) (by omega)).mp (b.symm.trans e); subst this; exact kk)) _ ib0 (f0.trans fb0) eb0) (fun z => absurd z (by decide))) (fun z => absurd z (by decide))⟩))
  have kp' := kp
  obtain ⟨k, k4, ey, -, -⟩ := kp'
  show sX10_latest 156 [.int (nI d), .int (nI 18 + nI 4 * y + v)] (th0 S) _ _
  rw [ey, e3, ix2]
  refine e_latest d (18 + 4 * k + j) (th0 S) ⟨754, tNow, vp_nI (by omega), ?_⟩
  show Qr (some (.int ((th0 S).2 141 (nI (131 + 55 * d + (18 + 4 * k + j))).toNatClampNeg).toInt32)) (th0 S)
  rw [nI_clamp (by omega), nw _ (by omega), show 131 + 55 * d + (18 + 4 * k + j) = 149 + 55 * d + 4 * k + j by omega]
  exact h1 d k j hd e k4 ey kp j2 e3 _ i0 f0 t0
set_option maxHeartbeats 1000000 in
theorem e_mCents {S : Mem} {tp : Nat} {sg : Nat → Int32} {fp : Int32} {r : Nat → Int32} {w : Nat → Int64} {H : HL} {n m : Nat} (hI : MI S tp sg fp r w H) (hf : WFt w n m) (x y v : Int32) {Qr : QR} {Qx : QX} (hE : ¬ (∃ d, d < n ∧ x = nI d ∧ kndP y 0 (mtN w d)) → ∀ S', MI S' tp sg fp (bmp r 0) w H → FC S S' → S'.1 138 0 = 1 → Qr (some (.long 0)) S') (hA : ∀ d, d < n → x = nI d → kndP y 0 (mtN w d) → ¬ inR v 0 3 → ∀ S', MI S' tp sg fp (bmp r 1) w H → FC S S' → S'.1 138 0 = 2 → Qr (some (.long 0)) S') (h1 : ∀ d k j, d < n → x = nI d → k < 4 → y = nI k → kndP y 0 (mtN w d) → j ≤ 3 → v = nI j → ∀ S', MI S' tp sg fp r w H → FC S S' → S'.1 138 0 = 0 → Qr (some (.long (w (165 + 55 * d + 4 * k + j)))) S') : vsp 156 10 (sX10_cents 156) [.ref 138, .int x, .int y, .int v] S Qr Qx := by
  obtain ⟨i0, f0⟩ := hI.thr 0
  have t0 : (th0 S).1 138 0 = 0 := u2_s S.1 138 0 0
  have hn5 := hf.1
  have hm4 := hf.2.1
  have nw : NwR (th0 S) w := i0.2.2.2.1
  have s0 : (th0 S).2 141 0 = lN n := (nw 0 (by decide)).trans hf.2.2.1
  have s1 : (th0 S).2 141 1 = lN m := (nw 1 (by decide)).trans hf.2.2.2.1
  obtain ⟨ib0, fb0, eb0⟩ := i0.bad 1 (i := 0) (by decide)
  obtain ⟨ib, fb, eb⟩ := i0.bad 2 (i := 1) (by decide)
  refine ⟨tM, runG rfl 160 ⟨tM, ⟨Nat.le_of_ble_eq_true rfl, Nat.le_of_ble_eq_true rfl, Nat.le_of_ble_eq_true rfl⟩, e_isDept x (th0 S) s0 hn5 (fun d hd e => And.intro (fun z => absurd z (by decide)) (fun _ => ⟨⟨Nat.le_of_ble_eq_true rfl, Nat.le_of_ble_eq_true rfl, Nat.le_of_ble_eq_true rfl⟩, ?_⟩)) (fun q => And.intro (fun _ => ⟨⟨Nat.le_of_ble_eq_true rfl, Nat.le_of_ble_eq_true rfl, Nat.le_of_ble_eq_true rfl⟩, e_bad (r := 0) (by decide) 1 1 (th0 S) t0 (by decide) (fun _ => And.intro (fun _ => ⟨rfl, hE (fun ⟨d, a, b, _⟩ => q ⟨d, a, b⟩) _ ib0 (f0.trans fb0) eb0⟩) (fun z => absurd z (by decide))) (fun z => absurd z (by decide))⟩) (fun z => absurd rfl z))⟩⟩
  obtain ⟨-, -, -, -, ⟨mm, mm2, em, -⟩, -⟩ := hf.2.2.2.2.2.1 d hd
  have emt : mtN w d = mm := by unfold mtN cnt; rw [em, lN_clamp (by omega)]
  have sm : (th0 S).2 141 (5 + 9 * d + 4) = lN (mtN w d) := by rw [emt]; exact (nw _ (by omega)).trans em
  show vsp 156 10 (sX10_isKind 156) [.ref 138, .int x, .int y, .int (nI 0)] (th0 S) _ _
  rw [e]
  refine e_isKind (l := 0) (by omega) y (th0 S) sm (by omega) (by decide) (fun kp => And.intro (fun _ => ⟨⟨Nat.le_of_ble_eq_true rfl, Nat.le_of_ble_eq_true rfl, Nat.le_of_ble_eq_true rfl⟩, e_bad (r := 0) (by decide) 0 1 (th0 S) t0 (by decide) (fun z => absurd rfl z) (fun _ => And.intro (fun z => absurd rfl z) (fun _ => ⟨⟨Nat.le_of_ble_eq_true rfl, Nat.le_of_ble_eq_true rfl, Nat.le_of_ble_eq_true rfl⟩, e_inW v 0 3 (by decide) (by decide) (th0 S) (fun j j1 j2 e3 => And.intro (fun _ => ⟨⟨Nat.le_of_ble_eq_true rfl, Nat.le_of_ble_eq_true rfl, Nat.le_of_ble_eq_true rfl⟩, e_bad (r := 1) (by decide) 0 2 (th0 S) t0 (by decide) (fun z => absurd rfl z) (fun _ => And.intro (fun _ => ⟨tM, ⟨Nat.le_of_ble_eq_true rfl, Nat.le_of_ble_eq_true rfl, Nat.le_of_ble_eq_true rfl⟩, ?_⟩) (fun z => absurd rfl z))⟩) (fun z => absurd z (by decide))) (fun q => And.intro (fun z => absurd rfl z) (fun _ => ⟨⟨Nat.le_of_ble_eq_true rfl, Nat.le_of_ble_eq_true rfl, Nat.le_of_ble_eq_true rfl⟩, e_bad (r := 1) (by decide) 1 2 (th0 S) t0 (by decide) (fun _ => And.intro (fun z => absurd z (by decide)) (fun _ => ⟨rfl, hA d hd e kp q _ ib (f0.trans fb) eb⟩)) (fun z => absurd z (by decide))⟩))⟩))⟩) (fun z => absurd z (by decide))) (fun q => And.intro (fun z => absurd rfl z) (fun _ => ⟨⟨Nat.le_of_ble_eq_true rfl, Nat.le_of_ble_eq_true rfl, Nat.le_of_ble_eq_true rfl⟩, e_bad (r := 0) (by decide) 1 1 (th0 S) t0 (by decide) (fun _ => And.intro (fun _ => ⟨rfl, hE (fun ⟨d', a, b, kk⟩ => q (by have : d' = d := (nI_eq (by omega) (by omega)).mp (b.symm.trans e); subst this; exact kk)) _ ib0 (f0.trans fb0) eb0⟩) (fun z => absurd z (by decide))) (fun z => absurd z (by decide))⟩))
  have kp' := kp
  obtain ⟨k, k4, ey, -, -⟩ := kp'
  show sX10_latest 156 [.int (nI d), .int (nI 34 + nI 4 * y + v)] (th0 S) _ _
  rw [ey, e3, ix2]
  refine e_latest d (34 + 4 * k + j) (th0 S) ⟨754, tNow, vp_nI (by omega), rfl, ?_⟩
  show Qr (some (.long ((th0 S).2 141 (nI (131 + 55 * d + (34 + 4 * k + j))).toNatClampNeg))) (th0 S)
  rw [nI_clamp (by omega), nw _ (by omega), show 131 + 55 * d + (34 + 4 * k + j) = 165 + 55 * d + 4 * k + j by omega]
  exact h1 d k j hd e k4 ey kp j2 e3 _ i0 f0 t0
