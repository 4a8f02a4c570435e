/-! ===== plan: the model's method ===== -/
theorem MI.fl {T : Mem} {tp : Nat} {sg : Nat → Int32} {fp : Int32} {r : Nat → Int32} {w : Nat → Int64} {H : HL} (h : MI T tp sg fp r w H) (X : Nat → Nat → Int64) (hX : ∀ c, c ≠ 153 → c ≠ 154 → X c = T.2 c) : MI (T.1, X) tp sg fp r w H ∧ FC T (T.1, X) := by
  obtain ⟨a, b, c, d, ⟨e1, e2, e3⟩⟩ := h
  exact ⟨⟨a, b, c, fun i hi => by show X 141 i = w i; rw [hX 141 (by decide) (by decide)]; exact d i hi, ⟨e1, e2, fun i hi j hj => by show X (145 + (H.length - 1 - i)) j = _; rw [hX _ (by omega) (by omega)]; exact e3 i hi j hj⟩⟩, fun c hc => ⟨rfl, hX c (by omega) (by omega)⟩⟩
set_option maxHeartbeats 4000000 in
theorem e_mPlan {S : Mem} {tp : Nat} {sg : Nat → Int32} {fp : Int32} {r : Nat → Int32} {w : Nat → Int64} {H : HL} {n m : Nat} (hI : MI S tp sg fp r w H) (hf : WFt w n m) (hn0 : 0 < n) (x y : Int32) {Qr : QR} {Qx : QX} (hA : ¬ (inR x 0 10000 ∧ inR y 0 6) → ∀ S', MI S' tp sg fp (bmp r 1) w H → FC S S' → S'.1 138 0 = 1 → Qr (some (.long 0)) S') (hE : ∀ k j, k ≤ 10000 → x = nI k → j ≤ 6 → y = nI j → j < 5 → n ≤ j → ∀ S', MI S' tp sg fp (bmp r 0) w H → FC S S' → S'.1 138 0 = 2 → Qr (some (.long 0)) S')
    (h1 : ∀ k j T, k ≤ 10000 → x = nI k → j ≤ 6 → y = nI j → (j < 5 → j < n) → T < 1000000 → stl (rtW w) (shW w) (btW w) (lN k * 1000000) n T → ∀ S', MI S' tp sg fp r w H → FC S S' → S'.1 138 0 = 0 → Qr (some (.long (plV w n k T j))) S') : vsp 156 10 (sX10_plan 156) [.ref 138, .int x, .int y] S Qr Qx := by
  obtain ⟨i0, f0⟩ := hI.thr 0
  have t0 : (th0 S).1 138 0 = 0 := u2_s S.1 138 0 0
  have n5 := hf.1
  have nw : NwR (th0 S) w := i0.2.2.2.1
  have s0 : (th0 S).2 141 0 = lN n := (nw 0 (by decide)).trans hf.2.2.1
  obtain ⟨ib, fb, eb⟩ := i0.bad 1 (i := 1) (by decide)
  obtain ⟨ib0, fb0, eb0⟩ := i0.bad 2 (i := 0) (by decide)
  by_cases hx : inR x 0 10000 ∧ inR y 0 6
  · obtain ⟨⟨k, -, k2, ex⟩, ⟨j, -, j2, ey⟩⟩ := hx
    obtain ⟨T, T6, hT⟩ := plan_T hf hn0 k2
    have nn : x.toInt64 * 1000000 = lN k * 1000000 := by rw [ex, nI_l (by omega)]
    refine ⟨tM, runM (ι := Nat × LL × (Nat → Nat → Int64) × Nat) rfl 200 0 [78, 98] (fun a => a.1) (fun a => a.2.1) (fun a => ((th0 S).1, a.2.2.1)) (fun a => a.2.2.2)
      (fun a => (j < 5 → j < n) ∧ ((∃ i X, i ≤ 5 ∧ (∀ d, d < i → X 153 d = 0) ∧ (∀ c, c ≠ 153 → X c = (th0 S).2 c) ∧ a = (78, [(3, .int (nI i)), (2, .int y), (1, .int x), (0, .ref 138)], X, 5 - i + T + 1)) ∨ (∃ t X, t ≤ T ∧ (∀ d, d < n → X 153 d = flw (rtW w) (shW w) (btW w) (lN k * 1000000) n t d) ∧ (∀ c, c ≠ 153 → c ≠ 154 → X c = (th0 S).2 c) ∧ a = (98, [(3, .int (nI t)), (2, .int y), (1, .int x), (0, .ref 138)], X, T - t)))) ?_ ?_⟩
    · rintro a ⟨hj, ⟨i, X, hi, h0, hc, rfl⟩ | ⟨t, X, ht, hX, hc, rfl⟩⟩
      · refine And.intro (fun q => ?_) (fun q => ?_)
        · have q : nI 5 ≤ nI i := q
          obtain rfl := le_of_nI (by decide) hi q
          exact ⟨rfl, rfl, (98, [(3, .int (nI 0)), (2, .int y), (1, .int x), (0, .ref 138)], X, T - 0), rfl, ⟨⟨hj, Or.inr ⟨0, X, Nat.zero_le _, fun d hd => h0 d (by omega), fun c p q => hc c p, rfl⟩⟩, by show T - 0 < 5 - 5 + T + 1; omega⟩, rfl, rfl, rfl, rfl, rfl, trivial⟩
        · have q : ¬ nI 5 ≤ nI i := q
          have hlt := lt_of_nI (by decide) hi q
          refine ⟨tM, 5, tFlow, vp_nI (by omega), rfl, rfl, (78, [(3, .int (nI (i + 1))), (2, .int y), (1, .int x), (0, .ref 138)], u2 X 153 i 0, 5 - (i + 1) + T + 1), rfl, ⟨⟨hj, Or.inl ⟨i + 1, _, hlt, fun d hd => ?_, fun c hc' => (u2_other _ _ _ hc').trans (hc c hc'), rfl⟩⟩, by show 5 - (i + 1) + T + 1 < 5 - i + T + 1; omega⟩, ?_, congrArg (fun z => some (Value.int z)) (nI_1 i), rfl, rfl, rfl, trivial⟩
          · by_cases z : d = i
            · subst z; exact u2_s _ _ _ _
            · rw [u2_j _ _ _ _ z]; exact h0 d (by omega)
          · show ((th0 S).1, u2 X 153 (nI i).toNatClampNeg 0) = _
            rw [nI_clamp (by omega)]
      · have nx : NwR ((th0 S).1, X) w := fun i hi => by show X 141 i = w i; rw [hc 141 (by decide) (by decide)]; exact nw i hi
        have rs : ∀ d, d < n → rnd (rtW w) (shW w) (btW w) (x.toInt64 * 1000000) (X 153) n d = flw (rtW w) (shW w) (btW w) (lN k * 1000000) n (t + 1) d := fun d hd => by rw [nn]; exact rnd_congr hX (fun _ _ => rfl) (fun _ _ => rfl) (fun _ _ => rfl) n d (Nat.le_refl n) hd
        refine ⟨⟨Nat.le_of_ble_eq_true rfl, Nat.le_of_ble_eq_true rfl, Nat.le_of_ble_eq_true rfl⟩, e_goesRound x ((th0 S).1, X) nx hf (fun z Y y1 y2 => ?_) (fun z Y y1 y2 => ?_)⟩
        · have hlt : t < T := by
            rcases Nat.lt_or_ge t T with q | q
            · exact q
            · obtain rfl : t = T := by omega
              obtain ⟨d, hd, ne⟩ := z
              exact absurd ((rs d hd).trans ((hT.2 d hd).trans (hX d hd).symm)) ne
          exact And.intro (fun z => absurd z (by decide)) (fun _ => ⟨rfl, rfl, (98, [(3, .int (nI (t + 1))), (2, .int y), (1, .int x), (0, .ref 138)], Y, T - (t + 1)), rfl, ⟨⟨hj, Or.inr ⟨t + 1, Y, hlt, fun d hd => (y1 d hd).trans (rs d hd), fun c p q => (y2 c p q).trans (hc c p q), rfl⟩⟩, by show T - (t + 1) < T - t; omega⟩, rfl, congrArg (fun z => some (Value.int z)) (nI_1 t), rfl, rfl, rfl, trivial⟩)
        · have he : t = T := by
            rcases Nat.lt_or_ge t T with q | q
            · obtain ⟨d, hd, ne⟩ := hT.1 t q
              exact absurd ((rs d hd).symm.trans ((z d hd).trans (hX d hd))) ne
            · omega
          subst he
          have yc : ∀ c, c ≠ 153 → c ≠ 154 → Y c = (th0 S).2 c := fun c p q => (y2 c p q).trans (hc c p q)
          have yf : ∀ d, d < n → Y 153 d = flw (rtW w) (shW w) (btW w) (lN k * 1000000) n t d := fun d hd => (y1 d hd).trans (hX d hd)
          have ny : NwR ((th0 S).1, Y) w := fun i hi => by show Y 141 i = w i; rw [yc 141 (by decide) (by decide)]; exact nw i hi
          obtain ⟨iY, fY⟩ := i0.fl Y yc
          have g := h1 k j t k2 ex j2 ey hj T6 hT _ iY (f0.trans fY) t0
          refine And.intro (fun _ => And.intro (fun q => And.intro (fun q5 => ⟨rfl, ?_⟩) (fun q5 => ?_)) (fun q => ?_)) (fun z => absurd rfl z)
          · have q : nI 5 ≤ y := q
            rw [ey] at q
            have q := (nI_leI (by decide) (by omega)).mp q
            have j6 : j = 6 := by
              rcases (show j = 5 ∨ j = 6 by omega) with rfl | z
              · exact absurd ey q5
              · exact z
            subst j6
            show Qr (some (.long (nI t).toInt64)) _
            rw [nI_l (by omega)]
            unfold plV at g
            rw [if_neg (by decide), if_neg (by decide)] at g
            exact g
          · have j5 : j = 5 := (nI_eq (b := 5) (by omega) (by decide)).mp (ey.symm.trans q5)
            subst j5
            have y0 : Y 141 0 = lN n := (ny 0 (by decide)).trans hf.2.2.1
            refine ⟨tM, 754, tNow, vp_nI (n := 0) (by decide), ⟨Nat.le_of_ble_eq_true rfl, Nat.le_of_ble_eq_true rfl, Nat.le_of_ble_eq_true rfl⟩, ?_⟩
            show vsp 156 10 (sX10_passes 156) [.ref 138, .int ((Y 141 0).toInt32 - 1)] ((th0 S).1, Y) _ _
            rw [y0, lN_i, nI_pr hn0]
            refine e_passes ((th0 S).1, Y) ny (by omega) ⟨rfl, ?_⟩
            show Qr (some (.long (Y 153 (n - 1) - Y 153 (n - 1) * rtW w (n - 1) / 100))) _
            rw [yf (n - 1) (by omega)]
            unfold plV at g
            rw [if_neg (by decide), if_pos rfl] at g
            exact g
          · have q : ¬ nI 5 ≤ y := q
            rw [ey] at q
            have j4 : j < 5 := by
              rcases Nat.lt_or_ge j 5 with u | u
              · exact u
              · exact absurd (nI_le u (by omega)) q
            refine ⟨tM, 5, tFlow, by rw [ey]; exact vp_nI j4, rfl, ?_⟩
            show Qr (some (.long (Y 153 y.toNatClampNeg))) _
            rw [ey, nI_clamp (by omega), yf j (hj j4)]
            unfold plV at g
            rw [if_pos j4] at g
            exact g
    · have ent : (j < 5 → j < n) → LM 0 (fun a : Nat × LL × (Nat → Nat → Int64) × Nat => a.1) (fun a => a.2.1) (fun a => ((th0 S).1, a.2.2.1)) (fun a => (j < 5 → j < n) ∧ ((∃ i X, i ≤ 5 ∧ (∀ d, d < i → X 153 d = 0) ∧ (∀ c, c ≠ 153 → X c = (th0 S).2 c) ∧ a = (78, [(3, .int (nI i)), (2, .int y), (1, .int x), (0, .ref 138)], X, 5 - i + T + 1)) ∨ (∃ t X, t ≤ T ∧ (∀ d, d < n → X 153 d = flw (rtW w) (shW w) (btW w) (lN k * 1000000) n t d) ∧ (∀ c, c ≠ 153 → c ≠ 154 → X c = (th0 S).2 c) ∧ a = (98, [(3, .int (nI t)), (2, .int y), (1, .int x), (0, .ref 138)], X, T - t)))) 78 0 [(3, .int 0), (0, .ref 138), (1, .int x), (2, .int y)] [] (th0 S) := fun hj => ⟨rfl, rfl, (78, [(3, .int (nI 0)), (2, .int y), (1, .int x), (0, .ref 138)], (th0 S).2, 5 - 0 + T + 1), rfl, ⟨hj, Or.inl ⟨0, (th0 S).2, Nat.zero_le _, fun d hd => absurd hd (Nat.not_lt_zero d), fun c _ => rfl, rfl⟩⟩, rfl, rfl, rfl, rfl, rfl, trivial⟩
      refine ⟨tM, ⟨Nat.le_of_ble_eq_true rfl, Nat.le_of_ble_eq_true rfl, Nat.le_of_ble_eq_true rfl⟩, e_inW x 0 10000 (by decide) (by decide) (th0 S) (fun _ _ _ _ => And.intro (fun z => absurd z (by decide)) (fun _ => ⟨⟨Nat.le_of_ble_eq_true rfl, Nat.le_of_ble_eq_true rfl, Nat.le_of_ble_eq_true rfl⟩, e_inW y 0 6 (by decide) (by decide) (th0 S) (fun _ _ _ _ => And.intro (fun _ => ⟨⟨Nat.le_of_ble_eq_true rfl, Nat.le_of_ble_eq_true rfl, Nat.le_of_ble_eq_true rfl⟩, e_bad (r := 1) (by decide) 0 1 (th0 S) t0 (by decide) (fun z => absurd rfl z) (fun _ => And.intro (fun z => absurd rfl z) (fun _ => And.intro (fun q => ⟨⟨Nat.le_of_ble_eq_true rfl, Nat.le_of_ble_eq_true rfl, Nat.le_of_ble_eq_true rfl⟩, e_bad (r := 0) (by decide) 0 2 (th0 S) t0 (by decide) (fun z => absurd rfl z) (fun _ => And.intro (fun _ => ent (fun z => ?_)) (fun z => absurd rfl z))⟩) (fun q => ⟨tM, 754, tNow, vp_nI (n := 0) (by decide), And.intro (fun q2 => ⟨⟨Nat.le_of_ble_eq_true rfl, Nat.le_of_ble_eq_true rfl, Nat.le_of_ble_eq_true rfl⟩, e_bad (r := 0) (by decide) 0 2 (th0 S) t0 (by decide) (fun z => absurd rfl z) (fun _ => And.intro (fun _ => ent (fun z => ?_)) (fun z => absurd rfl z))⟩) (fun q2 => ⟨⟨Nat.le_of_ble_eq_true rfl, Nat.le_of_ble_eq_true rfl, Nat.le_of_ble_eq_true rfl⟩, e_bad (r := 0) (by decide) 1 2 (th0 S) t0 (by decide) (fun _ => And.intro (fun z => absurd z (by decide)) (fun _ => ⟨rfl, ?_⟩)) (fun z => absurd z (by decide))⟩)⟩)))⟩) (fun z => absurd z (by decide))) (fun q => absurd ⟨j, Nat.zero_le _, j2, ey⟩ q)⟩)) (fun q => absurd ⟨k, Nat.zero_le _, k2, ex⟩ q)⟩
      · have q : nI 5 ≤ y := q
        rw [ey] at q
        have := (nI_leI (by decide) (by omega)).mp q
        omega
      · have q2 : y.toInt64 < (th0 S).2 141 0 := (lg_cmp_lt _ _).mp q2
        rw [s0, ey, nI_l (by omega)] at q2
        exact (lN_lt (by omega) (by omega)).mp q2
      · have q : ¬ nI 5 ≤ y := q
        rw [ey] at q
        have j4 : j < 5 := by
          rcases Nat.lt_or_ge j 5 with u | u
          · exact u
          · exact absurd (nI_le u (by omega)) q
        refine hE k j k2 ex j2 ey j4 ?_ _ ib0 (f0.trans fb0) eb0
        rcases Nat.lt_or_ge j n with u | u
        · exact absurd ((lg_cmp_lt _ _).mpr (show y.toInt64 < (th0 S).2 141 0 by rw [s0, ey, nI_l (by omega)]; exact (lN_lt (by omega) (by omega)).mpr u)) q2
        · exact u
  · refine ⟨tM, runM (ι := Nat) rfl 200 0 [78, 98] (fun _ => 78) (fun _ => []) (fun _ => S) (fun k => k) (fun _ => False) (fun k hk => absurd hk id) ?_⟩
    exact ⟨tM, ⟨Nat.le_of_ble_eq_true rfl, Nat.le_of_ble_eq_true rfl, Nat.le_of_ble_eq_true rfl⟩, e_inW x 0 10000 (by decide) (by decide) (th0 S) (fun k a b c => And.intro (fun z => absurd z (by decide)) (fun _ => ⟨⟨Nat.le_of_ble_eq_true rfl, Nat.le_of_ble_eq_true rfl, Nat.le_of_ble_eq_true rfl⟩, e_inW y 0 6 (by decide) (by decide) (th0 S) (fun j p q s => absurd ⟨⟨k, a, b, c⟩, ⟨j, p, q, s⟩⟩ hx) (fun q => And.intro (fun z => absurd rfl z) (fun _ => ⟨⟨Nat.le_of_ble_eq_true rfl, Nat.le_of_ble_eq_true rfl, Nat.le_of_ble_eq_true rfl⟩, e_bad (r := 1) (by decide) 1 1 (th0 S) t0 (by decide) (fun _ => And.intro (fun _ => ⟨rfl, hA hx _ ib (f0.trans fb) eb⟩) (fun z => absurd z (by decide))) (fun z => absurd z (by decide))⟩))⟩)) (fun q => And.intro (fun _ => ⟨⟨Nat.le_of_ble_eq_true rfl, Nat.le_of_ble_eq_true rfl, Nat.le_of_ble_eq_true rfl⟩, e_bad (r := 1) (by decide) 1 1 (th0 S) t0 (by decide) (fun _ => And.intro (fun _ => ⟨rfl, hA hx _ ib (f0.trans fb) eb⟩) (fun z => absurd z (by decide))) (fun z => absurd z (by decide))⟩) (fun z => absurd rfl z))⟩
