/-! ===== plan: the model ===== -/
theorem e_mLostOf {d : Nat} {w : Nat → Int64} (S : Mem) (hw : NwR S w) (hd : d < 5) {Qr : QR} {Qx : QX} (h : Qr (some (.long (S.2 153 d * rtW w d / 100))) S) : vsp 156 10 (sX10_lostOf 156) [.ref 138, .int (nI d)] S Qr Qx := by
  refine ⟨tM, runG rfl 60 ⟨tM, 5, tFlow, vp_nI hd, ⟨Nat.le_of_ble_eq_true rfl, Nat.le_of_ble_eq_true rfl, Nat.le_of_ble_eq_true rfl⟩, e_of (x := 2) hd (by decide) S ⟨by decide, rfl, ?_⟩⟩⟩
  show Qr (some (.long (S.2 153 (nI d).toNatClampNeg * S.2 141 (5 + 9 * d + 2) / 100))) S
  rw [nI_clamp (by omega), hw _ (by omega)]; exact h
theorem e_passes {d : Nat} {w : Nat → Int64} (S : Mem) (hw : NwR S w) (hd : d < 5) {Qr : QR} {Qx : QX} (h : Qr (some (.long (S.2 153 d - S.2 153 d * rtW w d / 100))) S) : vsp 156 10 (sX10_passes 156) [.ref 138, .int (nI d)] S Qr Qx := by
  refine ⟨tM, runG rfl 60 ⟨tM, 5, tFlow, vp_nI hd, ⟨Nat.le_of_ble_eq_true rfl, Nat.le_of_ble_eq_true rfl, Nat.le_of_ble_eq_true rfl⟩, e_mLostOf S hw hd ⟨rfl, ?_⟩⟩⟩
  show Qr (some (.long (S.2 153 (nI d).toNatClampNeg - S.2 153 d * rtW w d / 100))) S
  rw [nI_clamp (by omega)]; exact h
set_option maxHeartbeats 4000000 in
theorem e_goesRound {n m : Nat} {w : Nat → Int64} (nn : Int32) (S : Mem) (hw : NwR S w) (hf : WFt w n m) {Qr : QR} {Qx : QX}
    (h1 : (∃ d, d < n ∧ rnd (rtW w) (shW w) (btW w) (nn.toInt64 * 1000000) (S.2 153) n d ≠ S.2 153 d) → ∀ X : Nat → Nat → Int64, (∀ d, d < n → X 153 d = rnd (rtW w) (shW w) (btW w) (nn.toInt64 * 1000000) (S.2 153) n d) → (∀ c, c ≠ 153 → c ≠ 154 → X c = S.2 c) → Qr (some (.int 1)) (S.1, X))
    (h0 : (∀ d, d < n → rnd (rtW w) (shW w) (btW w) (nn.toInt64 * 1000000) (S.2 153) n d = S.2 153 d) → ∀ X : Nat → Nat → Int64, (∀ d, d < n → X 153 d = S.2 153 d) → (∀ c, c ≠ 153 → c ≠ 154 → X c = S.2 c) → Qr (some (.int 0)) (S.1, X)) : vsp 156 10 (sX10_goesRound 156) [.ref 138, .int nn] S Qr Qx := by
  have n5 := hf.1
  have s0 : S.2 141 0 = lN n := (hw 0 (by decide)).trans hf.2.2.1
  refine ⟨tM, runM (ι := Nat × LL × (Nat → Nat → Int64) × Nat) rfl 160 0 [10, 49, 112] (fun a => a.1) (fun a => a.2.1) (fun a => (S.1, a.2.2.1)) (fun a => a.2.2.2)
      (fun a => (∃ i X, i ≤ n ∧ (∀ d, d < i → X 154 d = rnd (rtW w) (shW w) (btW w) (nn.toInt64 * 1000000) (S.2 153) 0 d) ∧ (∀ c, c ≠ 154 → X c = S.2 c) ∧ a = (10, [(3, .int (nI i)), (2, .int (nI n)), (1, .int nn), (0, .ref 138)], X, n - i + 20)) ∨ (∃ i X, i ≤ n ∧ (∀ d, d < n → X 154 d = rnd (rtW w) (shW w) (btW w) (nn.toInt64 * 1000000) (S.2 153) i d) ∧ (∀ c, c ≠ 154 → X c = S.2 c) ∧ a = (49, [(3, .int (nI i)), (2, .int (nI n)), (1, .int nn), (0, .ref 138)], X, n - i + 10)) ∨ (∃ i v X, i ≤ n ∧ ((v = 1 ∧ ∃ d, d < i ∧ rnd (rtW w) (shW w) (btW w) (nn.toInt64 * 1000000) (S.2 153) n d ≠ S.2 153 d) ∨ (v = 0 ∧ ∀ d, d < i → rnd (rtW w) (shW w) (btW w) (nn.toInt64 * 1000000) (S.2 153) n d = S.2 153 d)) ∧ (∀ d, d < n → X 154 d = rnd (rtW w) (shW w) (btW w) (nn.toInt64 * 1000000) (S.2 153) n d) ∧ (∀ d, d < i → X 153 d = rnd (rtW w) (shW w) (btW w) (nn.toInt64 * 1000000) (S.2 153) n d) ∧ (∀ d, i ≤ d → X 153 d = S.2 153 d) ∧ (∀ c, c ≠ 153 → c ≠ 154 → X c = S.2 c) ∧ a = (112, [(4, .int (nI i)), (3, .int v), (2, .int (nI n)), (0, .ref 138)], X, n - i))) ?_ ?_⟩
  · rintro a (⟨i, X, hi, hx, hc, rfl⟩ | ⟨i, X, hi, hx, hc, rfl⟩ | ⟨i, v, X, hi, hv, hx, h3, h4, hc, rfl⟩)
    · refine And.intro (fun q => ?_) (fun q => ?_)
      · have q : nI n ≤ nI i := q
        obtain rfl := le_of_nI (by omega) hi q
        exact ⟨rfl, rfl, (49, [(3, .int (nI 0)), (2, .int (nI i)), (1, .int nn), (0, .ref 138)], X, i - 0 + 10), rfl, ⟨Or.inr (Or.inl ⟨0, X, Nat.zero_le _, hx, hc, rfl⟩), by show i - 0 + 10 < i - i + 20; omega⟩, rfl, rfl, rfl, rfl, rfl, trivial⟩
      · have q : ¬ nI n ≤ nI i := q
        have hlt := lt_of_nI (by omega) hi q
        have nx : NwR (S.1, X) w := fun j hj => by show X 141 j = w j; rw [hc 141 (by decide)]; exact hw j hj
        have go : ∀ z : Int64, z = rnd (rtW w) (shW w) (btW w) (nn.toInt64 * 1000000) (S.2 153) 0 i → LM 0 (fun a : Nat × LL × (Nat → Nat → Int64) × Nat => a.1) (fun a => a.2.1) (fun a => (S.1, a.2.2.1)) (fun a' => ((∃ i X, i ≤ n ∧ (∀ d, d < i → X 154 d = rnd (rtW w) (shW w) (btW w) (nn.toInt64 * 1000000) (S.2 153) 0 d) ∧ (∀ c, c ≠ 154 → X c = S.2 c) ∧ a' = (10, [(3, .int (nI i)), (2, .int (nI n)), (1, .int nn), (0, .ref 138)], X, n - i + 20)) ∨ (∃ i X, i ≤ n ∧ (∀ d, d < n → X 154 d = rnd (rtW w) (shW w) (btW w) (nn.toInt64 * 1000000) (S.2 153) i d) ∧ (∀ c, c ≠ 154 → X c = S.2 c) ∧ a' = (49, [(3, .int (nI i)), (2, .int (nI n)), (1, .int nn), (0, .ref 138)], X, n - i + 10)) ∨ (∃ i v X, i ≤ n ∧ ((v = 1 ∧ ∃ d, d < i ∧ rnd (rtW w) (shW w) (btW w) (nn.toInt64 * 1000000) (S.2 153) n d ≠ S.2 153 d) ∨ (v = 0 ∧ ∀ d, d < i → rnd (rtW w) (shW w) (btW w) (nn.toInt64 * 1000000) (S.2 153) n d = S.2 153 d)) ∧ (∀ d, d < n → X 154 d = rnd (rtW w) (shW w) (btW w) (nn.toInt64 * 1000000) (S.2 153) n d) ∧ (∀ d, d < i → X 153 d = rnd (rtW w) (shW w) (btW w) (nn.toInt64 * 1000000) (S.2 153) n d) ∧ (∀ d, i ≤ d → X 153 d = S.2 153 d) ∧ (∀ c, c ≠ 153 → c ≠ 154 → X c = S.2 c) ∧ a' = (112, [(4, .int (nI i)), (3, .int v), (2, .int (nI n)), (0, .ref 138)], X, n - i))) ∧ a'.2.2.2 < n - i + 20) 10 0 [(3, .int (nI i + 1)), (2, .int (nI n)), (1, .int nn), (0, .ref 138)] [] (S.1, u2 X 154 (nI i).toNatClampNeg z) := by
          intro z hz
          refine ⟨rfl, rfl, (10, [(3, .int (nI (i + 1))), (2, .int (nI n)), (1, .int nn), (0, .ref 138)], u2 X 154 i z, n - (i + 1) + 20), rfl, ⟨Or.inl ⟨i + 1, u2 X 154 i z, hlt, fun d hd => ?_, fun c hc' => (u2_other _ _ _ hc').trans (hc c hc'), rfl⟩, by show n - (i + 1) + 20 < n - i + 20; omega⟩, by rw [nI_clamp (by omega)], congrArg (fun z => some (Value.int z)) (nI_1 i), rfl, rfl, rfl, trivial⟩
          by_cases y : d = i
          · subst y; rw [u2_s]; exact hz
          · rw [u2_j _ _ _ _ y]; exact hx d (by omega)
        refine ⟨tM, And.intro (fun q => ?_) (fun q => ?_)⟩
        · have i0 : 0 < i := by
            rcases Nat.eq_zero_or_pos i with e | e
            · subst e; exact absurd rfl q
            · exact e
          have p1 : nI i - 1 = nI (i - 1) := nI_pr i0
          refine ⟨⟨Nat.le_of_ble_eq_true rfl, Nat.le_of_ble_eq_true rfl, Nat.le_of_ble_eq_true rfl⟩, ?_⟩
          show vsp 156 10 (sX10_passes 156) [.ref 138, .int (nI i - 1)] (S.1, X) _ _
          rw [p1]
          refine e_passes (S.1, X) nx (by omega) ⟨5, tThen, vp_nI (by omega), go _ ?_⟩
          show X 153 (i - 1) - X 153 (i - 1) * rtW w (i - 1) / 100 = if i = 0 then _ else _
          rw [if_neg (by omega), hc 153 (by decide)]
        · have i0 : i = 0 := by
            have q : nI i = 0 := q
            exact (nI_eq (b := 0) (by omega) (by decide)).mp q
          refine ⟨5, tThen, vp_nI (by omega), go _ ?_⟩
          show nn.toInt64 * 1000000 = if i = 0 then _ else _
          rw [if_pos i0]
    · refine And.intro (fun q => ?_) (fun q => ?_)
      · have q : nI n ≤ nI i := q
        obtain rfl := le_of_nI (by omega) hi q
        exact ⟨rfl, rfl, (112, [(4, .int (nI 0)), (3, .int 0), (2, .int (nI i)), (0, .ref 138)], X, i - 0), rfl, ⟨Or.inr (Or.inr ⟨0, 0, X, Nat.zero_le _, Or.inr ⟨rfl, fun d hd => absurd hd (Nat.not_lt_zero d)⟩, hx, fun d hd => absurd hd (Nat.not_lt_zero d), fun d _ => by rw [hc 153 (by decide)], fun c a b => hc c b, rfl⟩), by show i - 0 < i - i + 10; omega⟩, rfl, rfl, rfl, rfl, rfl, trivial⟩
      · have q : ¬ nI n ≤ nI i := q
        have hlt := lt_of_nI (by omega) hi q
        have nx : NwR (S.1, X) w := fun j hj => by show X 141 j = w j; rw [hc 141 (by decide)]; exact hw j hj
        have bw : X 141 (5 + 9 * i + 7) = w (5 + 9 * i + 7) := nx _ (by omega)
        have wd := (hf.2.2.2.2.2.1 i hlt).2.2.2.2.2
        refine ⟨⟨Nat.le_of_ble_eq_true rfl, Nat.le_of_ble_eq_true rfl, Nat.le_of_ble_eq_true rfl⟩, e_of (x := 7) (by omega) (by decide) (S.1, X) (And.intro (fun q => ?_) (fun q => ?_))⟩
        · have q : X 141 (5 + 9 * i + 7) = -1 := (lg_cmp_eq _ _).mp q
          rw [bw] at q
          refine ⟨rfl, rfl, (49, [(3, .int (nI (i + 1))), (2, .int (nI n)), (1, .int nn), (0, .ref 138)], X, n - (i + 1) + 10), rfl, ⟨Or.inr (Or.inl ⟨i + 1, X, hlt, fun d hd => ?_, hc, rfl⟩), by show n - (i + 1) + 10 < n - i + 10; omega⟩, rfl, congrArg (fun z => some (Value.int z)) (nI_1 i), rfl, rfl, rfl, trivial⟩
          show X 154 d = rnd (rtW w) (shW w) (btW w) (nn.toInt64 * 1000000) (S.2 153) i d + if btW w i = nI d then _ else 0
          rw [if_neg (fun y => nI_ne (q := d) (by omega) (y.symm.trans (by unfold btW; rw [q]; decide))), Int64.add_zero]
          exact hx d hd
        · have q : ¬ X 141 (5 + 9 * i + 7) = -1 := fun y => q ((lg_cmp_eq _ _).mpr y)
          rw [bw] at q
          obtain ⟨b, s, b1, s1, s2, z1, z2⟩ : ∃ b s, b ≤ i ∧ 1 ≤ s ∧ s ≤ 90 ∧ w (5 + 9 * i + 7) = lN b ∧ w (5 + 9 * i + 8) = lN s := by
            rcases wd with ⟨y, -⟩ | y
            · exact absurd y q
            · exact y
          have bi : (X 141 (5 + 9 * i + 7)).toInt32 = nI b := by rw [bw, z1, lN_i]
          have vb : vp_in (X 141 (5 + 9 * i + 7)).toInt32 5 := by rw [bi]; exact vp_nI (by omega)
          have cb : (X 141 (5 + 9 * i + 7)).toInt32.toNatClampNeg = b := by rw [bi]; exact nI_clamp (by omega)
          have be : btW w i = nI b := by unfold btW; rw [z1, lN_i]
          refine ⟨tM, ⟨Nat.le_of_ble_eq_true rfl, Nat.le_of_ble_eq_true rfl, Nat.le_of_ble_eq_true rfl⟩, e_of (x := 7) (by omega) (by decide) (S.1, X) ⟨5, tThen, vb, ⟨Nat.le_of_ble_eq_true rfl, Nat.le_of_ble_eq_true rfl, Nat.le_of_ble_eq_true rfl⟩, e_mLostOf (S.1, X) nx (by omega) ⟨⟨Nat.le_of_ble_eq_true rfl, Nat.le_of_ble_eq_true rfl, Nat.le_of_ble_eq_true rfl⟩, e_of (x := 8) (by omega) (by decide) (S.1, X) ⟨by decide, 5, tThen, vb, rfl, rfl, (49, [(3, .int (nI (i + 1))), (2, .int (nI n)), (1, .int nn), (0, .ref 138)], u2 X 154 b (X 154 b + S.2 153 i * rtW w i / 100 * shW w i / 100), n - (i + 1) + 10), rfl, ⟨Or.inr (Or.inl ⟨i + 1, _, hlt, fun d hd => ?_, fun c hc' => (u2_other _ _ _ hc').trans (hc c hc'), rfl⟩), by show n - (i + 1) + 10 < n - i + 10; omega⟩, ?_, congrArg (fun z => some (Value.int z)) (nI_1 i), rfl, rfl, rfl, trivial⟩⟩⟩⟩
          · show u2 X 154 b (X 154 b + S.2 153 i * rtW w i / 100 * shW w i / 100) 154 d = rnd (rtW w) (shW w) (btW w) (nn.toInt64 * 1000000) (S.2 153) i d + if btW w i = nI d then _ else 0
            by_cases y : d = b
            · subst y
              rw [u2_s, if_pos be, hx d hd]
            · rw [u2_j _ _ _ _ y, if_neg (fun z => y ((nI_eq (by omega) (by omega)).mp (z.symm.trans be))), Int64.add_zero]
              exact hx d hd
          · show (S.1, u2 X 154 (X 141 (5 + 9 * i + 7)).toInt32.toNatClampNeg (X 154 (X 141 (5 + 9 * i + 7)).toInt32.toNatClampNeg + X 153 i * rtW w i / 100 * X 141 (5 + 9 * i + 8) / 100)) = _
            rw [cb, hc 153 (by decide), show X 141 (5 + 9 * i + 8) = shW w i from nx _ (by omega)]
    · refine And.intro (fun q => ?_) (fun q => ?_)
      · have q : nI n ≤ nI i := q
        obtain rfl := le_of_nI (by omega) hi q
        rcases hv with ⟨rfl, z⟩ | ⟨rfl, z⟩
        · exact ⟨Or.inr rfl, h1 z X h3 hc⟩
        · exact ⟨Or.inl rfl, h0 z X (fun d hd => (h3 d hd).trans (z d hd)) hc⟩
      · have q : ¬ nI n ≤ nI i := q
        have hlt := lt_of_nI (by omega) hi q
        have cl : (nI i).toNatClampNeg = i := nI_clamp (by omega)
        have e4 : X 154 (nI i).toNatClampNeg = rnd (rtW w) (shW w) (btW w) (nn.toInt64 * 1000000) (S.2 153) n i := by rw [cl]; exact hx i hlt
        have e3 : X 153 (nI i).toNatClampNeg = S.2 153 i := by rw [cl]; exact h4 i (Nat.le_refl i)
        have go : ∀ v' : Int32, ((v' = 1 ∧ ∃ d, d < i + 1 ∧ rnd (rtW w) (shW w) (btW w) (nn.toInt64 * 1000000) (S.2 153) n d ≠ S.2 153 d) ∨ (v' = 0 ∧ ∀ d, d < i + 1 → rnd (rtW w) (shW w) (btW w) (nn.toInt64 * 1000000) (S.2 153) n d = S.2 153 d)) → ∃ a' : Nat × LL × (Nat → Nat → Int64) × Nat, a'.1 = 112 ∧ (((∃ i X, i ≤ n ∧ (∀ d, d < i → X 154 d = rnd (rtW w) (shW w) (btW w) (nn.toInt64 * 1000000) (S.2 153) 0 d) ∧ (∀ c, c ≠ 154 → X c = S.2 c) ∧ a' = (10, [(3, .int (nI i)), (2, .int (nI n)), (1, .int nn), (0, .ref 138)], X, n - i + 20)) ∨ (∃ i X, i ≤ n ∧ (∀ d, d < n → X 154 d = rnd (rtW w) (shW w) (btW w) (nn.toInt64 * 1000000) (S.2 153) i d) ∧ (∀ c, c ≠ 154 → X c = S.2 c) ∧ a' = (49, [(3, .int (nI i)), (2, .int (nI n)), (1, .int nn), (0, .ref 138)], X, n - i + 10)) ∨ (∃ i v X, i ≤ n ∧ ((v = 1 ∧ ∃ d, d < i ∧ rnd (rtW w) (shW w) (btW w) (nn.toInt64 * 1000000) (S.2 153) n d ≠ S.2 153 d) ∨ (v = 0 ∧ ∀ d, d < i → rnd (rtW w) (shW w) (btW w) (nn.toInt64 * 1000000) (S.2 153) n d = S.2 153 d)) ∧ (∀ d, d < n → X 154 d = rnd (rtW w) (shW w) (btW w) (nn.toInt64 * 1000000) (S.2 153) n d) ∧ (∀ d, d < i → X 153 d = rnd (rtW w) (shW w) (btW w) (nn.toInt64 * 1000000) (S.2 153) n d) ∧ (∀ d, i ≤ d → X 153 d = S.2 153 d) ∧ (∀ c, c ≠ 153 → c ≠ 154 → X c = S.2 c) ∧ a' = (112, [(4, .int (nI i)), (3, .int v), (2, .int (nI n)), (0, .ref 138)], X, n - i))) ∧ a'.2.2.2 < n - i) ∧ (S.1, u2 X 153 (nI i).toNatClampNeg (X 154 (nI i).toNatClampNeg)) = (S.1, a'.2.2.1) ∧ a'.2.1 = [(4, .int (nI (i + 1))), (3, .int v'), (2, .int (nI n)), (0, .ref 138)] := by
          intro v' hv'
          refine ⟨(112, [(4, .int (nI (i + 1))), (3, .int v'), (2, .int (nI n)), (0, .ref 138)], u2 X 153 i (rnd (rtW w) (shW w) (btW w) (nn.toInt64 * 1000000) (S.2 153) n i), n - (i + 1)), rfl, ⟨Or.inr (Or.inr ⟨i + 1, v', u2 X 153 i (rnd (rtW w) (shW w) (btW w) (nn.toInt64 * 1000000) (S.2 153) n i), hlt, hv', fun d hd => ?_, fun d hd => ?_, fun d hd => ?_, fun c p1 p2 => (u2_other _ _ _ p1).trans (hc c p1 p2), rfl⟩), by show n - (i + 1) < n - i; omega⟩, by rw [e4, cl], rfl⟩
          · rw [u2_k _ _ _ _ (by decide)]; exact hx d hd
          · by_cases y : d = i
            · subst y; exact u2_s _ _ _ _
            · rw [u2_j _ _ _ _ y]; exact h3 d (by omega)
          · rw [u2_j _ _ _ _ (by omega)]; exact h4 d (by omega)
        refine ⟨tM, 5, tThen, vp_nI (by omega), tM, 5, tFlow, vp_nI (by omega), And.intro (fun q => ?_) (fun q => ?_)⟩
        · have q : X 154 (nI i).toNatClampNeg = X 153 (nI i).toNatClampNeg := (lg_cmp_eq _ _).mp q
          rw [e4, e3] at q
          obtain ⟨a', A, B, C, D⟩ := go v (hv.imp (fun ⟨p1, d, p2, p3⟩ => ⟨p1, d, by omega, p3⟩) (fun ⟨p1, p2⟩ => ⟨p1, fun d hd => by
            by_cases y : d = i
            · rw [y]; exact q
            · exact p2 d (by omega)⟩))
          have hvv : v ||| 0 = v := by rcases hv with ⟨rfl, -⟩ | ⟨rfl, -⟩ <;> decide
          refine ⟨tM, tM, 5, tThen, vp_nI (by omega), 5, tFlow, vp_nI (by omega), rfl, rfl, a', A, B, C, ?_⟩
          show sb a'.2.1 _
          rw [D]
          exact ⟨congrArg (fun z => some (Value.int z)) (nI_1 i), congrArg (fun z => some (Value.int z)) hvv, rfl, rfl, trivial⟩
        · have q : ¬ X 154 (nI i).toNatClampNeg = X 153 (nI i).toNatClampNeg := fun y => q ((lg_cmp_eq _ _).mpr y)
          rw [e4, e3] at q
          obtain ⟨a', A, B, C, D⟩ := go 1 (Or.inl ⟨rfl, i, by omega, q⟩)
          have hvv : v ||| 1 = 1 := by rcases hv with ⟨rfl, -⟩ | ⟨rfl, -⟩ <;> decide
          refine ⟨tM, tM, 5, tThen, vp_nI (by omega), 5, tFlow, vp_nI (by omega), rfl, rfl, a', A, B, C, ?_⟩
          show sb a'.2.1 _
          rw [D]
          exact ⟨congrArg (fun z => some (Value.int z)) (nI_1 i), congrArg (fun z => some (Value.int z)) hvv, rfl, rfl, trivial⟩
  · refine ⟨tM, 754, tNow, vp_nI (n := 0) (by decide), rfl, rfl, (10, [(3, .int (nI 0)), (2, .int (nI n)), (1, .int nn), (0, .ref 138)], S.2, n - 0 + 20), rfl, Or.inl ⟨0, S.2, Nat.zero_le _, fun d hd => absurd hd (Nat.not_lt_zero d), fun c _ => rfl, rfl⟩, rfl, rfl, ?_, rfl, rfl, trivial⟩
    show some (Value.int (S.2 141 0).toInt32) = some (Value.int (nI n))
    rw [s0, lN_i]
