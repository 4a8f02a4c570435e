/-! ===== Plan.turn ===== -/
set_option maxHeartbeats 2000000 in
theorem e_turn {m : Nat} (hm0 : 0 < m) (hm : m ≤ 5) (nn : Int32) (S : Mem) (hd : S.1 1 2 = nI m) (hb : okB S m) {Qr : QR} {Qx : QX}
    (h1 : (∃ d, d < m ∧ rndS S (nn.toInt64 * 1000000) m d ≠ S.2 124 d) → ∀ X : Nat → Nat → Int64, (∀ d, d < m → X 124 d = rndS S (nn.toInt64 * 1000000) m d) → (∀ c, c ≠ 124 → c ≠ 125 → X c = S.2 c) → Qr (some (.int 1)) (S.1, X))
    (h0 : (∀ d, d < m → rndS S (nn.toInt64 * 1000000) m d = S.2 124 d) → ∀ X : Nat → Nat → Int64, (∀ d, d < m → X 124 d = S.2 124 d) → (∀ c, c ≠ 124 → c ≠ 125 → X c = S.2 c) → Qr (some (.int 0)) (S.1, X)) : vsp 156 5 (sX5_turn 156) [.ref 123, .ref 1, .int nn] S Qr Qx := by
  have t0 : tyN 156 123 = (0, 5, 0, 0) := rfl
  have t1 : tyN 156 1 = (0, 1, 0, 0) := rfl
  have t2 : tyN 156 2 = (4, 5, 4, 17) := rfl
  have t4 : tyN 156 124 = (1, 5, 0, 0) := rfl
  have t5 : tyN 156 125 = (1, 5, 0, 0) := rfl
  refine ⟨t0, runL2 (α := Nat × (Nat → Nat → Int64)) (β := Nat × (Nat → Nat → Int64)) rfl 120 14 0 55 0 (fun a => [(3, .int (nI a.1)), (2, .int nn), (1, .ref 1), (0, .ref 123)]) (fun a => (S.1, a.2)) (fun a => m - a.1)
    (fun a => 0 < a.1 ∧ a.1 ≤ m ∧ (∀ d, d < a.1 → a.2 125 d = rndS S (nn.toInt64 * 1000000) 0 d) ∧ ∀ c, c ≠ 125 → a.2 c = S.2 c)
    (fun a => [(3, .int (nI a.1)), (1, .ref 1), (0, .ref 123)]) (fun a => (S.1, a.2)) (fun a => m - a.1)
    (fun a => a.1 ≤ m ∧ (∀ d, d < m → a.2 125 d = rndS S (nn.toInt64 * 1000000) a.1 d) ∧ ∀ c, c ≠ 125 → a.2 c = S.2 c) ?_ ?_ ?_⟩
  · rintro ⟨i, X⟩ ⟨hi, hx, hz⟩
    dsimp only at hi hx hz
    refine ⟨t1, And.intro (fun a1 => ?_) (fun a1 => ?_)⟩
    · have a1 : nI m ≤ nI i := hd ▸ a1
      obtain rfl := le_of_nI (by omega) hi a1
      refine ⟨t1, ⟨Nat.le_of_ble_eq_true rfl, Nat.le_of_ble_eq_true rfl, Nat.le_of_ble_eq_true rfl⟩, ?_⟩
      show vsp 156 5 (sX5_takeFresh 156) [.ref 123, .int (S.1 1 2)] (S.1, X) _ _
      rw [hd]
      have z4 : X 124 = S.2 124 := hz 124 (by decide)
      refine e_takeFresh hm (S.1, X) (fun w Y y1 y2 y3 => ⟨Or.inr rfl, h1 ?_ Y (fun d x => ?_) (fun c x y => ?_)⟩) (fun w Y y1 y2 y3 => ⟨Or.inl rfl, h0 (fun d x => ?_) Y (fun d x => ?_) (fun c x y => ?_)⟩)
      · obtain ⟨d, x, y⟩ := w
        have y : X 125 d ≠ X 124 d := y
        rw [hx d x, z4] at y
        exact ⟨d, x, y⟩
      · rw [y1 d x]; exact hx d x
      · rw [y3 c x]; exact hz c y
      · have y : X 125 d = X 124 d := w d x
        rw [hx d x, z4] at y
        exact y
      · rw [y1 d x, w d x]; exact congrFun z4 d
      · rw [y3 c x]; exact hz c y
    · have a1 : ¬ nI m ≤ nI i := hd ▸ a1
      have hlt := lt_of_nI (by omega) hi a1
      have hcl : (nI i).toNatClampNeg = i := nI_clamp (by omega)
      have hk : isDepN 156 (4 + 17 * (nI i).toNatClampNeg) := by rw [hcl]; exact depN (by decide) (by omega)
      have bt : S.1 (4 + 17 * (nI i).toNatClampNeg) 6 = btS S i := by rw [hcl]; rfl
      refine ⟨t1, 0, 5, 4, 17, t2, by decide, vp_nI (by omega), hk.1, And.intro (fun x => ?_) (fun x => ?_)⟩
      · have x : S.1 (4 + 17 * (nI i).toNatClampNeg) 6 < 0 := x
        rw [bt] at x
        refine ⟨rfl, rfl, (i + 1, X), ⟨⟨by show i + 1 ≤ m; omega, fun d y => ?_, hz⟩, by show m - (i + 1) < m - i; omega⟩, rfl, congrArg (fun z => some (Value.int z)) (nI_1 i), rfl, rfl, trivial⟩
        have ne : ¬ btS S i = nI d := fun e => nI_pos (by omega) (e ▸ x)
        show X 125 d = rndS S (nn.toInt64 * 1000000) i d + if btS S i = nI d then _ else 0
        rw [if_neg ne, Int64.add_zero]; exact hx d y
      · have x : ¬ S.1 (4 + 17 * (nI i).toNatClampNeg) 6 < 0 := x
        rw [bt] at x
        obtain ⟨b, hbi, hbe⟩ : ∃ b, b ≤ i ∧ btS S i = nI b := by
          rcases hb i hlt with e | e
          · exact absurd (show btS S i < 0 by rw [show btS S i = -1 from e]; decide) x
          · exact e
        refine ⟨hk.1, t0, Or.inl ⟨0, 5, 0, 0, t5, by decide, by decide, And.intro (fun y => ?_) (fun y => ?_)⟩⟩
        · have y : nI 5 ≤ S.1 (4 + 17 * (nI i).toNatClampNeg) 6 := y
          rw [bt, hbe] at y
          exact absurd y (nI_ge (by omega) (by decide))
        · have vb : vp_in (S.1 (4 + 17 * (nI i).toNatClampNeg) 6) 5 := by rw [bt, hbe]; exact vp_nI (by omega)
          have cb : (S.1 (4 + 17 * (nI i).toNatClampNeg) 6).toNatClampNeg = b := by rw [bt, hbe]; exact nI_clamp (by omega)
          have z4 : X 124 (nI i).toNatClampNeg = S.2 124 i := by rw [hcl, hz 124 (by decide)]
          refine ⟨t0, hk.1, 5, t5, vb, t0, 5, t4, vp_nI (by omega), ⟨Nat.le_of_ble_eq_true rfl, Nat.le_of_ble_eq_true rfl, Nat.le_of_ble_eq_true rfl⟩, ?_⟩
          refine e_backOf hk _ (S.1, X) ⟨5, t5, vb, rfl, rfl, (i + 1, u2 X 125 b (X 125 b + S.2 124 i * rtS S i / 100 * shS S i / 100)), ⟨⟨by show i + 1 ≤ m; omega, fun d y => ?_, fun c y => ?_⟩, by show m - (i + 1) < m - i; omega⟩, ?_, congrArg (fun z => some (Value.int z)) (nI_1 i), rfl, rfl, trivial⟩
          · show u2 X 125 b (X 125 b + S.2 124 i * rtS S i / 100 * shS S i / 100) 125 d = rndS S (nn.toInt64 * 1000000) i d + if btS S i = nI d then _ else 0
            by_cases z : d = b
            · subst z
              rw [u2_s, if_pos hbe, hx d y]
            · rw [u2_j _ _ _ _ z, if_neg (fun e => z ?_), Int64.add_zero]
              · exact hx d y
              · rw [hbe] at e
                have := congrArg Int32.toNatClampNeg e
                rw [nI_clamp (by omega), nI_clamp (by omega)] at this
                exact this.symm
          · exact (u2_other _ _ _ y).trans (hz c y)
          · have bk : bkC (S.1, X) (4 + 17 * (nI i).toNatClampNeg) (X 124 (nI i).toNatClampNeg) = S.2 124 i * rtS S i / 100 * shS S i / 100 := by
              unfold bkC loC
              rw [z4]
              have ne : ¬ (S.1, X).1 (4 + 17 * (nI i).toNatClampNeg) 6 = -1 := fun e => x (by
                have e : S.1 (4 + 17 * (nI i).toNatClampNeg) 6 = -1 := e
                rw [bt] at e; rw [e]; decide)
              rw [if_neg ne, hcl]
              rfl
            show (S.1, u2 X 125 (S.1 (4 + 17 * (nI i).toNatClampNeg) 6).toNatClampNeg (X 125 (S.1 (4 + 17 * (nI i).toNatClampNeg) 6).toNatClampNeg + bkC (S.1, X) (4 + 17 * (nI i).toNatClampNeg) (X 124 (nI i).toNatClampNeg))) = _
            rw [bk, cb]
  · rintro ⟨i, X⟩ ⟨hi0, hi, hx, hz⟩
    dsimp only at hi0 hi hx hz
    refine ⟨t1, And.intro (fun a1 => ?_) (fun a1 => ?_)⟩
    · have a1 : nI m ≤ nI i := hd ▸ a1
      obtain rfl := le_of_nI (by omega) hi a1
      exact ⟨rfl, rfl, (0, X), ⟨Nat.zero_le _, hx, hz⟩, rfl, rfl, rfl, rfl, trivial⟩
    · have a1 : ¬ nI m ≤ nI i := hd ▸ a1
      have hlt := lt_of_nI (by omega) hi a1
      have hcl : (nI i).toNatClampNeg = i := nI_clamp (by omega)
      have pr : nI i - 1 = nI (i - 1) := nI_pr hi0
      have pc : (nI i - 1).toNatClampNeg = i - 1 := by rw [pr]; exact nI_clamp (by omega)
      have pv : vp_in (nI i - 1) 5 := by rw [pr]; exact vp_nI (by omega)
      have hk : isDepN 156 (4 + 17 * (nI i - 1).toNatClampNeg) := by rw [pc]; exact depN (by decide) (by omega)
      refine ⟨t0, t1, 0, 5, 4, 17, t2, by decide, pv, t0, 5, t4, pv, ⟨Nat.le_of_ble_eq_true rfl, Nat.le_of_ble_eq_true rfl, Nat.le_of_ble_eq_true rfl⟩, e_passingOf hk _ (S.1, X) ⟨5, t5, vp_nI (by omega), rfl, rfl, (i + 1, u2 X 125 i (rndS S (nn.toInt64 * 1000000) 0 i)), ⟨⟨by show 0 < i + 1; omega, by show i + 1 ≤ m; omega, fun d x => ?_, fun c x => ?_⟩, by show m - (i + 1) < m - i; omega⟩, ?_, congrArg (fun z => some (Value.int z)) (nI_1 i), rfl, rfl, rfl, trivial⟩⟩
      · have x : d < i + 1 := x
        show u2 X 125 i _ 125 d = _
        by_cases z : d = i
        · subst z; exact u2_s _ _ _ _
        · rw [u2_j _ _ _ _ z]; exact hx d (by omega)
      · exact (u2_other _ _ _ x).trans (hz c x)
      · show (S.1, u2 X 125 (nI i).toNatClampNeg (X 124 (nI i - 1).toNatClampNeg - loC (S.1, X) (4 + 17 * (nI i - 1).toNatClampNeg) (X 124 (nI i - 1).toNatClampNeg))) = _
        rw [hcl, pc, hz 124 (by decide)]
        show (S.1, u2 X 125 i (S.2 124 (i - 1) - S.2 124 (i - 1) * (S.1 (4 + 17 * (i - 1)) 2).toInt64 / 100)) = (S.1, u2 X 125 i (if i = 0 then _ else _))
        rw [if_neg (by omega)]
        rfl
  · refine ⟨t0, 5, t5, vp_nI (n := 0) (by decide), rfl, rfl, (1, u2 S.2 125 0 (nn.toInt64 * 1000000)), ⟨Nat.one_pos, hm0, fun d x => ?_, fun c x => ?_⟩, rfl, rfl, rfl, rfl, rfl, trivial⟩
    · have x : d < 1 := x
      obtain rfl : d = 0 := by omega
      exact (u2_s S.2 125 0 (nn.toInt64 * 1000000)).trans rfl
    · exact u2_other _ _ _ x
