/-! ===== feed ===== -/
theorem byte_rel (u : Int32) : ¬ (u &&& 255) < 0 ∧ (u.toInt8.toInt32 = u &&& 255 ∨ (128 ≤ u &&& 255 ∧ u.toInt8.toInt32 < 0)) := by
  have hF : u &&& 255 = nI (u.toBitVec.toNat % 2 ^ 8) := pk_and u 8 rfl
  have hB : u.toInt8.toInt32.toInt = ((u.toBitVec.toNat : Int)).bmod 256 := by
    rw [Int8.toInt_toInt32, Int32.toInt_toInt8]
    have : u.toInt = ((u.toBitVec.toNat : Int)).bmod (2 ^ 32) := BitVec.toInt_eq_toNat_bmod u.toBitVec
    rw [this]
    exact Int.bmod_bmod_of_dvd (by decide)
  have hm : u.toBitVec.toNat % 2 ^ 8 < 256 := Nat.mod_lt _ (by decide)
  rw [hF]
  refine ⟨nI_pos (by omega), ?_⟩
  rw [Int.bmod_def] at hB
  by_cases h : u.toBitVec.toNat % 2 ^ 8 < 128
  · left
    apply Int32.toInt.inj
    rw [hB, nI_toInt (by omega), if_pos (by omega)]
    omega
  · right
    refine ⟨nI_le (a := 128) (by omega) (by omega), ?_⟩
    rw [Int32.lt_iff_toInt_lt, hB, if_neg (by omega)]
    have : (0 : Int32).toInt = 0 := rfl
    omega
def shL (j : Nat) : Int32 := nI 24 - nI (8 * j)
theorem shL_s : ∀ j, j < 4 → shL j + (-8) = shL (j + 1) ∧ ¬ shL j < 0 := by decide
theorem shL_4 : shL 4 < 0 := by decide
def byB (v : Int32) (j : Nat) : Int32 := (v >>> (shL j &&& 31)).toInt8.toInt32
set_option maxHeartbeats 1000000 in
theorem e_putFour {t : Nat} (four : Int32) (S : Mem) (ht : S.1 121 1 = nI t) (h4 : t + 4 ≤ 400) {Qr : QR} {Qx : QX} (h : ∀ S' : Mem, S'.2 = S.2 → (∀ c, c ≠ 121 → c ≠ 122 → S'.1 c = S.1 c) → S'.1 121 1 = nI (t + 4) → (∀ i, i < t → S'.1 122 i = S.1 122 i) → (∀ j, j < 4 → S'.1 122 (t + j) = byB four j) → Qr none S') : vsp 156 8 (sX8_putFour 156) [.ref 121, .int four] S Qr Qx := by
  refine ⟨t8, runL (α := Nat × Mem) rfl 60 3 0 (fun b => [(2, .int (shL b.1)), (1, .int four), (0, .ref 121)]) (fun b => b.2) (fun b => 4 - b.1) (fun b => b.1 ≤ 4 ∧ b.2.2 = S.2 ∧ (∀ c, c ≠ 121 → c ≠ 122 → b.2.1 c = S.1 c) ∧ b.2.1 121 1 = nI (t + b.1) ∧ (∀ i, i < t → b.2.1 122 i = S.1 122 i) ∧ ∀ j, j < b.1 → b.2.1 122 (t + j) = byB four j) ?_ ?_⟩
  · rintro ⟨j, T⟩ ⟨hj, e2, ec, e1, eo, eb⟩
    dsimp only at hj e2 ec e1 eo eb
    rcases Nat.lt_or_ge j 4 with q | q
    · obtain ⟨s1, s2⟩ := shL_s j q
      refine And.intro (fun z => absurd z s2) (fun _ => ⟨t8, t8, Or.inl ⟨2, 400, 0, 0, t9, (by decide), (by decide), And.intro (fun z => ?_) (fun z => ?_)⟩⟩)
      · have z : nI 400 ≤ T.1 121 1 := z
        rw [e1] at z
        exact absurd z (nI_ge (by omega) (by decide))
      · have cl : (T.1 121 1).toNatClampNeg = t + j := by rw [e1]; exact nI_clamp (by omega)
        refine ⟨t8, t8, 400, t9, by rw [e1]; exact vp_nI (by omega), t8, t8, rfl, rfl, (j + 1, (u2 (u2 T.1 122 (t + j) (byB four j)) 121 1 (nI (t + (j + 1))), T.2)), ⟨⟨q, e2, fun c x y => ?_, u2_s (u2 T.1 122 (t + j) (byB four j)) 121 1 (nI (t + (j + 1))), fun i hi => ?_, fun i hi => ?_⟩, by show 4 - (j + 1) < 4 - j; omega⟩, ?_, congrArg (fun z => some (Value.int z)) s1, rfl, rfl, trivial⟩
        · exact (u2_other _ _ _ x).trans ((u2_other _ _ _ y).trans (ec c x y))
        · show u2 (u2 T.1 122 (t + j) (byB four j)) 121 1 (nI (t + (j + 1))) 122 i = S.1 122 i
          rw [u2_k _ _ _ _ (by decide), u2_j _ _ _ _ (by omega)]; exact eo i hi
        · have hi : i < j + 1 := hi
          show u2 (u2 T.1 122 (t + j) (byB four j)) 121 1 (nI (t + (j + 1))) 122 (t + i) = _
          rw [u2_k _ _ _ _ (by decide)]
          by_cases w : i = j
          · subst w; exact u2_s _ _ _ _
          · rw [u2_j _ _ _ _ (by omega)]; exact eb i (by omega)
        · show (u2 (u2 T.1 122 (T.1 121 1).toNatClampNeg (vp_nar .byte (four >>> (shL j &&& 31)).toInt8.toInt32)) 121 1 (u2 T.1 122 (T.1 121 1).toNatClampNeg (vp_nar .byte (four >>> (shL j &&& 31)).toInt8.toInt32) 121 1 + 1), T.2) = _
          rw [pk_vb, cl, u2_k _ _ _ _ (by decide), e1, nI_1]
          rfl
    · obtain rfl : j = 4 := by omega
      exact And.intro (fun _ => ⟨rfl, h T e2 ec e1 eo eb⟩) (fun z => absurd shL_4 z)
  · exact ⟨rfl, rfl, (0, S), ⟨Nat.zero_le _, rfl, fun _ _ _ => rfl, ht, fun _ _ => rfl, fun j hj => absurd hj (Nat.not_lt_zero j)⟩, rfl, congrArg (fun z => some (Value.int z)) (show (24 : Int32) = shL 0 by decide), rfl, rfl, trivial⟩
def pk5 (a b c d e : Int32) (i : Nat) : Int32 := match i with
  | 0 => a
  | 1 => b
  | 2 => c
  | 3 => d
  | _ => e
/-- the signs behind tp are those that are fed -/
def fdS (sg : Nat → Int32) (tp : Nat) (a b c d e : Int32) (i : Nat) : Int32 := if i < tp then sg i else byB (pk5 a b c d e ((i - tp) / 4)) ((i - tp) % 4)
set_option maxHeartbeats 1000000 in
theorem e_cFeed {S : Mem} {tp : Nat} {sg : Nat → Int32} {fp : Int32} {r : Nat → Int32} {w : Nat → Int64} {H : HL} (hI : CI S tp sg fp r w H) (a b c d e : Int32) {Qr : QR} {Qx : QX} (h0 : 400 < tp + 20 → Qr (some (.int (-1))) S) (h1 : tp + 20 ≤ 400 → ∀ S', CI S' (tp + 20) (fdS sg tp a b c d e) fp r w H → FM S S' → Qr (some (.int (nI (tp + 20)))) S') : vsp 156 9 (sX9_feed 156) [.ref 0, .int a, .int b, .int c, .int d, .int e] S Qr Qx := by
  obtain ⟨i1, i2, ⟨c1, c2, c3⟩, ⟨n, m, ns, hD⟩, hH⟩ := hI
  have ad : S.1 121 1 + nI 20 = nI (tp + 20) := by rw [c1, nI_add]
  refine ⟨tP, runG rfl 120 ⟨tP, t8, And.intro (fun q => ?_) (fun q => ?_)⟩⟩
  · have q : S.1 121 1 + nI 20 ≤ nI 400 := q
    rw [ad] at q
    have q := (nI_leI (by omega) (by decide)).mp q
    refine ⟨tP, ⟨Nat.le_of_ble_eq_true rfl, Nat.le_of_ble_eq_true rfl, Nat.le_of_ble_eq_true rfl⟩, e_putFour a S c1 (by omega) (fun A a2 ac a1 ao ab => ⟨tP, ⟨Nat.le_of_ble_eq_true rfl, Nat.le_of_ble_eq_true rfl, Nat.le_of_ble_eq_true rfl⟩, e_putFour b A a1 (by omega) (fun B b2 bc b1 bo bb => ⟨tP, ⟨Nat.le_of_ble_eq_true rfl, Nat.le_of_ble_eq_true rfl, Nat.le_of_ble_eq_true rfl⟩, e_putFour c B b1 (by omega) (fun C x2 xc x1 xo xb => ⟨tP, ⟨Nat.le_of_ble_eq_true rfl, Nat.le_of_ble_eq_true rfl, Nat.le_of_ble_eq_true rfl⟩, e_putFour d C x1 (by omega) (fun D d2 dc d1 do' db => ⟨tP, ⟨Nat.le_of_ble_eq_true rfl, Nat.le_of_ble_eq_true rfl, Nat.le_of_ble_eq_true rfl⟩, e_putFour e D d1 (by omega) (fun E e2 ec e1 eo eb => ⟨tP, t8, ?_⟩)⟩)⟩)⟩)⟩)⟩
    have fr : ∀ k, k ≠ 121 → k ≠ 122 → E.1 k = S.1 k := fun k x y => (ec k x y).trans ((dc k x y).trans ((xc k x y).trans ((bc k x y).trans (ac k x y))))
    have f2 : E.2 = S.2 := e2.trans (d2.trans (x2.trans (b2.trans a2)))
    show Qr (some (.int (E.1 121 1))) E
    have e1' : E.1 121 1 = nI (tp + 20) := e1
    rw [e1']
    refine h1 q E ⟨by rw [fr 0 (by decide) (by decide)]; exact i1, fun i hi => by rw [fr 0 (by decide) (by decide)]; exact i2 i hi, ⟨e1', q, fun i hi => ?_⟩, ⟨n, m, ns, hD.same (sameDesk_of hD.1.2.1 hD.1.2.2.2.1 (fun c x y => ⟨fr c (by omega) (by omega), by rw [f2]⟩))⟩, hH.move (fr 101 (by decide) (by decide)) (fun _ _ _ => by rw [f2])⟩ (fun c hc => ⟨fr c (by omega) (by omega), by rw [f2]⟩)
    unfold fdS
    by_cases z : i < tp
    · rw [if_pos z, eo i (by omega), do' i (by omega), xo i (by omega), bo i (by omega), ao i z]; exact c3 i z
    · rw [if_neg z]
      rcases (show i - tp < 4 ∨ (4 ≤ i - tp ∧ i - tp < 8) ∨ (8 ≤ i - tp ∧ i - tp < 12) ∨ (12 ≤ i - tp ∧ i - tp < 16) ∨ (16 ≤ i - tp ∧ i - tp < 20) by omega) with y | y | y | y | y
      · have := ab (i - tp) y
        rw [show tp + (i - tp) = i by omega] at this
        rw [show (i - tp) / 4 = 0 by omega, show (i - tp) % 4 = i - tp by omega, eo i (by omega), do' i (by omega), xo i (by omega), bo i (by omega), this]
        rfl
      · have := bb (i - tp - 4) (by omega)
        rw [show tp + 4 + (i - tp - 4) = i by omega] at this
        rw [show (i - tp) / 4 = 1 by omega, show (i - tp) % 4 = i - tp - 4 by omega, eo i (by omega), do' i (by omega), xo i (by omega), this]
        rfl
      · have := xb (i - tp - 8) (by omega)
        rw [show tp + 4 + 4 + (i - tp - 8) = i by omega] at this
        rw [show (i - tp) / 4 = 2 by omega, show (i - tp) % 4 = i - tp - 8 by omega, eo i (by omega), do' i (by omega), this]
        rfl
      · have := db (i - tp - 12) (by omega)
        rw [show tp + 4 + 4 + 4 + (i - tp - 12) = i by omega] at this
        rw [show (i - tp) / 4 = 3 by omega, show (i - tp) % 4 = i - tp - 12 by omega, eo i (by omega), this]
        rfl
      · have := eb (i - tp - 16) (by omega)
        rw [show tp + 4 + 4 + 4 + 4 + (i - tp - 16) = i by omega] at this
        rw [show (i - tp) / 4 = 4 by omega, show (i - tp) % 4 = i - tp - 16 by omega, this]
        rfl
  · have q : ¬ S.1 121 1 + nI 20 ≤ nI 400 := q
    rw [ad] at q
    refine h0 ?_
    rcases Nat.lt_or_ge 400 (tp + 20) with z | z
    · exact z
    · exact absurd (nI_le z (by decide)) q
