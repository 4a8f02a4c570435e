/-! ===== the tape: words, numbers ===== -/
/-- word i of the texts stands at a -/
abbrev mtc (g : Nat → Int32) (a i : Nat) : Prop := (∀ j, j < (strB i).length → g (a + j) = (strB i).getD j 0) ∧ isLe (g (a + (strB i).length)) = false
theorem strB_le : ∀ i, i < 16 → ∀ j, j < (strB i).length → isLe ((strB i).getD j 0) = true := by decide
theorem strB_ps : ∀ i, i < 16 → 0 < (strB i).length ∧ (strB i).length < 10 := by decide
theorem strB_up : ∀ i, i < 16 → ∀ j, j < (strB i).length → ¬ (strB i).getD j 0 < 0 := by decide
theorem rend_eq {P : Int32 → Bool} {g : Nat → Int32} {len a n : Nat} (hal : a + n ≤ len) (h1 : ∀ j, j < n → P (g (a + j)) = true) (h2 : a + n < len → P (g (a + n)) = false) : rend P g len a = a + n := by
  induction n generalizing a with
  | zero => exact rend_no h2
  | succ n ih =>
    rw [rend_yes (show a < len by omega) (h1 0 (by omega)), ih (a := a + 1) (by omega) (fun j hj => by rw [show a + 1 + j = a + (j + 1) by omega]; exact h1 (j + 1) (by omega)) (fun h => by rw [show a + 1 + n = a + (n + 1) by omega]; exact h2 (by omega))]
    omega
/-- of the word from a to its end: it is word i -/
theorem mtc_iff {g : Nat → Int32} {len a i : Nat} (hi : i < 16) (hal : a ≤ len) (hg : ∀ k, len ≤ k → g k < 0) : mtc g a i ↔ (rend isLe g len a = a + (strB i).length ∧ ∀ j, j < (strB i).length → g (a + j) = (strB i).getD j 0) := by
  constructor
  · intro h
    have hl : ∀ j, j < (strB i).length → a + j < len := fun j hj => by
      rcases Nat.lt_or_ge (a + j) len with x | x
      · exact x
      · exact absurd (h.1 j hj ▸ hg _ x) (strB_up i hi j hj)
    have hp := strB_ps i hi
    have hn := hl ((strB i).length - 1) (by omega)
    refine ⟨rend_eq (by omega) (fun j hj => by rw [h.1 j hj]; exact strB_le i hi j hj) (fun _ => h.2), h.1⟩
  · rintro ⟨h1, h2⟩
    refine ⟨h2, ?_⟩
    rcases Nat.lt_or_ge (a + (strB i).length) len with x | x
    · rw [← h1]
      exact (rend_spec (P := isLe) _ a rfl hal).2.2.2 (by rw [show rend isLe g len a = a + (strB i).length from h1]; exact x)
    · exact isLe_neg (hg _ x)
set_option maxHeartbeats 1000000 in
theorem e_isWord {g : Nat → Int32} {len a i : Nat} (hi : i < 16) (S : Mem) (hg : tg S g len) (ha : a ≤ len) (h4 : S.1 121 4 = nI a) (h3 : S.1 121 3 = nI (rend isLe g len a)) {Qr : QR} {Qx : QX} (h1 : mtc g a i → rend isLe g len a = a + (strB i).length → Qr (some (.int 1)) S) (h0 : ¬ mtc g a i → Qr (some (.int 0)) S) : vsp 156 8 (sX8_isWord 156) [.ref 121, .ref (1000 + i)] S Qr Qx := by
  have l4 := hg.2.1
  have rl := rend_le (P := isLe) (g := g) ha
  have mi := mtc_iff hi ha hg.2.2.2
  have hp := strB_ps i hi
  have sb' : S.1 121 3 - S.1 121 4 = nI (rend isLe g len a - a) := by
    rw [h3, h4]
    have := nI_subL a (rend isLe g len a - a)
    rw [show a + (rend isLe g len a - a) = rend isLe g len a by omega] at this
    exact this
  by_cases e : rend isLe g len a = a + (strB i).length
  · refine ⟨t8, runL (α := Nat) rfl 60 20 0 (fun k => [(2, .int (nI k)), (1, .ref (1000 + i)), (0, .ref 121)]) (fun _ => S) (fun k => (strB i).length - k) (fun k => k ≤ (strB i).length ∧ ∀ j, j < k → g (a + j) = (strB i).getD j 0) (fun k hk => ?_) ?_⟩
    · obtain ⟨hk, hm⟩ := hk
      refine ⟨⟨Nat.le_of_ble_eq_true rfl, Nat.le_of_ble_eq_true rfl, Nat.le_of_ble_eq_true rfl⟩, i, rfl, hi, And.intro (fun x => ?_) (fun x => ?_)⟩
      · obtain rfl := le_of_nI (by omega) hk x
        exact ⟨Or.inr rfl, h1 (mi.mpr ⟨e, hm⟩) e⟩
      · have hlt := lt_of_nI (by omega) hk x
        have ai : S.1 121 4 + nI k = nI (a + k) := by rw [h4, nI_add]
        have v : vp_in (S.1 121 4 + nI k) 400 := by rw [ai]; exact vp_nI (by omega)
        have cl : (S.1 121 4 + nI k).toNatClampNeg = a + k := by rw [ai]; exact nI_clamp (by omega)
        have ck : (nI k).toNatClampNeg = k := nI_clamp (by omega)
        have eq := hg.eq (i := a + k) (by omega) (strB_up i hi k hlt)
        refine ⟨t8, t8, 400, t9, v, ⟨Nat.le_of_ble_eq_true rfl, Nat.le_of_ble_eq_true rfl, Nat.le_of_ble_eq_true rfl⟩, i, rfl, hi, vp_nI hlt (by omega), And.intro (fun y => ?_) (fun y => ?_)⟩
        · have y : S.1 122 (S.1 121 4 + nI k).toNatClampNeg = (strB i).getD (nI k).toNatClampNeg 0 := y
          rw [cl, ck, eq] at y
          refine ⟨rfl, rfl, k + 1, ⟨⟨hlt, fun j hj => ?_⟩, by omega⟩, rfl, congrArg (fun z => some (Value.int z)) (nI_1 k), rfl, rfl, trivial⟩
          by_cases z : j = k
          · rw [z]; exact y
          · exact hm j (by omega)
        · have y : ¬ S.1 122 (S.1 121 4 + nI k).toNatClampNeg = (strB i).getD (nI k).toNatClampNeg 0 := y
          rw [cl, ck, eq] at y
          exact ⟨Or.inl rfl, h0 (fun m => y (m.1 k hlt))⟩
    · refine ⟨t8, t8, ⟨Nat.le_of_ble_eq_true rfl, Nat.le_of_ble_eq_true rfl, Nat.le_of_ble_eq_true rfl⟩, i, rfl, hi, And.intro (fun _ => ⟨rfl, rfl, 0, ⟨Nat.zero_le _, fun j hj => absurd hj (Nat.not_lt_zero j)⟩, rfl, rfl, rfl, rfl, trivial⟩) (fun x => absurd ?_ x)⟩
      show S.1 121 3 - S.1 121 4 = nI (strB i).length
      rw [sb', e, Nat.add_sub_cancel_left]
  · refine ⟨t8, runL (α := Nat) rfl 60 20 0 (fun k => [(2, .int (nI k)), (1, .ref (1000 + i)), (0, .ref 121)]) (fun _ => S) (fun k => (strB i).length - k) (fun _ => False) (fun k hk => absurd hk id) ?_⟩
    refine ⟨t8, t8, ⟨Nat.le_of_ble_eq_true rfl, Nat.le_of_ble_eq_true rfl, Nat.le_of_ble_eq_true rfl⟩, i, rfl, hi, And.intro (fun x => ?_) (fun _ => ⟨Or.inl rfl, h0 (fun m => e (mi.mp m).1)⟩)⟩
    have x : S.1 121 3 - S.1 121 4 = nI (strB i).length := x
    rw [sb'] at x
    have := congrArg Int32.toNatClampNeg x
    rw [nI_clamp (by omega), nI_clamp (by omega)] at this
    exact absurd (by omega) e
/-- digits from a on: the value behind them -/
def dgo (g : Nat → Int32) : Nat → Nat → Nat → Nat
  | 0, _, v => v
  | n + 1, a, v => bif isDi (g a) then dgo g n (a + 1) (min (10 * v + ((g a).toNatClampNeg - 48)) 100000) else v
def dval (g : Nat → Int32) (len a v : Nat) : Nat := dgo g (len - a) a v
theorem dval_yes {g : Nat → Int32} {len a v : Nat} (h : a < len) (hp : isDi (g a) = true) : dval g len a v = dval g len (a + 1) (min (10 * v + ((g a).toNatClampNeg - 48)) 100000) := by
  unfold dval
  rw [show len - a = (len - (a + 1)) + 1 by omega]
  show (bif isDi (g a) then _ else v) = _
  rw [hp]
  rfl
theorem dval_no {g : Nat → Int32} {len a v : Nat} (h : a < len → isDi (g a) = false) : dval g len a v = v := by
  unfold dval
  by_cases hl : a < len
  · rw [show len - a = (len - (a + 1)) + 1 by omega]
    show (bif isDi (g a) then _ else v) = _
    rw [h hl]
    rfl
  · rw [show len - a = 0 by omega]
    rfl
theorem dgo_le {g : Nat → Int32} : ∀ n a v, v ≤ 100000 → dgo g n a v ≤ 100000 := by
  intro n
  induction n with
  | zero => intro a v h; exact h
  | succ n ih =>
    intro a v h
    show (bif isDi (g a) then dgo g n (a + 1) (min (10 * v + ((g a).toNatClampNeg - 48)) 100000) else v) ≤ 100000
    cases isDi (g a) with
    | true => exact ih _ _ (Nat.min_le_right _ _)
    | false => exact h
/-- a digit's number -/
theorem di_nI {c : Int32} (h : isDi c = true) : ∃ k, k < 10 ∧ c = nI (48 + k) ∧ c.toNatClampNeg = 48 + k := by
  obtain ⟨h1, h2⟩ := (isDi_iff c).mp h
  have h0 : ¬ c < 0 := fun x => neg_le (by decide) x h1
  obtain ⟨j, hj, rfl⟩ := nI_of2 (M := 57) (n := 57) rfl h0 h2
  have h1 : nI 48 ≤ nI j := h1
  have := (nI_leI (by decide) (by omega)).mp h1
  refine ⟨j - 48, by omega, by rw [show 48 + (j - 48) = j by omega], ?_⟩
  rw [nI_clamp (by omega)]
  omega
/-- a number from a on: where it begins, where it ends, what it is -/
def nuV (g : Nat → Int32) (len a : Nat) : Nat := dval g len (rend isBl g len a) 0
def nuE (g : Nat → Int32) (len a : Nat) : Nat := rend isDi g len (rend isBl g len a)
def nuOk (g : Nat → Int32) (len a : Nat) (lo hi : Int32) : Prop := isDi (g (rend isBl g len a)) = true ∧ ¬ nI (nuV g len a) < lo ∧ nI (nuV g len a) ≤ hi
set_option maxHeartbeats 2000000 in
theorem e_readNumber {g : Nat → Int32} {len a : Nat} (lo hi : Int32) (S : Mem) (hg : tg S g len) (ha : S.1 121 3 = nI a) (hal : a ≤ len) {Qr : QR} {Qx : QX}
    (h1 : nuOk g len a lo hi → ∀ S', TS [3, 5] S S' → S'.1 121 3 = nI (nuE g len a) → S'.1 121 5 = nI (nuV g len a) → Qr (some (.int 1)) S')
    (h0 : ∀ S', TS [3, 5, 7, 8] S S' → ((isDi (g (rend isBl g len a)) = false ∧ S'.1 121 7 = 1 ∧ S'.1 121 8 = nI (rend isBl g len a)) ∨ (isDi (g (rend isBl g len a)) = true ∧ (nI (nuV g len a) < lo ∨ ¬ nI (nuV g len a) ≤ hi) ∧ S'.1 121 7 = 2 ∧ S'.1 121 8 = nI (rend isBl g len a))) → Qr (some (.int 0)) S') : vsp 156 8 (sX8_readNumber 156) [.ref 121, .int lo, .int hi] S Qr Qx := by
  have l4 := hg.2.1
  have rl := rend_le (P := isBl) (g := g) hal
  have rd := rend_le (P := isDi) (g := g) rl.2
  have c5 : (100000 : Int32) = nI 100000 := by decide
  refine ⟨t8, runL (α := Nat × Nat × Mem) rfl 80 14 0 (fun b => [(3, .int (nI (rend isBl g len a))), (2, .int hi), (1, .int lo), (0, .ref 121)]) (fun b => b.2.2) (fun b => len - b.1) (fun b => rend isBl g len a ≤ b.1 ∧ b.1 ≤ len ∧ rend isDi g len b.1 = nuE g len a ∧ dval g len b.1 b.2.1 = nuV g len a ∧ b.2.1 ≤ 100000 ∧ TS [3, 5] S b.2.2 ∧ b.2.2.1 121 3 = nI b.1 ∧ b.2.2.1 121 5 = nI b.2.1) ?_ ?_⟩
  · rintro ⟨i, v, T⟩ ⟨hf, hi', hs, hv, hv5, ht, h3, h5⟩
    dsimp only at hf hi' hs hv hv5 ht h3 h5
    have gT := ht.tg (by decide) hg
    have fin : (i < len → isDi (g i) = false) → wpH 156 pX8_readNumber (kX8_readNumber 156) hd0 [] none 4 (some .boolean) Qr Qx [] 60 (jmp 82 pX8_readNumber) 0 [(3, .int (nI (rend isBl g len a))), (2, .int hi), (1, .int lo), (0, .ref 121)] [] T := by
      intro hd
      rw [rend_no hd] at hs
      rw [dval_no hd] at hv
      subst hv
      have r3 : T.1 121 3 = nI (nuE g len a) := by rw [h3, hs]
      refine ⟨t8, And.intro (fun x => ?_) (fun x => ?_)⟩
      · have x : ¬ T.1 121 3 = nI (rend isBl g len a) := x
        have dg : isDi (g (rend isBl g len a)) = true := by
          by_cases z : isDi (g (rend isBl g len a)) = true
          · exact z
          · have z : isDi (g (rend isBl g len a)) = false := by simpa using z
            have : nuE g len a = rend isBl g len a := rend_no (fun _ => z)
            rw [r3, this] at x
            exact absurd rfl x
        refine ⟨t8, And.intro (fun y => ?_) (fun y => ⟨t8, And.intro (fun z => ?_) (fun z => ?_)⟩)⟩
        · have y : T.1 121 5 < lo := y
          rw [h5] at y
          exact ⟨⟨Nat.le_of_ble_eq_true rfl, Nat.le_of_ble_eq_true rfl, Nat.le_of_ble_eq_true rfl⟩, e_refuse 2 _ T (fun T' ht' e7 e8 => ⟨Or.inl rfl, h0 T' ((ht.trans ht').w (by decide)) (Or.inr ⟨dg, Or.inl y, e7, e8⟩)⟩)⟩
        · have y : ¬ T.1 121 5 < lo := y
          have z : T.1 121 5 ≤ hi := z
          rw [h5] at y z
          exact ⟨Or.inr rfl, h1 ⟨dg, y, z⟩ T ht r3 h5⟩
        · have z : ¬ T.1 121 5 ≤ hi := z
          rw [h5] at z
          exact ⟨⟨Nat.le_of_ble_eq_true rfl, Nat.le_of_ble_eq_true rfl, Nat.le_of_ble_eq_true rfl⟩, e_refuse 2 _ T (fun T' ht' e7 e8 => ⟨Or.inl rfl, h0 T' ((ht.trans ht').w (by decide)) (Or.inr ⟨dg, Or.inr z, e7, e8⟩)⟩)⟩
      · have x : T.1 121 3 = nI (rend isBl g len a) := x
        have eq : nuE g len a = rend isBl g len a := by
          rw [r3] at x
          exact (nI_eq (by have : nuE g len a ≤ len := rd.2; omega) (by omega)).mp x
        have dg : isDi (g (rend isBl g len a)) = false := by
          by_cases z : isDi (g (rend isBl g len a)) = true
          · rcases Nat.lt_or_ge (rend isBl g len a) len with q | q
            · have := (rend_le (P := isDi) (g := g) (len := len) (a := rend isBl g len a + 1) (by omega)).1
              rw [← rend_yes q z, show rend isDi g len (rend isBl g len a) = nuE g len a from rfl, eq] at this
              omega
            · rw [isDi_neg (hg.2.2.2 _ q)] at z; exact absurd z (by decide)
          · simpa using z
        exact ⟨⟨Nat.le_of_ble_eq_true rfl, Nat.le_of_ble_eq_true rfl, Nat.le_of_ble_eq_true rfl⟩, e_refuse 1 _ T (fun T' ht' e7 e8 => ⟨Or.inl rfl, h0 T' ((ht.trans ht').w (by decide)) (Or.inl ⟨dg, e7, e8⟩)⟩)⟩
    refine ⟨t8, t8, And.intro (fun a1 => ?_) (fun a1 => ?_)⟩
    · have a1 : T.1 121 2 ≤ T.1 121 3 := a1
      rw [gT.1, h3] at a1
      have he := le_of_nI (by omega) hi' a1
      exact fin (fun x => absurd x (by omega))
    · have a1 : ¬ T.1 121 2 ≤ T.1 121 3 := a1
      rw [gT.1, h3] at a1
      have hlt := lt_of_nI (by omega) hi' a1
      have vv : vp_in (T.1 121 3) 400 := by rw [h3]; exact vp_nI (by omega)
      have cl : (T.1 121 3).toNatClampNeg = i := by rw [h3]; exact nI_clamp (by omega)
      have e := gT.lo hlt (c := 48) (by decide) 57
      refine ⟨t8, t8, 400, t9, vv, ⟨Nat.le_of_ble_eq_true rfl, Nat.le_of_ble_eq_true rfl, Nat.le_of_ble_eq_true rfl⟩, e_isDigit _ _ ?_⟩
      rw [cl]
      by_cases z : isDi (g i) = true
      · rw [if_pos (e.mpr ((isDi_iff _).mp z))]
        rw [rend_yes hlt z] at hs
        rw [dval_yes hlt z] at hv
        obtain ⟨k, hk, gk, gc⟩ := di_nI z
        have bk : T.1 122 i = nI (48 + k) := (gT.eq hlt (nI_pos (by omega))).mpr gk
        rw [gc, show 48 + k - 48 = k by omega] at hv
        have val : (if (100000 : Int32) < T.1 121 5 * 10 + T.1 122 (T.1 121 3).toNatClampNeg - 48 then (100000 : Int32) else T.1 121 5 * 10 + T.1 122 (T.1 121 3).toNatClampNeg - 48) = nI (min (10 * v + k) 100000) := by
          have c1 : T.1 121 5 * 10 + T.1 122 (T.1 121 3).toNatClampNeg - 48 = nI (10 * v + k) := by
            rw [cl, h5, bk]
            show nI v * nI 10 + nI (48 + k) - nI 48 = _
            rw [pk_mul, nI_add, pk_sub (by omega), show v * 10 + (48 + k) - 48 = 10 * v + k by omega]
          rw [c1, c5]
          exact minI_nI (by omega) (by decide)
        refine And.intro (fun x => absurd x (by decide)) (fun _ => ⟨t8, t8, t8, 400, t9, vv, ⟨Nat.le_of_ble_eq_true rfl, Nat.le_of_ble_eq_true rfl, Nat.le_of_ble_eq_true rfl⟩, t8, t8, t8, rfl, rfl, (i + 1, min (10 * v + k) 100000, (u2 (u2 T.1 121 5 (nI (min (10 * v + k) 100000))) 121 3 (nI (i + 1)), T.2)), ⟨⟨by show rend isBl g len a ≤ i + 1; omega, hlt, hs, hv, Nat.min_le_right _ _, (TS_u2 (TS_u2 ht 5 _) 3 _).w (by decide), m_s (u2 T.1 121 5 (nI (min (10 * v + k) 100000)), T.2) 3 (nI (i + 1)), (m_o (u2 T.1 121 5 (nI (min (10 * v + k) 100000)), T.2) (nI (i + 1)) (show 5 ≠ 3 by decide)).trans (m_s T 5 _)⟩, by show len - (i + 1) < len - i; omega⟩, ?_, rfl, rfl, rfl, rfl, trivial⟩)
        show (u2 (u2 T.1 121 5 (if (100000 : Int32) < T.1 121 5 * 10 + T.1 122 (T.1 121 3).toNatClampNeg - 48 then (100000 : Int32) else T.1 121 5 * 10 + T.1 122 (T.1 121 3).toNatClampNeg - 48)) 121 3 (u2 T.1 121 5 (if (100000 : Int32) < T.1 121 5 * 10 + T.1 122 (T.1 121 3).toNatClampNeg - 48 then (100000 : Int32) else T.1 121 5 * 10 + T.1 122 (T.1 121 3).toNatClampNeg - 48) 121 3 + 1), T.2) = _
        rw [val, u2_j _ _ _ _ (by decide), h3, nI_1]
      · rw [if_neg (fun x => z ((isDi_iff _).mpr (e.mp x)))]
        have z' : isDi (g i) = false := by simpa using z
        exact And.intro (fun _ => fin (fun _ => z')) (fun x => absurd rfl x)
  · refine ⟨⟨Nat.le_of_ble_eq_true rfl, Nat.le_of_ble_eq_true rfl, Nat.le_of_ble_eq_true rfl⟩, e_skip S hg ha hal (fun S' ht h3 => ⟨t8, t8, rfl, rfl, (rend isBl g len a, 0, (u2 S'.1 121 5 0, S'.2)), ⟨Nat.le_refl _, rl.2, rfl, rfl, Nat.zero_le _, (TS_u2 ht 5 _).w (by decide), (m_o S' 0 (show 3 ≠ 5 by decide)).trans h3, m_s S' 5 0⟩, rfl, ?_, rfl, rfl, rfl, trivial⟩)⟩
    exact congrArg (fun z => some (Value.int z)) h3
