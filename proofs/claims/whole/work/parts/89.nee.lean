/-! ===== what is needed ===== -/
theorem tP : tyN 156 0 = (0, 9, 0, 0) := rfl
theorem tD : tyN 156 1 = (0, 1, 0, 0) := rfl
def refC (S : Mem) (i : Nat) : Mem := (u2 S.1 0 (1 + i) (S.1 0 (1 + i) + 1), S.2)
theorem e_needWithin (x lo hi : Int32) (S : Mem) {Qr : QR} {Qx : QX} (h1 : lo ≤ x → x ≤ hi → Qr none S) (h0 : ¬ (lo ≤ x ∧ x ≤ hi) → Qx "java/lang/IllegalArgumentException" (refC S 1)) : vsp 156 9 (sX9_needWithin 156) [.ref 0, .int x, .int lo, .int hi] S Qr Qx := by
  refine ⟨tP, runG rfl 40 (And.intro (fun a => ⟨tP, tP, h0 (fun b => ?_)⟩) (fun a => And.intro (fun b => ⟨rfl, h1 ((I_nlt _ _).mp a) b⟩) (fun b => ⟨tP, tP, h0 (fun c => b c.2)⟩)))⟩
  exact ((I_nlt _ _).mpr b.1) a
theorem e_needState (b : Int32) (S : Mem) {Qr : QR} {Qx : QX} (h1 : ¬ b = 0 → Qr none S) (h0 : b = 0 → Qx "java/lang/IllegalStateException" (refC S 2)) : vsp 156 9 (sX9_needState 156) [.ref 0, .int b] S Qr Qx :=
  ⟨tP, runG rfl 40 (And.intro (fun a => ⟨rfl, h1 a⟩) (fun a => ⟨tP, tP, h0 a⟩))⟩
theorem e_needDepartment {n : Nat} (x : Int32) (S : Mem) (hn : S.1 1 2 = nI n) (hn5 : n ≤ 5) {Qr : QR} {Qx : QX} (h1 : ∀ d, d < n → x = nI d → Qr (some (.ref (4 + 17 * d))) S) (h0 : ¬ (∃ d, d < n ∧ x = nI d) → Qx "java/util/NoSuchElementException" (refC S 0)) : vsp 156 9 (sX9_needDepartment 156) [.ref 0, .int x] S Qr Qx := by
  have t2 : tyN 156 2 = (4, 5, 4, 17) := rfl
  refine ⟨tP, runG rfl 40 (And.intro (fun a => ⟨tP, tP, h0 (fun b => ?_)⟩) (fun a => ⟨tP, tD, And.intro (fun b => ?_) (fun b => ⟨tP, tP, h0 (fun c => ?_)⟩)⟩))⟩
  · obtain ⟨d, hd, e⟩ := b
    exact nI_pos (by omega) (e ▸ a)
  · have b : x < S.1 1 2 := b
    rw [hn] at b
    obtain ⟨j, hj, rfl⟩ := nI_of a
    have hd := (nI_ltI hj (by omega)).mp b
    refine ⟨tP, tD, 0, 5, 4, 17, t2, by decide, vp_nI (by omega), ?_⟩
    show Qr (some (.ref (4 + 17 * (nI j).toNatClampNeg))) S
    rw [nI_clamp hj]
    exact h1 j hd rfl
  · have b : ¬ x < S.1 1 2 := b
    obtain ⟨d, hd, e⟩ := c
    rw [hn, e] at b
    exact b (nI_lt hd (by omega))
theorem e_needProduct {n : Nat} (x : Int32) (S : Mem) (hn : S.1 1 3 = nI n) (hn5 : n ≤ 4) {Qr : QR} {Qx : QX} (h1 : ∀ d, d < n → x = nI d → Qr (some (.ref (89 + 3 * d))) S) (h0 : ¬ (∃ d, d < n ∧ x = nI d) → Qx "java/util/NoSuchElementException" (refC S 0)) : vsp 156 9 (sX9_needProduct 156) [.ref 0, .int x] S Qr Qx := by
  have t3 : tyN 156 3 = (5, 4, 89, 3) := rfl
  refine ⟨tP, runG rfl 40 (And.intro (fun a => ⟨tP, tP, h0 (fun b => ?_)⟩) (fun a => ⟨tP, tD, And.intro (fun b => ?_) (fun b => ⟨tP, tP, h0 (fun c => ?_)⟩)⟩))⟩
  · obtain ⟨d, hd, e⟩ := b
    exact nI_pos (by omega) (e ▸ a)
  · have b : x < S.1 1 3 := b
    rw [hn] at b
    obtain ⟨j, hj, rfl⟩ := nI_of a
    have hd := (nI_ltI hj (by omega)).mp b
    refine ⟨tP, tD, 1, 4, 89, 3, t3, by decide, vp_nI (by omega), ?_⟩
    show Qr (some (.ref (89 + 3 * (nI j).toNatClampNeg))) S
    rw [nI_clamp hj]
    exact h1 j hd rfl
  · have b : ¬ x < S.1 1 3 := b
    obtain ⟨d, hd, e⟩ := c
    rw [hn, e] at b
    exact b (nI_lt hd (by omega))
theorem e_needLayer {n k : Nat} (hk : tyN 156 k = (0, 6, 0, 0)) (x : Int32) (S : Mem) (hn : S.1 k 7 = nI n) (hn5 : n ≤ 40) {Qr : QR} {Qx : QX} (h1 : ∀ d, d < n → x = nI d → Qr none S) (h0 : ¬ (∃ d, d < n ∧ x = nI d) → Qx "java/util/NoSuchElementException" (refC S 0)) : vsp 156 9 (sX9_needLayer 156) [.ref 0, .ref k, .int x] S Qr Qx := by
  refine ⟨tP, runG rfl 40 (And.intro (fun a => ⟨tP, tP, h0 (fun b => ?_)⟩) (fun a => ⟨hk, And.intro (fun b => ?_) (fun b => ⟨tP, tP, h0 (fun c => ?_)⟩)⟩))⟩
  · obtain ⟨d, hd, e⟩ := b
    exact nI_pos (by omega) (e ▸ a)
  · have b : x < S.1 k 7 := b
    rw [hn] at b
    obtain ⟨j, hj, rfl⟩ := nI_of a
    have hd := (nI_ltI hj (by omega)).mp b
    exact ⟨rfl, h1 j hd rfl⟩
  · have b : ¬ x < S.1 k 7 := b
    obtain ⟨d, hd, e⟩ := c
    rw [hn, e] at b
    exact b (nI_lt hd (by omega))
/-- kind x of a department of m materials -/
def kndP (x : Int32) (least m : Nat) : Prop := ∃ k, k < 4 ∧ x = nI k ∧ least ≤ k ∧ (k = 0 ∨ k = 3 ∨ k ≤ m)
theorem e_hasKind {k m : Nat} (hk : tyN 156 k = (0, 0, 0, 0)) (x : Int32) (S : Mem) (hm : S.1 k 4 = nI m) (hm2 : m ≤ 2) {Qr : QR} {Qx : QX} (h1 : kndP x 0 m → Qr (some (.int 1)) S) (h0 : ¬ kndP x 0 m → Qr (some (.int 0)) S) : vsp 156 0 (sX0_hasKind 156) [.ref k, .int x] S Qr Qx := by
  refine ⟨hk, runG rfl 40 (And.intro (fun a => ⟨Or.inr rfl, h1 ⟨0, by decide, a, Nat.le_refl _, Or.inl rfl⟩⟩) (fun a => And.intro (fun b => ⟨Or.inr rfl, h1 ⟨3, by decide, b, Nat.zero_le _, Or.inr (Or.inl rfl)⟩⟩) (fun b => And.intro (fun c => ⟨Or.inl rfl, h0 (fun d => ?_)⟩) (fun c => ⟨hk, And.intro (fun d => ⟨Or.inl rfl, h0 (fun e => ?_)⟩) (fun d => ⟨Or.inr rfl, h1 ?_⟩)⟩))))⟩
  · obtain ⟨j, hj, rfl, -, e⟩ := d
    have c : nI j < nI 1 := c
    have := (nI_ltI (by omega) (by decide)).mp c
    exact a (by rw [show j = 0 by omega]; rfl)
  · have d : S.1 k 4 < x := d
    obtain ⟨j, hj, rfl, -, e⟩ := e
    rw [hm] at d
    have := (nI_ltI (by omega) (by omega)).mp d
    rcases e with rfl | rfl | e
    · exact a rfl
    · exact b rfl
    · omega
  · have d : ¬ S.1 k 4 < x := d
    rw [hm] at d
    have c : ¬ x < 1 := c
    have x0 : ¬ x < 0 := fun y => c (by
      have y' := Int32.lt_iff_toInt_lt.mp y
      rw [Int32.lt_iff_toInt_lt]
      have z0 : (0 : Int32).toInt = 0 := rfl
      have z1 : (1 : Int32).toInt = 1 := rfl
      omega)
    obtain ⟨j, hj, rfl⟩ := nI_of x0
    have d' : ¬ m < j := fun y => d (nI_lt y hj)
    exact ⟨j, by omega, rfl, Nat.zero_le _, Or.inr (Or.inr (by omega))⟩
theorem e_needKind {k m l : Nat} (hk : tyN 156 k = (0, 0, 0, 0)) (x : Int32) (S : Mem) (hm : S.1 k 4 = nI m) (hm2 : m ≤ 2) (hl : l ≤ 1) {Qr : QR} {Qx : QX} (h1 : kndP x l m → Qr none S) (h0 : ¬ kndP x l m → Qx "java/util/NoSuchElementException" (refC S 0)) : vsp 156 9 (sX9_needKind 156) [.ref 0, .ref k, .int x, .int (nI l)] S Qr Qx := by
  refine ⟨tP, runG rfl 40 (And.intro (fun a => ⟨tP, tP, h0 (fun b => ?_)⟩) (fun a => ⟨⟨Nat.le_of_ble_eq_true rfl, Nat.le_of_ble_eq_true rfl, Nat.le_of_ble_eq_true rfl⟩, e_hasKind hk x S hm hm2 (fun b => And.intro (fun _ => ⟨rfl, h1 ?_⟩) (fun c => absurd c (by decide))) (fun b => And.intro (fun c => absurd rfl c) (fun _ => ⟨tP, tP, h0 (fun c => b ?_)⟩))⟩))⟩
  · obtain ⟨j, hj, rfl, e, -⟩ := b
    exact nI_nlt e (by omega) a
  · obtain ⟨j, hj, rfl, -, f⟩ := b
    refine ⟨j, hj, rfl, ?_, f⟩
    rcases Nat.lt_or_ge j l with y | y
    · exact absurd (nI_lt y (by omega)) a
    · exact y
  · obtain ⟨j, hj, e, -, f⟩ := c
    exact ⟨j, hj, e, Nat.zero_le _, f⟩
/-- the model's isKind -/
theorem e_isKind {d m l : Nat} (hd : d < 5) (x : Int32) (S : Mem) (hm : S.2 141 (5 + 9 * d + 4) = lN m) (hm2 : m ≤ 2) (hl : l ≤ 1) {Qr : QR} {Qx : QX} (h1 : kndP x l m → Qr (some (.int 1)) S) (h0 : ¬ kndP x l m → Qr (some (.int 0)) S) : vsp 156 10 (sX10_isKind 156) [.ref 138, .int (nI d), .int x, .int (nI l)] S Qr Qx := by
  refine ⟨tM, runG rfl 60 ⟨⟨Nat.le_of_ble_eq_true rfl, Nat.le_of_ble_eq_true rfl, Nat.le_of_ble_eq_true rfl⟩, ?_⟩⟩
  refine e_inI x (nI l) 3 S (fun a b => ?_) (fun a => And.intro (fun _ => ⟨Or.inl rfl, h0 (fun c => a ?_)⟩) (fun c => absurd rfl c))
  · have x0 : ¬ x < 0 := fun y => neg_le (nI_pos (by omega)) y a
    obtain ⟨j, hj3, rfl⟩ := nI_of2 (M := 3) (n := 3) rfl x0 b
    have lj := (nI_leI (by omega) (by omega)).mp a
    refine And.intro (fun c => absurd c (by decide)) (fun _ => And.intro (fun c => ⟨Or.inr rfl, h1 ⟨j, by omega, rfl, lj, Or.inl ?_⟩⟩) (fun c => And.intro (fun e => ⟨Or.inr rfl, h1 ⟨j, by omega, rfl, lj, Or.inr (Or.inl ?_)⟩⟩) (fun e => ⟨⟨Nat.le_of_ble_eq_true rfl, Nat.le_of_ble_eq_true rfl, Nat.le_of_ble_eq_true rfl⟩, e_of (x := 4) hd (by decide) S (And.intro (fun f => ⟨Or.inl rfl, h0 (fun g => ?_)⟩) (fun f => ⟨Or.inr rfl, h1 ⟨j, by omega, rfl, lj, Or.inr (Or.inr ?_)⟩⟩))⟩)))
    · exact (nI_eq (b := 0) (by omega) (by decide)).mp c
    · exact (nI_eq (b := 3) (by omega) (by decide)).mp e
    · have f : S.2 141 (5 + 9 * d + 4) < (nI j).toInt64 := (lg_cmp_gt _ _).mp f
      rw [hm, nI_l (by omega)] at f
      have f := (lN_lt (by omega) (by omega)).mp f
      obtain ⟨i, hi, e', -, g⟩ := g
      have := (nI_eq (by omega) (by omega)).mp e'
      subst this
      rcases g with rfl | rfl | g
      · exact c rfl
      · exact e rfl
      · omega
    · have f : ¬ S.2 141 (5 + 9 * d + 4) < (nI j).toInt64 := fun y => f ((lg_cmp_gt _ _).mpr y)
      rw [hm, nI_l (by omega)] at f
      rcases Nat.lt_or_ge m j with y | y
      · exact absurd ((lN_lt (by omega) (by omega)).mpr y) f
      · exact y
  · obtain ⟨j, hj, rfl, e, -⟩ := c
    exact ⟨nI_le e (by omega), nI_le (b := 3) (by omega) (by decide)⟩
