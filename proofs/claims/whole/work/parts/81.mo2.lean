/-! ===== the model: departments, refusals, what is remembered ===== -/
set_option maxHeartbeats 2000000 in
theorem e_mdept {N k d : Nat} (hk : tyN N k = (1, 754, 0, 0)) (hd : d < 5) (wy pt rt sc : Int32) (S : Mem) {Qr : QR} {Qx : QX} (h : ∀ X : Nat → Nat → Int64, X k = wDepL (S.2 k) d wy.toInt64 pt.toInt64 rt.toInt64 sc.toInt64 (-1) (-1) → (∀ c, c ≠ k → X c = S.2 c) → Qr none (S.1, X)) : sX10_dept N [.ref k, .int (nI d), .int wy, .int pt, .int rt, .int sc] S Qr Qx := by
  have e0 : ∀ x, nI 5 + nI 9 * nI d + nI x = nI (5 + 9 * d + x) := fun x => ix2 _ _ _ _
  have c0 : ∀ x, x < 9 → (nI 5 + nI 9 * nI d + nI x).toNatClampNeg = 5 + 9 * d + x := fun x hx => by rw [e0]; exact nI_clamp (by omega)
  have v0 : ∀ x, x < 9 → vp_in (nI 5 + nI 9 * nI d + nI x) 754 := fun x hx => by rw [e0]; exact vp_nI (by omega)
  have e6 : nI 5 + nI 9 * nI d + nI 5 + nI 1 = nI (5 + 9 * d + 6) := by rw [e0, nI_add]
  have c6 : (nI 5 + nI 9 * nI d + nI 5 + nI 1).toNatClampNeg = 5 + 9 * d + 6 := by rw [e6]; exact nI_clamp (by omega)
  have v6 : vp_in (nI 5 + nI 9 * nI d + nI 5 + nI 1) 754 := by rw [e6]; exact vp_nI (by omega)
  refine runG rfl 120 ⟨754, hk, v0 0 (by decide), 754, hk, v0 1 (by decide), 754, hk, v0 2 (by decide), 754, hk, v0 3 (by decide), 754, hk, v0 4 (by decide), 754, hk, v0 5 (by decide), 754, hk, v6, 754, hk, v0 7 (by decide), 754, hk, v0 8 (by decide), rfl, ?_⟩
  refine h _ ?_ (fun c hc => ?_)
  · show u2 (u2 (u2 (u2 (u2 (u2 (u2 (u2 (u2 S.2 k (nI 5 + nI 9 * nI d + nI 0).toNatClampNeg wy.toInt64) k (nI 5 + nI 9 * nI d + nI 1).toNatClampNeg pt.toInt64) k (nI 5 + nI 9 * nI d + nI 2).toNatClampNeg rt.toInt64) k (nI 5 + nI 9 * nI d + nI 3).toNatClampNeg sc.toInt64) k (nI 5 + nI 9 * nI d + nI 4).toNatClampNeg 0) k (nI 5 + nI 9 * nI d + nI 5).toNatClampNeg (-1)) k (nI 5 + nI 9 * nI d + nI 5 + nI 1).toNatClampNeg (-1)) k (nI 5 + nI 9 * nI d + nI 7).toNatClampNeg (-1)) k (nI 5 + nI 9 * nI d + nI 8).toNatClampNeg (-1) k = _
    rw [u2_rowL, u2_rowL, u2_rowL, u2_rowL, u2_rowL, u2_rowL, u2_rowL, u2_rowL, u2_rowL, c0 0 (by decide), c0 1 (by decide), c0 2 (by decide), c0 3 (by decide), c0 4 (by decide), c0 5 (by decide), c6, c0 7 (by decide), c0 8 (by decide)]
    rfl
  · exact (u2_other _ _ _ hc).trans ((u2_other _ _ _ hc).trans ((u2_other _ _ _ hc).trans ((u2_other _ _ _ hc).trans ((u2_other _ _ _ hc).trans ((u2_other _ _ _ hc).trans ((u2_other _ _ _ hc).trans ((u2_other _ _ _ hc).trans (u2_other _ _ _ hc))))))))
/-- an int below a count that a row keeps -/
theorem in_cnt {x : Int32} {n : Nat} (hn : n < 2 ^ 31) : ((0 : Int64) ≤ x.toInt64 ∧ x.toInt64 ≤ lN n - 1) ↔ ∃ d, d < n ∧ x = nI d := by
  constructor
  · rintro ⟨h1, h2⟩
    rw [Int64.le_iff_toInt_le] at h1 h2
    have z : (0 : Int64).toInt = 0 := rfl
    have xi : x.toInt64.toInt = x.toInt := by simp
    rw [z, xi] at h1
    have h0 : ¬ x < 0 := by rw [Int32.lt_iff_toInt_lt]; have : (0 : Int32).toInt = 0 := rfl; omega
    obtain ⟨j, hj, rfl⟩ := nI_of h0
    rcases Nat.eq_zero_or_pos n with e | e
    · subst e
      have y : (lN 0 - 1).toInt = -1 := by decide
      rw [y, xi] at h2
      omega
    · rw [show lN n - 1 = lN (n - 1) from lN_sub (b := 1) (by omega), xi, lN_toInt (by omega), nI_toInt hj] at h2
      exact ⟨j, by omega, rfl⟩
  · rintro ⟨d, hd, rfl⟩
    rw [nI_l (by omega), show lN n - 1 = lN (n - 1) from lN_sub (b := 1) (by omega)]
    exact ⟨(lN_le (a := 0) (by decide) (by omega)).mpr (by omega), (lN_le (by omega) (by omega)).mpr (by omega)⟩
theorem e_isDept {n : Nat} (x : Int32) (S : Mem) (hn : S.2 141 0 = lN n) (hn5 : n ≤ 5) {Qr : QR} {Qx : QX} (h1 : ∀ d, d < n → x = nI d → Qr (some (.int 1)) S) (h0 : ¬ (∃ d, d < n ∧ x = nI d) → Qr (some (.int 0)) S) : vsp 156 10 (sX10_isDept 156) [.ref 138, .int x] S Qr Qx := by
  refine ⟨tM, runG rfl 40 ⟨tM, 754, tNow, vp_nI (n := 0) (by decide), ⟨Nat.le_of_ble_eq_true rfl, Nat.le_of_ble_eq_true rfl, Nat.le_of_ble_eq_true rfl⟩, ?_⟩⟩
  show sX10_in 156 [.long x.toInt64, .long 0, .long (S.2 141 0 - 1)] S _ _
  rw [hn]
  refine e_in _ _ _ S (fun y z => ⟨Or.inr rfl, ?_⟩) (fun y => ⟨Or.inl rfl, h0 (fun z => y ((in_cnt (by omega)).mpr z))⟩)
  obtain ⟨d, hd, e⟩ := (in_cnt (by omega)).mp ⟨y, z⟩
  exact h1 d hd e
theorem e_isProduct {n : Nat} (x : Int32) (S : Mem) (hn : S.2 141 1 = lN n) (hn5 : n ≤ 4) {Qr : QR} {Qx : QX} (h1 : ∀ d, d < n → x = nI d → Qr (some (.int 1)) S) (h0 : ¬ (∃ d, d < n ∧ x = nI d) → Qr (some (.int 0)) S) : vsp 156 10 (sX10_isProduct 156) [.ref 138, .int x] S Qr Qx := by
  refine ⟨tM, runG rfl 40 ⟨tM, 754, tNow, vp_nI (n := 1) (by decide), ⟨Nat.le_of_ble_eq_true rfl, Nat.le_of_ble_eq_true rfl, Nat.le_of_ble_eq_true rfl⟩, ?_⟩⟩
  show sX10_in 156 [.long x.toInt64, .long 0, .long (S.2 141 1 - 1)] S _ _
  rw [hn]
  refine e_in _ _ _ S (fun y z => ⟨Or.inr rfl, ?_⟩) (fun y => ⟨Or.inl rfl, h0 (fun z => y ((in_cnt (by omega)).mpr z))⟩)
  obtain ⟨d, hd, e⟩ := (in_cnt (by omega)).mp ⟨y, z⟩
  exact h1 d hd e
theorem l_in {lo hi x : Int32} : (lo.toInt64 ≤ x.toInt64 ∧ x.toInt64 ≤ hi.toInt64) ↔ (lo ≤ x ∧ x ≤ hi) := by
  rw [Int64.le_iff_toInt_le, Int64.le_iff_toInt_le, Int32.le_iff_toInt_le, Int32.le_iff_toInt_le]
  simp
/-- of an int x in [lo, hi], asked in longs -/
theorem e_inI (x lo hi : Int32) (S : Mem) {Qr : QR} {Qx : QX} (h1 : lo ≤ x → x ≤ hi → Qr (some (.int 1)) S) (h0 : ¬ (lo ≤ x ∧ x ≤ hi) → Qr (some (.int 0)) S) : sX10_in 156 [.long x.toInt64, .long lo.toInt64, .long hi.toInt64] S Qr Qx :=
  e_in _ _ _ S (fun a b => h1 (l_in.mp ⟨a, b⟩).1 (l_in.mp ⟨a, b⟩).2) (fun a => h0 (fun b => a (l_in.mpr b)))
/-- refused, counted -/
def badM (S : Mem) (what : Int32) (r : Nat) : Mem := (u2 (u2 S.1 138 0 what) 139 r (S.1 139 r + 1), S.2)
theorem e_bad {r : Nat} (hr : r < 3) (is what : Int32) (S : Mem) (ht : S.1 138 0 = 0) (hw : ¬ what = 0) {Qr : QR} {Qx : QX} (h1 : ¬ is = 0 → Qr (some (.int 1)) (badM S what r)) (h0 : is = 0 → Qr (some (.int 0)) S) : vsp 156 10 (sX10_bad 156) [.ref 138, .int is, .int what, .int (nI r)] S Qr Qx := by
  have cl : (nI r).toNatClampNeg = r := nI_clamp (by omega)
  refine ⟨tM, runG rfl 40 (And.intro (fun x => ⟨tM, And.intro (fun _ => ⟨Or.inl rfl, h0 x⟩) (fun y => absurd ht y)⟩) (fun x => ⟨tM, And.intro (fun y => absurd ht y) (fun _ => ⟨tM, tM, Or.inl ⟨3, tRef, vp_nI hr, 3, tRef, vp_nI hr, tM, And.intro (fun y => ?_) (fun y => ⟨Or.inr rfl, ?_⟩)⟩⟩)⟩))⟩
  · have y : u2 (u2 S.1 138 0 what) 139 (nI r).toNatClampNeg (u2 S.1 138 0 what 139 (nI r).toNatClampNeg + 1) 138 0 = 0 := y
    rw [u2_k _ _ _ _ (by decide), u2_s] at y
    exact absurd y hw
  · show Qr (some (.int 1)) (u2 (u2 S.1 138 0 what) 139 (nI r).toNatClampNeg (u2 S.1 138 0 what 139 (nI r).toNatClampNeg + 1), S.2)
    rw [cl, u2_k _ _ _ _ (by decide)]
    exact h1 x
/-- already refused -/
theorem e_bad1 {r : Int32} (is what : Int32) (S : Mem) (ht : ¬ S.1 138 0 = 0) {Qr : QR} {Qx : QX} (h1 : Qr (some (.int 1)) S) : vsp 156 10 (sX10_bad 156) [.ref 138, .int is, .int what, .int r] S Qr Qx := by
  refine ⟨tM, runG rfl 40 (And.intro (fun _ => ⟨tM, And.intro (fun y => absurd y ht) (fun _ => ⟨Or.inr rfl, h1⟩)⟩) (fun _ => ⟨tM, And.intro (fun _ => ⟨tM, And.intro (fun y => absurd y ht) (fun _ => ⟨Or.inr rfl, h1⟩)⟩) (fun y => absurd y ht)⟩))⟩
/-- what the model remembers: the rows ahead of the latest acts -/
def remR (S S' : Mem) (b : Nat) : Prop := (∀ i, i < min b 7 → ∀ j, j < 754 → S'.2 (145 + i) j = S.2 (145 + (if b = 8 then i + 1 else i)) j) ∧ (∀ j, j < 754 → S'.2 (145 + min b 7) j = S.2 141 j) ∧ (∀ c, c < 145 ∨ 153 ≤ c → S'.2 c = S.2 c) ∧ S'.1 = u2 S.1 138 13 (nI (min (b + 1) 8))
set_option maxHeartbeats 1000000 in
theorem e_remembers {b : Nat} (hb : b ≤ 8) (S : Mem) (hn : S.1 138 13 = nI b) {Qr : QR} {Qx : QX} (h : ∀ S', remR S S' b → Qr none S') : vsp 156 10 (sX10_remembers 156) [.ref 138] S Qr Qx := by
  refine ⟨tM, runL (α := Nat × (Nat → Nat → Int64)) rfl 80 11 0 (fun a => [(1, .int (nI a.1)), (0, .ref 138)]) (fun a => (S.1, a.2)) (fun a => 8 - a.1) (fun a => b = 8 ∧ 1 ≤ a.1 ∧ a.1 ≤ 8 ∧ (∀ i, i + 1 < a.1 → ∀ j, j < 754 → a.2 (145 + i) j = S.2 (145 + (i + 1)) j) ∧ (∀ i, a.1 ≤ i + 1 → a.2 (145 + i) = S.2 (145 + i)) ∧ ∀ c, c < 145 ∨ 153 ≤ c → a.2 c = S.2 c) ?_ ?_⟩
  · rintro ⟨i, X⟩ ⟨hb8, hi1, hi, hx, hy, hz⟩
    dsimp only at hi1 hi hx hy hz
    subst hb8
    refine And.intro (fun x => ?_) (fun x => ?_)
    · have x : nI 8 ≤ nI i := x
      obtain rfl := le_of_nI (by decide) hi x
      have p1 : S.1 138 13 - 1 = nI 7 := by rw [hn]; exact nI_pr (by decide)
      have q1 : u2 S.1 138 13 (S.1 138 13 - 1) 138 13 = nI 7 := by rw [u2_s, p1]
      refine ⟨tM, tM, tM, tM, tM, 3, 8, 145, 1, tPast, by decide, by show vp_in (u2 S.1 138 13 (S.1 138 13 - 1) 138 13) 8; rw [q1]; exact vp_nI (by decide), ⟨Nat.le_of_ble_eq_true rfl, Nat.le_of_ble_eq_true rfl, Nat.le_of_ble_eq_true rfl⟩, ?_⟩
      show sX10_copies 156 [.ref 141, .ref (145 + 1 * (u2 S.1 138 13 (S.1 138 13 - 1) 138 13).toNatClampNeg)] (u2 S.1 138 13 (S.1 138 13 - 1), X) _ _
      rw [q1, nI_clamp (by decide)]
      refine e_copies tNow (tPas 7 (by decide)) (by decide) _ ⟨tM, tM, rfl, h _ ⟨fun i hi j hj => ?_, fun j hj => ?_, fun c hc => ?_, ?_⟩⟩
      · have hi : i < 7 := hi
        show cpr X 141 152 754 (145 + i) j = S.2 (145 + (if 8 = 8 then i + 1 else i)) j
        rw [if_pos rfl, cpr, if_neg (by omega)]
        exact hx i (by omega) j hj
      · show cpr X 141 152 754 152 j = S.2 141 j
        rw [cpr, if_pos ⟨rfl, hj⟩, hz 141 (by omega)]
      · show cpr X 141 152 754 c = S.2 c
        funext j
        rw [cpr, if_neg (by omega), hz c hc]
      · show u2 (u2 S.1 138 13 (S.1 138 13 - 1)) 138 13 (u2 S.1 138 13 (S.1 138 13 - 1) 138 13 + 1) = _
        rw [u2_u2, q1, nI_1]
        rfl
    · have x : ¬ nI 8 ≤ nI i := x
      have hlt := lt_of_nI (by decide) hi x
      have ci : (nI i).toNatClampNeg = i := nI_clamp (by omega)
      have p1 : nI i - 1 = nI (i - 1) := nI_pr (by omega)
      have c1 : (nI i - 1).toNatClampNeg = i - 1 := by rw [p1]; exact nI_clamp (by omega)
      refine ⟨tM, 3, 8, 145, 1, tPast, by decide, vp_nI (by omega), tM, 3, 8, 145, 1, tPast, by decide, by rw [p1]; exact vp_nI (by omega), ⟨Nat.le_of_ble_eq_true rfl, Nat.le_of_ble_eq_true rfl, Nat.le_of_ble_eq_true rfl⟩, ?_⟩
      show sX10_copies 156 [.ref (145 + 1 * (nI i).toNatClampNeg), .ref (145 + 1 * (nI i - 1).toNatClampNeg)] (S.1, X) _ _
      rw [ci, c1, Nat.one_mul, Nat.one_mul]
      refine e_copies (tPas i (by omega)) (tPas (i - 1) (by omega)) (by omega) _ ⟨rfl, rfl, (i + 1, cpr X (145 + i) (145 + (i - 1)) 754), ⟨⟨rfl, by show 1 ≤ i + 1; omega, hlt, fun c hc j hj => ?_, fun c hc => ?_, fun c hc => ?_⟩, by show 8 - (i + 1) < 8 - i; omega⟩, rfl, congrArg (fun z => some (Value.int z)) (nI_1 i), rfl, trivial⟩
      · have hc : c + 1 < i + 1 := hc
        show cpr X (145 + i) (145 + (i - 1)) 754 (145 + c) j = _
        by_cases z : c = i - 1
        · subst z
          rw [cpr, if_pos ⟨rfl, hj⟩, hy i (by omega), show i - 1 + 1 = i by omega]
        · rw [cpr, if_neg (by omega)]; exact hx c (by omega) j hj
      · have hc : i + 1 ≤ c + 1 := hc
        show cpr X (145 + i) (145 + (i - 1)) 754 (145 + c) = _
        funext j
        rw [cpr, if_neg (by omega), hy c (by omega)]
      · show cpr X (145 + i) (145 + (i - 1)) 754 c = _
        funext j
        rw [cpr, if_neg (by omega), hz c hc]
  · refine ⟨tM, And.intro (fun x => ?_) (fun x => ?_)⟩
    · have x : ¬ S.1 138 13 = nI 8 := x
      have hb7 : b < 8 := by
        rcases Nat.lt_or_ge b 8 with y | y
        · exact y
        · rw [hn, show b = 8 by omega] at x; exact absurd rfl x
      have cb : (S.1 138 13).toNatClampNeg = b := by rw [hn]; exact nI_clamp (by omega)
      refine ⟨tM, tM, tM, 3, 8, 145, 1, tPast, by decide, by rw [hn]; exact vp_nI hb7, ⟨Nat.le_of_ble_eq_true rfl, Nat.le_of_ble_eq_true rfl, Nat.le_of_ble_eq_true rfl⟩, ?_⟩
      show sX10_copies 156 [.ref 141, .ref (145 + 1 * (S.1 138 13).toNatClampNeg)] S _ _
      rw [cb, Nat.one_mul]
      refine e_copies tNow (tPas b hb7) (by omega) _ ⟨tM, tM, rfl, h _ ⟨fun i hi j hj => ?_, fun j hj => ?_, fun c hc => ?_, ?_⟩⟩
      · have hi : i < min b 7 := hi
        show cpr S.2 141 (145 + b) 754 (145 + i) j = _
        rw [cpr, if_neg (by omega), if_neg (by omega)]
      · show cpr S.2 141 (145 + b) 754 (145 + min b 7) j = _
        rw [Nat.min_eq_left (by omega), cpr, if_pos ⟨rfl, hj⟩]
      · show cpr S.2 141 (145 + b) 754 c = _
        funext j
        rw [cpr, if_neg (by omega)]
      · show u2 S.1 138 13 (S.1 138 13 + 1) = _
        rw [hn, nI_1, Nat.min_eq_left (by omega)]
    · have x : S.1 138 13 = nI 8 := x
      have hb8 : b = 8 := by
        rw [hn] at x
        exact (nI_eq (by omega) (by decide)).mp x
      exact ⟨rfl, rfl, (1, S.2), ⟨hb8, Nat.le_refl _, by show 1 ≤ 8; decide, fun i hi => absurd hi (by show ¬ i + 1 < 1; omega), fun i _ => rfl, fun c _ => rfl⟩, rfl, rfl, rfl, trivial⟩
