/-! ===== the model reads ===== -/
/-- only the model's own numbers at J change -/
def MS (J : List Nat) (S S' : Mem) : Prop := S'.2 = S.2 ∧ (∀ c, c ≠ 138 → S'.1 c = S.1 c) ∧ ∀ j, j ∉ J → S'.1 138 j = S.1 138 j
theorem MS.trans {J K : List Nat} {S T U : Mem} (h : MS J S T) (k : MS K T U) : MS (J ++ K) S U := by
  refine ⟨k.1.trans h.1, fun c x => (k.2.1 c x).trans (h.2.1 c x), fun j x => ?_⟩
  rw [List.mem_append] at x
  exact (k.2.2 j (fun y => x (Or.inr y))).trans (h.2.2 j (fun y => x (Or.inl y)))
theorem MS.w {J K : List Nat} {S T : Mem} (h : MS J S T) (k : ∀ j, j ∈ J → j ∈ K) : MS K S T := ⟨h.1, h.2.1, fun j x => h.2.2 j (fun y => x (k j y))⟩
theorem MS.re {J : List Nat} {S : Mem} : MS J S S := ⟨rfl, fun _ _ => rfl, fun _ _ => rfl⟩
theorem MS_u2 {J : List Nat} {S T : Mem} (h : MS J S T) (j : Nat) (v : Int32) : MS (j :: J) S (u2 T.1 138 j v, T.2) := by
  refine ⟨h.1, fun c x => (u2_other _ _ _ x).trans (h.2.1 c x), fun i x => ?_⟩
  rw [List.mem_cons] at x
  exact (u2_j T.1 138 138 v (fun e => x (Or.inl e))).trans (h.2.2 i (fun y => x (Or.inr y)))
theorem k_s (T : Mem) (j : Nat) (v : Int32) : (u2 T.1 138 j v, T.2).1 138 j = v := u2_s T.1 138 j v
theorem k_o (T : Mem) {i j : Nat} (v : Int32) (h : i ≠ j) : (u2 T.1 138 j v, T.2).1 138 i = T.1 138 i := u2_j T.1 138 138 v h
/-- the model's tape has the signs g, the first len of them -/
def tgM (S : Mem) (g : Nat → Int32) (len : Nat) : Prop := S.1 138 3 = nI len ∧ len ≤ 400 ∧ (∀ i, i < len → ¬ S.1 140 i < 0 ∧ (g i = S.1 140 i ∨ (128 ≤ S.1 140 i ∧ g i < 0))) ∧ ∀ i, len ≤ i → g i < 0
theorem MS.tg {J : List Nat} {S S' : Mem} {g : Nat → Int32} {len : Nat} (h : MS J S S') (hj : 3 ∉ J) (hg : tgM S g len) : tgM S' g len := by
  obtain ⟨a, b, c, d⟩ := hg
  refine ⟨(h.2.2 3 hj).trans a, b, fun i hi => ?_, d⟩
  rw [h.2.1 140 (by decide)]
  exact c i hi
/-- v is what the model has for the sign c -/
def smv (v c : Int32) : Prop := v = c ∨ (c < 0 ∧ (v = -1 ∨ 128 ≤ v))
theorem smv.eq {v c x : Int32} (h : smv v c) (h0 : ¬ x < 0) (h1 : x < 128) : v = x ↔ c = x := by
  rcases h with rfl | ⟨a, b⟩
  · exact Iff.rfl
  · constructor
    · rintro rfl
      rcases b with rfl | b
      · exact absurd (by decide) h0
      · exact absurd h1 ((I_nlt _ _).mpr b)
    · rintro rfl; exact absurd a h0
theorem smv.in {v c : Int32} (h : smv v c) {lo hi : Int32} (h0 : ¬ lo < 0) (h1 : hi < 128) : (lo ≤ v ∧ v ≤ hi) ↔ (lo ≤ c ∧ c ≤ hi) := by
  rcases h with rfl | ⟨a, b⟩
  · exact Iff.rfl
  · constructor
    · rintro ⟨x, y⟩
      rcases b with rfl | b
      · exact absurd x (neg_le h0 (by decide))
      · have y' := Int32.le_iff_toInt_le.mp y
        have b' := Int32.le_iff_toInt_le.mp b
        have h1' := Int32.lt_iff_toInt_lt.mp h1
        omega
    · rintro ⟨x, y⟩; exact absurd x (neg_le h0 a)
theorem e_byteAt {g : Nat → Int32} {len : Nat} (i : Nat) (hi : i < 2 ^ 31) (S : Mem) (hg : tgM S g len) {Qr : QR} {Qx : QX} (h : ∀ v, smv v (g i) → (v = -1 ↔ len ≤ i) → Qr (some (.int v)) S) : vsp 156 10 (sX10_byteAt 156) [.ref 138, .int (nI i)] S Qr Qx := by
  have l4 := hg.2.1
  refine ⟨tM, runG rfl 40 ⟨tM, And.intro (fun x => ?_) (fun x => ?_)⟩⟩
  · have x : nI i < S.1 138 3 := x
    rw [hg.1] at x
    have hlt := (nI_ltI hi (by omega)).mp x
    have cl : (nI i).toNatClampNeg = i := nI_clamp hi
    obtain ⟨p, q⟩ := hg.2.2.1 i hlt
    refine ⟨tM, Or.inl ⟨400, tFed, vp_nI (by omega), ?_⟩⟩
    show Qr (some (.int (S.1 140 (nI i).toNatClampNeg))) S
    rw [cl]
    refine h _ ?_ ⟨fun e => absurd (show S.1 140 i < 0 by rw [e]; decide) p, fun e => absurd e (by omega)⟩
    rcases q with q | ⟨q, r⟩
    · exact Or.inl q.symm
    · exact Or.inr ⟨r, Or.inr q⟩
  · have x : ¬ nI i < S.1 138 3 := x
    rw [hg.1] at x
    have hge : len ≤ i := by
      rcases Nat.lt_or_ge i len with y | y
      · exact absurd (nI_lt y (by omega)) x
      · exact y
    exact h (-1) (Or.inr ⟨hg.2.2.2 i hge, Or.inl rfl⟩) ⟨fun _ => hge, fun _ => rfl⟩
theorem e_fine (S : Mem) {Qr : QR} {Qx : QX} (h1 : S.1 138 6 = 0 → Qr (some (.int 1)) S) (h0 : ¬ S.1 138 6 = 0 → Qr (some (.int 0)) S) : vsp 156 10 (sX10_fine 156) [.ref 138] S Qr Qx :=
  ⟨tM, runG rfl 40 ⟨tM, And.intro (fun x => ⟨Or.inl rfl, h0 x⟩) (fun x => ⟨Or.inr rfl, h1 x⟩)⟩⟩
theorem e_wrong (what pl : Int32) (S : Mem) (hf : S.1 138 6 = 0) {Qr : QR} {Qx : QX} (h : ∀ S', MS [6, 7] S S' → S'.1 138 6 = what → S'.1 138 7 = pl → Qr none S') : vsp 156 10 (sX10_wrong 156) [.ref 138, .int what, .int pl] S Qr Qx :=
  ⟨tM, runG rfl 40 ⟨tM, And.intro (fun x => absurd hf x) (fun _ => ⟨tM, tM, rfl, h _ ((MS_u2 (MS_u2 (MS.re (J := [])) 6 what) 7 pl).w (by decide)) ((k_o (u2 S.1 138 6 what, S.2) pl (show 6 ≠ 7 by decide)).trans (k_s S 6 what)) (k_s (u2 S.1 138 6 what, S.2) 7 pl)⟩)⟩⟩
theorem e_isSmall (c : Int32) (S : Mem) {Qr : QR} {Qx : QX} (h : Qr (some (.int (if 97 ≤ c ∧ c ≤ 122 then 1 else 0))) S) : sX10_isSmall 156 [.int c] S Qr Qx := by
  refine runG rfl 40 (And.intro (fun x => ⟨Or.inl rfl, ?_⟩) (fun x => And.intro (fun y => ⟨Or.inl rfl, ?_⟩) (fun y => ⟨Or.inr rfl, ?_⟩)))
  · rw [if_neg (fun z => ((I_nlt _ _).mpr z.1) x)] at h; exact h
  · rw [if_neg (fun z => ((I_nlt _ _).mpr z.2) y)] at h; exact h
  · rw [if_pos ⟨(I_nlt _ _).mp x, (I_nlt _ _).mp y⟩] at h; exact h
theorem e_mDigit (c : Int32) (S : Mem) {Qr : QR} {Qx : QX} (h : Qr (some (.int (if 48 ≤ c ∧ c ≤ 57 then 1 else 0))) S) : sX10_isDigit 156 [.int c] S Qr Qx := by
  refine runG rfl 40 (And.intro (fun x => ⟨Or.inl rfl, ?_⟩) (fun x => And.intro (fun y => ⟨Or.inl rfl, ?_⟩) (fun y => ⟨Or.inr rfl, ?_⟩)))
  · rw [if_neg (fun z => ((I_nlt _ _).mpr z.1) x)] at h; exact h
  · rw [if_neg (fun z => ((I_nlt _ _).mpr z.2) y)] at h; exact h
  · rw [if_pos ⟨(I_nlt _ _).mp x, (I_nlt _ _).mp y⟩] at h; exact h
set_option maxHeartbeats 1000000 in
theorem e_here {g : Nat → Int32} {len a : Nat} (S : Mem) (hg : tgM S g len) (ha : S.1 138 4 = nI a) (hal : a ≤ len) {Qr : QR} {Qx : QX} (h : ∀ S' v, MS [4] S S' → S'.1 138 4 = nI (rend isBl g len a) → smv v (g (rend isBl g len a)) → (v = -1 ↔ len ≤ rend isBl g len a) → Qr (some (.int v)) S') : vsp 156 10 (sX10_here 156) [.ref 138] S Qr Qx := by
  have l4 := hg.2.1
  refine ⟨tM, runL0 (α := Nat × Mem) rfl 60 0 (fun b => [(0, .ref 138)]) (fun b => b.2) (fun b => len - b.1) (fun b => b.1 ≤ len ∧ rend isBl g len b.1 = rend isBl g len a ∧ MS [4] S b.2 ∧ b.2.1 138 4 = nI b.1) ?_ ?_⟩
  · rintro ⟨i, T⟩ ⟨hi, hs, ht, h3⟩
    dsimp only at hi hs ht h3
    have gT := ht.tg (by decide) hg
    refine ⟨tM, ⟨Nat.le_of_ble_eq_true rfl, Nat.le_of_ble_eq_true rfl, Nat.le_of_ble_eq_true rfl⟩, ?_⟩
    show vsp 156 10 (sX10_byteAt 156) [.ref 138, .int (T.1 138 4)] T _ _
    rw [h3]
    refine e_byteAt i (by omega) T gT (fun v sv _ => And.intro (fun x => ?_) (fun x => ?_))
    · have x : ¬ v = 32 := x
      rw [sv.eq (by decide) (by decide)] at x
      have hs' : i = rend isBl g len a := by
        rw [← hs]; exact (rend_no (fun _ => decide_eq_false x)).symm
      refine ⟨tM, ⟨Nat.le_of_ble_eq_true rfl, Nat.le_of_ble_eq_true rfl, Nat.le_of_ble_eq_true rfl⟩, ?_⟩
      show vsp 156 10 (sX10_byteAt 156) [.ref 138, .int (T.1 138 4)] T _ _
      rw [h3]
      refine e_byteAt i (by omega) T gT (fun v sv e => ?_)
      exact h T v ht (by rw [h3, hs']) (by rw [← hs']; exact sv) (by rw [← hs']; exact e)
    · have x : v = 32 := x
      rw [sv.eq (by decide) (by decide)] at x
      have hlt : i < len := by
        rcases Nat.lt_or_ge i len with y | y
        · exact y
        · exact absurd (x ▸ hg.2.2.2 i y) (by decide)
      rw [rend_yes hlt (decide_eq_true x)] at hs
      refine ⟨tM, tM, rfl, rfl, (i + 1, (u2 T.1 138 4 (T.1 138 4 + 1), T.2)), ⟨⟨hlt, hs, (MS_u2 ht 4 _).w (by decide), ?_⟩, by show len - (i + 1) < len - i; omega⟩, rfl, rfl, trivial⟩
      exact (k_s T 4 _).trans (by rw [h3, nI_1])
  · exact ⟨rfl, rfl, (a, S), ⟨hal, rfl, MS.re, ha⟩, rfl, rfl, trivial⟩
/-- nothing is wrong yet, the model stands at a -/
def ST (S : Mem) (len a : Nat) : Prop := S.1 138 6 = 0 ∧ S.1 138 4 = nI a ∧ a ≤ len ∧ S.1 138 7 = -1
/-- something is wrong, as R says -/
def FL (S : Mem) (R : RR) : Prop := ∃ r pl, R = .inl (r, pl) ∧ ¬ r = 0 ∧ S.1 138 6 = r ∧ S.1 138 7 = nI pl
theorem FL.no {S : Mem} {R : RR} (h : FL S R) : ¬ S.1 138 6 = 0 := by
  obtain ⟨r, pl, -, b, c, -⟩ := h
  rw [c]; exact b
theorem FL.ms {J : List Nat} {S S' : Mem} {R : RR} (h : FL S R) (t : MS J S S') (h6 : 6 ∉ J) (h7 : 7 ∉ J) : FL S' R := by
  obtain ⟨r, pl, a, b, c, d⟩ := h
  exact ⟨r, pl, a, b, (t.2.2 6 h6).trans c, (t.2.2 7 h7).trans d⟩
theorem strB_128 : ∀ i, i < 16 → ∀ j, j < (strB i).length → (strB i).getD j 0 < 128 := by decide
set_option maxHeartbeats 2000000 in
theorem e_takesWord {g : Nat → Int32} {len i : Nat} (hi : i < 16) (S : Mem) (hg : tgM S g len) {Qr : QR} {Qx : QX} (hF : ¬ S.1 138 6 = 0 → Qr (some (.int 0)) S)
    (hT : ∀ a, ST S len a → (mtc g (rend isBl g len a) i → ∀ S', MS [4] S S' → ST S' len (rend isBl g len a + (strB i).length) → Qr (some (.int 1)) S') ∧ (¬ mtc g (rend isBl g len a) i → ∀ S', MS [4] S S' → ST S' len (rend isBl g len a) → Qr (some (.int 0)) S')) (hs : ¬ S.1 138 6 = 0 ∨ ∃ a, ST S len a) : vsp 156 10 (sX10_takesWord 156) [.ref 138, .ref (1000 + i)] S Qr Qx := by
  have l4 := hg.2.1
  have hp := strB_ps i hi
  rcases hs with hf | ⟨a, hf, ha, hal, h7⟩
  · refine ⟨tM, runL (α := Nat) rfl 60 16 0 (fun _ => []) (fun _ => S) (fun k => k) (fun _ => False) (fun k hk => absurd hk id) ⟨⟨Nat.le_of_ble_eq_true rfl, Nat.le_of_ble_eq_true rfl, Nat.le_of_ble_eq_true rfl⟩, e_fine S (fun x => absurd x hf) (fun _ => And.intro (fun x => absurd rfl x) (fun _ => ⟨Or.inl rfl, hF hf⟩))⟩⟩
  · obtain ⟨h1, h0⟩ := hT a ⟨hf, ha, hal, h7⟩
    have rl := rend_le (P := isBl) (g := g) hal
    refine ⟨tM, runL (α := Nat × Mem) rfl 80 16 0 (fun b => [(2, .int (nI b.1)), (1, .ref (1000 + i)), (0, .ref 138)]) (fun b => b.2) (fun b => (strB i).length - b.1) (fun b => b.1 ≤ (strB i).length ∧ (∀ j, j < b.1 → g (rend isBl g len a + j) = (strB i).getD j 0) ∧ MS [4] S b.2 ∧ b.2.1 138 4 = nI (rend isBl g len a)) ?_ ?_⟩
    · rintro ⟨k, T⟩ ⟨hk, hm, ht, h3⟩
      dsimp only at hk hm ht h3
      have gT := ht.tg (by decide) hg
      have sT : ST T len (rend isBl g len a) := ⟨(ht.2.2 6 (by decide)).trans hf, h3, rl.2, (ht.2.2 7 (by decide)).trans h7⟩
      have ck : (nI k).toNatClampNeg = k := nI_clamp (by omega)
      have ai : T.1 138 4 + nI k = nI (rend isBl g len a + k) := by rw [h3, nI_add]
      refine ⟨⟨Nat.le_of_ble_eq_true rfl, Nat.le_of_ble_eq_true rfl, Nat.le_of_ble_eq_true rfl⟩, i, rfl, hi, And.intro (fun x => ?_) (fun x => ?_)⟩
      · obtain rfl := le_of_nI (by omega) hk x
        refine ⟨⟨Nat.le_of_ble_eq_true rfl, Nat.le_of_ble_eq_true rfl, Nat.le_of_ble_eq_true rfl⟩, i, rfl, hi, And.intro (fun y => absurd y (nI_nlt (Nat.le_refl _) (by omega))) (fun _ => ⟨tM, ⟨Nat.le_of_ble_eq_true rfl, Nat.le_of_ble_eq_true rfl, Nat.le_of_ble_eq_true rfl⟩, ?_⟩)⟩
        show vsp 156 10 (sX10_byteAt 156) [.ref 138, .int (T.1 138 4 + nI (strB i).length)] T _ _
        rw [ai]
        refine e_byteAt _ (by omega) T gT (fun v sv _ => ⟨⟨Nat.le_of_ble_eq_true rfl, Nat.le_of_ble_eq_true rfl, Nat.le_of_ble_eq_true rfl⟩, e_isSmall v T ?_⟩)
        have e := sv.in (lo := 97) (hi := 122) (by decide) (by decide)
        cases hL : isLe (g (rend isBl g len a + (strB i).length)) with
        | true =>
          rw [if_pos (e.mpr ((isLe_iff _).mp hL))]
          refine And.intro (fun z => absurd z (by decide)) (fun _ => ⟨Or.inl rfl, h0 (fun m => ?_) T ht sT⟩)
          rw [m.2] at hL; exact absurd hL (by decide)
        | false =>
          rw [if_neg (fun z => by rw [(isLe_iff _).mpr (e.mp z)] at hL; exact absurd hL (by decide))]
          have mt : mtc g (rend isBl g len a) i := ⟨hm, hL⟩
          refine And.intro (fun _ => ⟨tM, tM, Or.inr rfl, h1 mt _ ((MS_u2 ht 4 _).w (by decide)) ⟨(k_o T _ (show 6 ≠ 4 by decide)).trans sT.1, (k_s T 4 _).trans ai, mtc_len hi rl.2 hg.2.2.2 mt, (k_o T _ (show 7 ≠ 4 by decide)).trans sT.2.2.2⟩⟩) (fun z => absurd rfl z)
      · have hlt := lt_of_nI (by omega) hk x
        refine ⟨tM, ⟨Nat.le_of_ble_eq_true rfl, Nat.le_of_ble_eq_true rfl, Nat.le_of_ble_eq_true rfl⟩, ?_⟩
        show vsp 156 10 (sX10_byteAt 156) [.ref 138, .int (T.1 138 4 + nI k)] T _ _
        rw [ai]
        refine e_byteAt _ (by omega) T gT (fun v sv _ => ⟨⟨Nat.le_of_ble_eq_true rfl, Nat.le_of_ble_eq_true rfl, Nat.le_of_ble_eq_true rfl⟩, i, rfl, hi, vp_nI hlt (by omega), ?_⟩)
        have up := strB_128 i hi k hlt
        have eq := sv.eq (strB_up i hi k hlt) up
        refine And.intro (fun y => ?_) (fun y => ?_)
        · have y : ¬ v = (strB i).getD (nI k).toNatClampNeg 0 := y
          rw [ck, eq] at y
          refine ⟨⟨Nat.le_of_ble_eq_true rfl, Nat.le_of_ble_eq_true rfl, Nat.le_of_ble_eq_true rfl⟩, i, rfl, hi, And.intro (fun _ => ⟨Or.inl rfl, h0 (fun m => y (m.1 k hlt)) T ht sT⟩) (fun z => absurd (nI_lt hlt (by omega)) z)⟩
        · have y : v = (strB i).getD (nI k).toNatClampNeg 0 := y
          rw [ck, eq] at y
          refine ⟨rfl, rfl, (k + 1, T), ⟨⟨hlt, fun j hj => ?_, ht, h3⟩, by show (strB i).length - (k + 1) < (strB i).length - k; omega⟩, rfl, congrArg (fun z => some (Value.int z)) (nI_1 k), rfl, rfl, trivial⟩
          have hj : j < k + 1 := hj
          by_cases z : j = k
          · rw [z]; exact y
          · exact hm j (by omega)
    · exact ⟨⟨Nat.le_of_ble_eq_true rfl, Nat.le_of_ble_eq_true rfl, Nat.le_of_ble_eq_true rfl⟩, e_fine S (fun _ => And.intro (fun _ => ⟨⟨Nat.le_of_ble_eq_true rfl, Nat.le_of_ble_eq_true rfl, Nat.le_of_ble_eq_true rfl⟩, e_here S hg ha hal (fun T v ht h3 _ _ => ⟨rfl, rfl, (0, T), ⟨Nat.zero_le _, fun j hj => absurd hj (Nat.not_lt_zero j), ht, h3⟩, rfl, rfl, rfl, rfl, trivial⟩)⟩) (fun x => absurd x (by decide))) (fun x => absurd hf x)⟩
