/-! ===== a reckoned month of the class is the counted month of the row ===== -/
theorem s_add {a b : Int32} {x y : Int} (ha : a.toInt = x) (hb : b.toInt = y) (h : -2147483648 ≤ x + y ∧ x + y ≤ 2147483647) : (a + b).toInt = x + y := by
  rw [Int32.toInt_add, ha, hb]; exact Int.bmod_eq_of_le (by omega) (by omega)
theorem s_sub {a b : Int32} {x y : Int} (ha : a.toInt = x) (hb : b.toInt = y) (h : -2147483648 ≤ x - y ∧ x - y ≤ 2147483647) : (a - b).toInt = x - y := by
  rw [Int32.toInt_sub, ha, hb]; exact Int.bmod_eq_of_le (by omega) (by omega)
theorem s_mul {a b : Int32} {x y : Int} (ha : a.toInt = x) (hb : b.toInt = y) (h : -2147483648 ≤ x * y ∧ x * y ≤ 2147483647) : (a * b).toInt = x * y := by
  rw [Int32.toInt_mul, ha, hb]; exact Int.bmod_eq_of_le (by omega) (by omega)
theorem s_div {a b : Int32} {x y : Int} (ha : a.toInt = x) (hb : b.toInt = y) (hx : 0 ≤ x ∧ x ≤ 2147483647) (hy : 1 ≤ y) : (a / b).toInt = x / y := by
  rw [Int32.toInt_div, ha, hb, Int.tdiv_eq_ediv_of_nonneg hx.1]
  have h1 : 0 ≤ x / y := Int.ediv_nonneg hx.1 (by omega)
  have h2 : x / y ≤ x := Int.ediv_le_self y hx.1
  exact Int.bmod_eq_of_le (by omega) (by omega)
theorem g_add {a b : Int64} {x y : Int} (ha : a.toInt = x) (hb : b.toInt = y) (h : -9223372036854775808 ≤ x + y ∧ x + y ≤ 9223372036854775807) : (a + b).toInt = x + y := by
  rw [Int64.toInt_add, ha, hb]; exact Int.bmod_eq_of_le (by omega) (by omega)
theorem g_sub {a b : Int64} {x y : Int} (ha : a.toInt = x) (hb : b.toInt = y) (h : -9223372036854775808 ≤ x - y ∧ x - y ≤ 9223372036854775807) : (a - b).toInt = x - y := by
  rw [Int64.toInt_sub, ha, hb]; exact Int.bmod_eq_of_le (by omega) (by omega)
theorem g_mul {a b : Int64} {x y : Int} (ha : a.toInt = x) (hb : b.toInt = y) (h : -9223372036854775808 ≤ x * y ∧ x * y ≤ 9223372036854775807) : (a * b).toInt = x * y := by
  rw [Int64.toInt_mul, ha, hb]; exact Int.bmod_eq_of_le (by omega) (by omega)
theorem g_div {a b : Int64} {x y : Int} (ha : a.toInt = x) (hb : b.toInt = y) (hx : 0 ≤ x ∧ x ≤ 9223372036854775807) (hy : 1 ≤ y) : (a / b).toInt = x / y := by
  rw [Int64.toInt_div, ha, hb, Int.tdiv_eq_ediv_of_nonneg hx.1]
  have h1 : 0 ≤ x / y := Int.ediv_nonneg hx.1 (by omega)
  have h2 : x / y ≤ x := Int.ediv_le_self y hx.1
  exact Int.bmod_eq_of_le (by omega) (by omega)
theorem e64 {x : Int32} {y : Int64} (h : x.toInt = y.toInt) : x.toInt64 = y := Int64.toInt_inj.mp ((Int32.toInt_toInt64 x).trans h)
theorem t64 {x : Int32} {y : Int64} (h : x.toInt64 = y) : x.toInt = y.toInt := by rw [← h, Int32.toInt_toInt64]
theorem lt64 {x y : Int32} {a b : Int64} (hx : x.toInt64 = a) (hy : y.toInt64 = b) : x < y ↔ a < b := by
  rw [Int32.lt_iff_toInt_lt, Int64.lt_iff_toInt_lt, t64 hx, t64 hy]
theorem le64 {x y : Int32} {a b : Int64} (hx : x.toInt64 = a) (hy : y.toInt64 = b) : x ≤ y ↔ a ≤ b := by
  rw [Int32.le_iff_toInt_le, Int64.le_iff_toInt_le, t64 hx, t64 hy]
theorem eq64 {x y : Int32} {a b : Int64} (hx : x.toInt64 = a) (hy : y.toInt64 = b) : x = y ↔ a = b := by
  constructor
  · rintro rfl; exact hx.symm.trans hy
  · intro h; rw [← hx, ← hy] at h; have := congrArg Int64.toInt32 h; simpa using this
theorem nm_eq {c r l : Int32} {C R L : Int64} (hc : c.toInt64 = C) (hr : r.toInt64 = R) (hl : l.toInt64 = L) (cb : C.toInt ≤ 1000000) (rb : 0 ≤ R.toInt ∧ R.toInt ≤ 100) (lb : 0 ≤ L.toInt) : (nmV c r l).toInt64 = lessL L (moreL 0 C * R / 100) ∧ 0 ≤ (nmV c r l).toInt ∧ (nmV c r l).toInt ≤ L.toInt := by
  have z0 : (0 : Int32).toInt = 0 := rfl
  have z0' : (0 : Int64).toInt = 0 := rfl
  obtain ⟨x, hx0, hx1, e1, e2⟩ : ∃ x : Int, 0 ≤ x ∧ x ≤ 1000000 ∧ (if c < 0 then 0 else c).toInt = x ∧ (moreL 0 C).toInt = x := by
    have tc := t64 hc
    unfold moreL
    by_cases h : c < 0
    · have h' : C < 0 := (lt64 hc (show (0:Int32).toInt64 = 0 from rfl)).mp h
      rw [if_pos h, if_pos h']
      exact ⟨0, by decide, by decide, rfl, rfl⟩
    · have h' : ¬ C < 0 := fun z => h ((lt64 hc (show (0:Int32).toInt64 = 0 from rfl)).mpr z)
      rw [if_neg h, if_neg h']
      rw [Int64.lt_iff_toInt_lt, z0'] at h'
      exact ⟨C.toInt, by omega, cb, tc, rfl⟩
  have tr := t64 hr
  have tl := t64 hl
  obtain ⟨y, hy⟩ : ∃ y, R.toInt = y := ⟨_, rfl⟩
  rw [hy] at rb tr
  have p0 : 0 ≤ x * y := Int.mul_nonneg hx0 rb.1
  have p1 : x * y ≤ 1000000 * 100 := Int.mul_le_mul hx1 rb.2 rb.1 (by decide)
  have q1 : ((if c < 0 then 0 else c) * r / 100).toInt = x * y / 100 := s_div (s_mul e1 tr (by omega)) rfl (by omega) (by decide)
  have q2 : (moreL 0 C * R / 100).toInt = x * y / 100 := g_div (g_mul e2 hy (by omega)) rfl (by omega) (by decide)
  have q3 : 0 ≤ x * y / 100 := Int.ediv_nonneg p0 (by decide)
  obtain ⟨z, hz⟩ : ∃ z, x * y / 100 = z := ⟨_, rfl⟩
  rw [hz] at q1 q2 q3
  unfold nmV lessL
  generalize (if c < 0 then 0 else c) * r / 100 = A at q1
  generalize moreL 0 C * R / 100 = B at q2
  by_cases h : A < l
  · rw [if_pos h]
    rw [Int32.lt_iff_toInt_lt, q1, tl] at h
    refine ⟨e64 ?_, by omega, by omega⟩
    rw [if_neg (by rw [Int64.lt_iff_toInt_lt, q2]; omega), q1, q2]
  · rw [if_neg h]
    rw [Int32.lt_iff_toInt_lt, q1, tl] at h
    refine ⟨e64 ?_, by omega, by omega⟩
    by_cases h2 : L < B
    · rw [if_pos h2]; exact tl
    · rw [if_neg h2]
      rw [Int64.lt_iff_toInt_lt, q2] at h2
      omega

def givR (S : Mem) (w : Nat → Int64) (q o : Nat) : Prop := (∀ j, j < 2 → (S.1 (q + 1) j).toInt64 = w (o + j)) ∧ (∀ j, j < 4 → S.2 (q + 2) j = w (o + 2 + j)) ∧ (S.1 q 3).toInt64 = w (o + 6) ∧ S.2 (q + 5) 0 = w (o + 7) ∧ (∀ j, 1 ≤ j → j < 4 → S.2 (q + 5) j = w (o + 8 + j)) ∧ (S.1 q 4).toInt64 = w (o + 12) ∧ (S.1 (q + 3) 0).toInt64 = w (o + 13) ∧ (S.1 (q + 3) 1).toInt64 = (if w (o + 13) = 0 then 0 else w (o + 14))
def rgM (w : Nat → Int64) (d : Nat) : Prop := rg w (131 + 55 * d) 50000 ∧ rg w (132 + 55 * d) 100 ∧ rg w (137 + 55 * d) 310000 ∧ rg w (143 + 55 * d) 50000 ∧ rg w (144 + 55 * d) 50000 ∧ rg w (145 + 55 * d) 100
theorem if_cg {α : Type} {P Q : Prop} [Decidable P] [Decidable Q] (h : P ↔ Q) {a b : α} : (if P then a else b) = (if Q then a else b) := by
  by_cases z : P
  · rw [if_pos z, if_pos (h.mp z)]
  · rw [if_neg z, if_neg (fun y => z (h.mpr y))]
theorem rgI {w : Nat → Int64} {i B : Nat} (h : rg w i B) (hB : B < 2 ^ 31) : 0 ≤ (w i).toInt ∧ (w i).toInt ≤ B := by
  obtain ⟨v, a, b⟩ := h
  rw [b, lN_toInt (by omega)]
  omega
theorem ctW_o (w : Nat → Int64) (d : Nat) (way : Int32) {i : Nat} (hi : i < (131 + 55 * d) + 15 ∨ (131 + 55 * d) + 55 ≤ i) : ctW w d way i = w i := by
  unfold ctW losR
  rw [u1L_o _ _ (by omega), u1L_o _ _ (by omega), u1L_o _ _ (by omega), u1L_o _ _ (by omega), u1L_o _ _ (by omega)]
  exact cnR_o w d way 4 (by decide : 4 ≤ 4) i (by omega)
theorem ctW_c (w : Nat → Int64) (d : Nat) (way : Int32) {i : Nat} (hi : i < (131 + 55 * d) + 50) : ctW w d way i = cnR w d way 4 i := by
  unfold ctW losR
  rw [u1L_o _ _ (by omega), u1L_o _ _ (by omega), u1L_o _ _ (by omega), u1L_o _ _ (by omega), u1L_o _ _ (by omega)]
theorem ctW_l (w : Nat → Int64) (d : Nat) (way : Int32) : ctW w d way ((131 + 55 * d) + 50) = cNT w d way ∧ ctW w d way ((131 + 55 * d) + 51) = cTL w d way ∧ ctW w d way ((131 + 55 * d) + 52) = cAB w d way ∧ ctW w d way ((131 + 55 * d) + 53) = w ((131 + 55 * d) + 12) * w (5 + 9 * d + 3) ∧ ctW w d way ((131 + 55 * d) + 54) = cOT w d way := by
  refine ⟨?_, ?_, ?_, ?_, ?_⟩ <;> (unfold ctW losR; repeat (first | rw [u1L_s] | rw [u1L_o _ _ (by omega)]))
theorem fi_eq {S : Mem} {w : Nat → Int64} {q d : Nat} (hg : givR S w q (131 + 55 * d)) (hr : rgM w d) : (fiC S q).toInt64 = fiW w d ∧ -100000 ≤ (fiW w d).toInt ∧ (fiW w d).toInt ≤ 360000 := by
  obtain ⟨g1, g2, g3, g4, g5, g6, g7, g8⟩ := hg
  obtain ⟨r1, r2, r3, r4, r5, r6⟩ := hr
  have a1 := rgI r1 (by decide)
  have a3 := rgI r3 (by decide)
  have a4 := rgI r4 (by decide)
  have a5 := rgI r5 (by decide)
  rw [show 137 + 55 * d = (131 + 55 * d) + 6 by omega] at a3
  rw [show 143 + 55 * d = (131 + 55 * d) + 12 by omega] at a4
  rw [show 144 + 55 * d = (131 + 55 * d) + 13 by omega] at a5
  have e : (fiW w d).toInt = (w (131 + 55 * d)).toInt + (w ((131 + 55 * d) + 6)).toInt - (w ((131 + 55 * d) + 12)).toInt - (w ((131 + 55 * d) + 13)).toInt := g_sub (g_sub (g_add rfl rfl (by omega)) rfl (by omega)) rfl (by omega)
  refine ⟨e64 ?_, by omega, by omega⟩
  rw [e]
  exact s_sub (s_sub (s_add (t64 (g1 0 (by decide))) (t64 g3) (by omega)) (t64 g6) (by omega)) (t64 g7) (by omega)
theorem canC_W {S : Mem} {w : Nat → Int64} {q d : Nat} {way : Int32} (hg : givR S w q (131 + 55 * d)) (hr : rgM w d) : canC S q way ↔ canW w d way := by
  have e := (fi_eq hg hr).1
  have z : (0 : Int32).toInt64 = 0 := rfl
  unfold canC canW
  rw [lt64 e z, le64 (hg.1 0 (by decide)) e]
  exact Iff.rfl
theorem dn_eq {S : Mem} {w : Nat → Int64} {d k : Nat} (hT : depT S w d) (hw : WFd w d) (hk : k < 4) (f : Int64) : dnC S (4 + 17 * d) k f = dnW w d k f := by
  obtain ⟨-, -, -, -, ⟨m, m2, a5, a6, a7⟩, -, -⟩ := hT
  obtain ⟨-, -, -, -, ⟨m', m2', h5, h6, h7⟩, -⟩ := hw
  have em : m' = m := (lN_eq (by omega) (by omega)).mp (h5.symm.trans a6)
  subst em
  have key : ∀ j, 1 ≤ j → j < 3 → ((¬ S.1 (4 + 17 * d) 4 < nI j ∧ S.2 ((4 + 17 * d) + 1) (j - 1) ≤ f) ↔ (¬ w (5 + 9 * d + 4 + j) = -1 ∧ w (5 + 9 * d + 4 + j) ≤ f)) := fun j j1 j3 => by
    rw [a5, nI_ltI (by omega) (by omega), show 5 + 9 * d + 4 + j = 5 + 9 * d + 5 + (j - 1) by omega]
    by_cases h : m' < j
    · have := h7 (j - 1) (by omega) (by omega)
      exact ⟨fun z => absurd h z.1, fun z => absurd this z.1⟩
    · obtain ⟨v, v1, v2⟩ := h6 (j - 1) (by omega)
      have e := a7 (j - 1) (by omega)
      rw [show 4 + 17 * d + 1 = 5 + 17 * d by omega, e]
      refine ⟨fun z => ⟨fun y => ?_, z.2⟩, fun z => ⟨h, z.2⟩⟩
      rw [v2] at y
      have := congrArg Int64.toInt y
      rw [lN_toInt (by omega), show ((-1 : Int64)).toInt = -1 from rfl] at this
      omega
  rcases (show k = 0 ∨ k = 3 ∨ k = 1 ∨ k = 2 by omega) with rfl | rfl | rfl | rfl
  · rw [dnW_0]; rfl
  · rw [dnW_3]; rfl
  · rw [dnW_1]
    exact if_cg (key 1 (by decide) (by decide))
  · rw [dnW_2]
    exact if_cg (key 2 (by decide) (by decide))
theorem lb_eq {S : Mem} {w : Nat → Int64} {q d : Nat} (hg : givR S w q (131 + 55 * d)) (hT : depT S w d) : (lbC S q (4 + 17 * d)).toInt64 = ltW w d := by
  obtain ⟨g1, g2, g3, g4, g5, g6, g7, g8⟩ := hg
  unfold lbC ltW
  by_cases z : w ((131 + 55 * d) + 13) = 0
  · have e : S.1 (q + 3) 0 = 0 := (eq64 g7 (show (0 : Int32).toInt64 = 0 from rfl)).mpr z
    rw [e, z]
    split <;> split <;> rfl
  · rw [if_neg z] at g8
    by_cases h : w ((131 + 55 * d) + 14) < w (5 + 9 * d + 1)
    · rw [if_pos h, if_pos ((lt64 g8 hT.2.1).mpr h)]; rfl
    · rw [if_neg h, if_neg (fun y => h ((lt64 g8 hT.2.1).mp y))]; exact g7
def obC (S : Mem) (q k : Nat) : Int32 := if S.1 (q + 1) 1 < S.1 k 1 then 0 else S.1 (q + 1) 0
theorem ob_eq {S : Mem} {w : Nat → Int64} {q d : Nat} (hg : givR S w q (131 + 55 * d)) (hT : depT S w d) : (obC S q (4 + 17 * d)).toInt64 = otW w d := by
  unfold obC otW
  by_cases h : w ((131 + 55 * d) + 1) < w (5 + 9 * d + 1)
  · rw [if_pos h, if_pos ((lt64 (hg.1 1 (by decide)) hT.2.1).mpr h)]; rfl
  · rw [if_neg h, if_neg (fun y => h ((lt64 (hg.1 1 (by decide)) hT.2.1).mp y))]; exact hg.1 0 (by decide)
theorem cmC_b (S : Mem) (q k : Nat) : cmC S q k = S.1 q 5 + S.1 q 4 + lbC S q k - obC S q k := by
  have e1 : cm1 S q k = S.1 q 5 + S.1 q 4 + lbC S q k := by
    unfold cm1 lbC
    split
    · rw [Int32.add_zero]
    · rfl
  unfold cmC obC
  rw [e1]
  split
  · rw [Int32.sub_zero]
  · rfl
theorem mon_ints {S : Mem} {w : Nat → Int64} {q d : Nat} {way : Int32} (hg : givR S w q (131 + 55 * d)) (hr : rgM w d) (hT : depT S w d) (hw : WFd w d) (hR : recR S q (4 + 17 * d) way) : (S.1 q 5).toInt64 = fiW w d ∧ (S.1 q 6).toInt64 = cmW w d ∧ (S.1 q 7).toInt64 = nmW w d ∧ (S.1 q 4 - S.1 q 7).toInt64 = w ((131 + 55 * d) + 12) - nmW w d ∧ (brC S q (4 + 17 * d)).toInt64 = ltW w d + fiW w d := by
  obtain ⟨-, b1, b2, b3, -, -, -, -⟩ := hR
  obtain ⟨f1, f2, f3⟩ := fi_eq hg hr
  rw [← b1] at f1
  have l1 := lb_eq hg hT
  have o1 := ob_eq hg hT
  obtain ⟨g1, g2, g3, g4, g5, g6, g7, g8⟩ := hg
  obtain ⟨r1, r2, r3, r4, r5, r6⟩ := hr
  have a1 := rgI r1 (by decide)
  have a4 := rgI r4 (by decide)
  have a5 := rgI r5 (by decide)
  rw [show 143 + 55 * d = (131 + 55 * d) + 12 by omega] at a4
  rw [show 144 + 55 * d = (131 + 55 * d) + 13 by omega] at a5
  have z0 : (0 : Int64).toInt = 0 := rfl
  have lr : 0 ≤ (ltW w d).toInt ∧ (ltW w d).toInt ≤ 50000 := by
    unfold ltW; split
    · rw [z0]; omega
    · omega
  have br : 0 ≤ (otW w d).toInt ∧ (otW w d).toInt ≤ 50000 := by
    unfold otW; split
    · rw [z0]; omega
    · omega
  have ec : (cmW w d).toInt = (fiW w d).toInt + (w ((131 + 55 * d) + 12)).toInt + (ltW w d).toInt - (otW w d).toInt := g_sub (g_add (g_add rfl rfl (by omega)) rfl (by omega)) rfl (by omega)
  have c1 : (cmC S q (4 + 17 * d)).toInt64 = cmW w d := by
    refine e64 ?_
    rw [ec, cmC_b]
    exact s_sub (s_add (s_add (t64 f1) (t64 g6) (by omega)) (t64 l1) (by omega)) (t64 o1) (by omega)
  obtain ⟨-, -, ⟨v, v1, v2⟩, -, -, -⟩ := hw
  have rr : 0 ≤ (w (5 + 9 * d + 2)).toInt ∧ (w (5 + 9 * d + 2)).toInt ≤ 100 := by rw [v2, lN_toInt (by omega)]; omega
  obtain ⟨n1, n2, n3⟩ := nm_eq c1 hT.2.2.1 g6 (by omega) rr a4.1
  have n1' : (S.1 q 7).toInt64 = nmW w d := by rw [b3]; exact n1
  have n4 := t64 n1'
  have n5 : S.1 q 7 = nmV (cmC S q (4 + 17 * d)) (S.1 (4 + 17 * d) 2) (S.1 q 4) := b3
  rw [← n5] at n2 n3
  refine ⟨f1, by rw [b2]; exact c1, n1', e64 ?_, e64 ?_⟩
  · rw [s_sub (t64 g6) n4 (by omega), g_sub rfl rfl (by omega)]
  · have : (ltW w d + fiW w d).toInt = (ltW w d).toInt + (fiW w d).toInt := g_add rfl rfl (by omega)
    rw [this]
    exact s_add (t64 l1) (t64 f1) (by omega)
theorem ntV_eq (x : Int64) : ntV x = moreL 0 x := by
  unfold ntV moreL
  have z0 : (0 : Int64).toInt = 0 := rfl
  by_cases h : 0 < x
  · rw [if_pos h, if_neg (by rw [Int64.lt_iff_toInt_lt, z0] at *; omega)]
  · rw [if_neg h]
    by_cases h2 : x < 0
    · rw [if_pos h2]
    · rw [if_neg h2]
      apply Int64.toInt_inj.mp
      rw [Int64.lt_iff_toInt_lt, z0] at *
      omega
set_option maxHeartbeats 1000000 in
theorem monR_of {S : Mem} {w : Nat → Int64} {q d : Nat} {way : Int32} (hy : way = 0 ∨ way = 1) (hg : givR S w q (131 + 55 * d)) (hr : rgM w d) (hT : depT S w d) (hw : WFd w d) (hR : recR S q (4 + 17 * d) way) : monR S (ctW w d way) q (131 + 55 * d) := by
  obtain ⟨i5, i6, i7, i47, ibr⟩ := mon_ints hg hr hT hw hR
  have l1 := lb_eq hg hT
  have dn := fun k (hk : k < 4) f => dn_eq hT hw hk f
  obtain ⟨K, -, -, -, n14, n15, n16, n17⟩ := hR
  obtain ⟨g1, g2, g3, g4, g5, g6, g7, g8⟩ := hg
  have lf : ∀ j, j < 4 → S.2 (q + 7) j = lfW w d j := fun j hj => by
    rw [(K j hj).2.1]
    unfold ldC lfW
    by_cases z : w ((131 + 55 * d) + 13) = 0
    · rw [g7, z, Int64.zero_mul, Int64.zero_mul]
    · rw [if_neg z] at g8
      rw [g7, g8, dn j hj]
  have ls : ∀ j, j < 4 → S.2 (q + 8) j = lsW w d j := fun j hj => by
    rw [(K j hj).2.2.1]
    unfold sdC lsW
    rw [g6, hT.2.1, dn j hj]
  have fn : ∀ j, j < 4 → S.2 (q + 6) j = fnW w d way j := fun j hj => by
    rw [(K j hj).1]
    unfold fdC fnW
    have g11 := g1 1 (by decide)
    have g10 := g1 0 (by decide)
    rw [show (131 + 55 * d) + 0 = (131 + 55 * d) from rfl] at g10
    by_cases z : way = 0
    · rw [if_pos z, if_pos z, i5, g10, g11, dn j hj]
    · rw [if_neg z, if_neg z, i5, Int64.sub_zero]
  have pl : ∀ j, j < 4 → plC S q j way = plW w d way j := fun j hj => by
    unfold plC plW
    have e1 : S.2 (q + 5) j = (if j = 0 then w ((131 + 55 * d) + 7) else w ((131 + 55 * d) + (8 + j))) := by
      by_cases z : j = 0
      · rw [if_pos z, z]; exact g4
      · rw [if_neg z, g5 j (by omega) hj, show (131 + 55 * d) + 8 + j = (131 + 55 * d) + (8 + j) by omega]
    have e2 : S.2 (q + 2) j = w ((131 + 55 * d) + (2 + j)) := by rw [g2 j hj, show (131 + 55 * d) + 2 + j = (131 + 55 * d) + (2 + j) by omega]
    rw [e1, e2]
    rcases hy with rfl | rfl
    · rw [if_pos rfl, if_neg (show ¬ (0 : Int32) = 1 by decide), Int64.add_zero]
    · rw [if_neg (show ¬ (1 : Int32) = 0 by decide), if_pos rfl]
  have al : ∀ j, j < 4 → alC S q j = alW w d way j := fun j hj => by
    unfold alC alW
    rw [lf j hj, ls j hj, fn j hj, Int64.add_assoc, Int64.add_comm]
  have tl : ∀ j, j < 4 → S.2 (q + 4) j = tlW w d way j := fun j hj => by
    rw [(K j hj).2.2.2.2.1]
    unfold rsC tlW
    rw [pl j hj, al j hj, lf j hj]
  have ts : ∀ j, j < 4 → S.2 (q + 11) j = tsW w d way j := fun j hj => by
    rw [(K j hj).2.2.2.2.2.1]
    unfold lsC tsW
    rw [pl j hj, al j hj, ls j hj]
  have tf : ∀ j, j < 4 → S.2 (q + 10) j = tfW w d way j := fun j hj => by
    have e1 := (K j hj).2.2.2.2.1
    have e2 := (K j hj).2.2.2.2.2.1
    rw [(K j hj).2.2.2.2.2.2]
    unfold fnC tfW
    rw [← e1, ← e2, pl j hj, tl j hj, ts j hj, g2 j hj, show (131 + 55 * d) + 2 + j = (131 + 55 * d) + (2 + j) by omega]
    by_cases z : way = 0
    · rw [if_pos z, if_pos z]
    · rw [if_neg z, if_neg z, Int64.add_zero]
  have aL : olC S q = cAL w d way := sumN_congr (fun j hj => ts j hj)
  have oN : onC S q = cFN w d way := by unfold onC cFN; rw [aL, i7, g6]
  have nT : ntC S q (4 + 17 * d) = cNT w d way := by unfold ntC cNT lsN; rw [oN, i7, hT.2.2.2.1, ntV_eq]
  have tL : tlC S q (4 + 17 * d) = cTL w d way := by unfold tlC cTL lsT; rw [nT, l1, ibr]
  have bz : brC S q (4 + 17 * d) = 0 ↔ ltW w d + fiW w d = 0 := eq64 ibr (show (0 : Int32).toInt64 = 0 from rfl)
  have ab : abC S q (4 + 17 * d) = cAL w d way - cFN w d way - (w ((131 + 55 * d) + 12) - nmW w d) * w (5 + 9 * d + 3) := by unfold abC; rw [aL, oN, i47, hT.2.2.2.1]
  have aB : aaC S q (4 + 17 * d) = cAB w d way := by
    unfold aaC cAB lsA
    rw [ab, nT]
    exact if_cg bz
  have oT : ouC S q (4 + 17 * d) = cOT w d way := by
    unfold ouC cOT lsO
    rw [nT, tL, show sumN (S.2 (q + 10)) 4 = cOU w d way from sumN_congr (fun j hj => tf j hj)]
    by_cases z : brC S q (4 + 17 * d) = 0
    · rw [if_pos z, if_pos (bz.mp z), Int64.add_zero]
    · rw [if_neg z, if_neg (fun y => z (bz.mpr y))]
  obtain ⟨c1, c2, c3, c4, c5⟩ := ctW_l w d way
  obtain ⟨h1, h2, h3⟩ := cnR_h w d way 4 (by decide : 4 ≤ 4)
  have o := fun i (hi : i < (131 + 55 * d) + 15) => ctW_o w d way (i := i) (Or.inl hi)
  refine ⟨⟨fun j hj => ?_, fun j hj => ?_, ?_, ?_, fun j j1 j2 => ?_, ?_, ?_, ?_⟩, ?_, ?_, ?_, fun j hj => ?_, ?_, ?_, ?_, ?_⟩
  · rw [o _ (by omega)]; exact g1 j hj
  · rw [o _ (by omega)]; exact g2 j hj
  · rw [o _ (by omega)]; exact g3
  · rw [o _ (by omega)]; exact g4
  · rw [o _ (by omega)]; exact g5 j j1 j2
  · rw [o _ (by omega)]; exact g6
  · rw [o _ (by omega)]; exact g7
  · rw [o _ (by omega), o _ (by omega)]; exact g8
  · rw [ctW_c w d way (by omega), h1]; exact i5
  · rw [ctW_c w d way (by omega), h2]; exact i7
  · rw [ctW_c w d way (by omega), h3]; exact i6
  · obtain ⟨⟨v1, v2, v3, v4⟩, v5, v6, v7, v8⟩ := cnR_v w d way (j := j) 4 (by decide : 4 ≤ 4) hj
    rw [show (131 + 55 * d) + 18 + 4 * j = (131 + 55 * d) + (18 + 4 * j) by omega, show (131 + 55 * d) + 19 + 4 * j = (131 + 55 * d) + (18 + 4 * j) + 1 by omega, show (131 + 55 * d) + 20 + 4 * j = (131 + 55 * d) + (18 + 4 * j) + 2 by omega, show (131 + 55 * d) + 21 + 4 * j = (131 + 55 * d) + (18 + 4 * j) + 3 by omega, show (131 + 55 * d) + 34 + 4 * j = (131 + 55 * d) + (34 + 4 * j) by omega, show (131 + 55 * d) + 35 + 4 * j = (131 + 55 * d) + (34 + 4 * j) + 1 by omega, show (131 + 55 * d) + 36 + 4 * j = (131 + 55 * d) + (34 + 4 * j) + 2 by omega, show (131 + 55 * d) + 37 + 4 * j = (131 + 55 * d) + (34 + 4 * j) + 3 by omega]
    rw [ctW_c w d way (by omega), ctW_c w d way (by omega), ctW_c w d way (by omega), ctW_c w d way (by omega), ctW_c w d way (by omega), ctW_c w d way (by omega), ctW_c w d way (by omega), ctW_c w d way (by omega), v1, v2, v3, v4, v5, v6, v7, v8]
    refine ⟨?_, (fn j hj).symm, (lf j hj).symm, (ls j hj).symm, ?_, (tf j hj).symm, (tl j hj).symm, (ts j hj).symm⟩
    · rw [← al j hj]; rfl
    · rw [(K j hj).2.2.2.1]; exact (pl j hj).symm
  · rw [c1, n14]; exact nT.symm
  · rw [c2, n15]; exact tL.symm
  · rw [c3, n16]; exact aB.symm
  · rw [c5, n17]; exact oT.symm
