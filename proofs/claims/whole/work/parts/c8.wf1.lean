/-! ===== cents and units of a month, as numbers: what comes out is no more than what came in ===== -/
theorem mulI {A B : Int64} {x y X Y : Int} (ha : A.toInt = x) (hb : B.toInt = y) (x0 : 0 ≤ x) (x1 : x ≤ X) (y0 : 0 ≤ y) (y1 : y ≤ Y) (h : X * Y ≤ 9223372036854775807) : (A * B).toInt = x * y ∧ 0 ≤ x * y ∧ x * y ≤ X * Y := by
  have p0 : 0 ≤ x * y := Int.mul_nonneg x0 y0
  have p1 : x * y ≤ X * Y := Int.mul_le_mul x1 y1 y0 (Int.le_trans x0 x1)
  exact ⟨g_mul ha hb (by omega), p0, p1⟩
theorem ne0I {C : Int64} {z : Int} (hc : C.toInt = z) (z0 : 0 ≤ z) (h : ¬ C = 0) : 1 ≤ z := by
  rcases Int.lt_or_le z 1 with g | g
  · exact absurd (Int64.toInt_inj.mp (show C.toInt = (0 : Int64).toInt by rw [hc, L0]; omega)) h
  · exact g
theorem cutI {A B C : Int64} {x y z : Int} (ha : A.toInt = x) (hb : B.toInt = y) (hc : C.toInt = z) (x0 : 0 ≤ x) (y0 : 0 ≤ y) (yz : y ≤ z) (h : x * y ≤ 9223372036854775807) : ∃ q : Int, (cut A B C).toInt = q ∧ 0 ≤ q ∧ q ≤ x ∧ q * z ≤ x * y := by
  have xy : x * y ≤ x * z := Int.mul_le_mul_of_nonneg_left yz x0
  have xy0 : 0 ≤ x * y := Int.mul_nonneg x0 y0
  unfold cut
  by_cases z0 : C = 0
  · rw [if_pos z0]
    exact ⟨0, rfl, Int.le_refl _, x0, by omega⟩
  · rw [if_neg z0]
    have z1 : 1 ≤ z := ne0I hc (by omega) z0
    have e := g_div (g_mul ha hb (by omega)) hc (by omega) z1
    refine ⟨x * y / z, e, Int.ediv_nonneg xy0 (by omega), ?_, Int.ediv_mul_le _ (by omega)⟩
    have h1 : x * y / z ≤ x * z / z := Int.ediv_le_ediv (by omega) xy
    rw [Int.mul_ediv_cancel _ (by omega)] at h1
    exact h1
theorem i64_le (A : Int64) : -9223372036854775808 ≤ A.toInt ∧ A.toInt ≤ 9223372036854775807 := by
  have a := Int64.le_toInt A
  have b := Int64.toInt_lt A
  omega
/-- a quotient of what may be below 0 -/
theorem tdivI {p z x : Int} (z1 : 1 ≤ z) (h : (if 0 ≤ p then p else -p) ≤ x * z) : -x ≤ p.tdiv z ∧ p.tdiv z ≤ x ∧ (0 ≤ p → 0 ≤ p.tdiv z) ∧ (p ≤ 0 → p.tdiv z ≤ 0) := by
  have key : ∀ q : Int, 0 ≤ q → q ≤ x * z → 0 ≤ q / z ∧ q / z ≤ x := fun q q0 q1 => by
    refine ⟨Int.ediv_nonneg q0 (by omega), ?_⟩
    have h1 : q / z ≤ x * z / z := Int.ediv_le_ediv (by omega) q1
    rw [Int.mul_ediv_cancel _ (by omega)] at h1
    exact h1
  rcases Int.lt_or_le p 0 with g | g
  · rw [if_neg (by omega)] at h
    obtain ⟨a, b⟩ := key (-p) (by omega) h
    have e : p.tdiv z = -((-p) / z) := by
      rw [← Int.tdiv_eq_ediv_of_nonneg (show 0 ≤ -p by omega), Int.neg_tdiv, Int.neg_neg]
    rw [e]
    exact ⟨by omega, by omega, fun y => absurd y (by omega), fun _ => by omega⟩
  · rw [if_pos g] at h
    obtain ⟨a, b⟩ := key p g h
    rw [Int.tdiv_eq_ediv_of_nonneg g]
    exact ⟨by omega, b, fun _ => a, fun y => by
      have : p = 0 := by omega
      rw [this, Int.zero_ediv]; exact Int.le_refl _⟩
/-- whatever wraps: a part is never more than the whole -/
theorem cutA {A B C : Int64} {x y z : Int} (ha : A.toInt = x) (hb : B.toInt = y) (hc : C.toInt = z) (x0 : 0 ≤ x) (y0 : 0 ≤ y) (yz : y ≤ z) : -x ≤ (cut A B C).toInt ∧ (cut A B C).toInt ≤ x := by
  by_cases h : x * y ≤ 9223372036854775807
  · obtain ⟨q, e, q0, q1, -⟩ := cutI ha hb hc x0 y0 yz h
    rw [e]; omega
  · unfold cut
    by_cases z0 : C = 0
    · rw [if_pos z0, L0]; omega
    · rw [if_neg z0]
      have z1 : 1 ≤ z := ne0I hc (by omega) z0
      have xy : x * y ≤ x * z := Int.mul_le_mul_of_nonneg_left yz x0
      obtain ⟨p, hp⟩ : ∃ p, (A * B).toInt = p := ⟨_, rfl⟩
      have pb := i64_le (A * B)
      rw [hp] at pb
      obtain ⟨a, b, -, -⟩ := tdivI (p := p) (x := x) z1 (by split <;> omega)
      have xb := i64_le A
      rw [ha] at xb
      rw [Int64.toInt_div, hp, hc, Int.bmod_eq_of_le (by omega) (by omega)]
      exact ⟨a, b⟩
/-- a part of what may be below 0 lies between 0 and it -/
theorem cutS {A B C : Int64} {x y z : Int} (ha : A.toInt = x) (hb : B.toInt = y) (hc : C.toInt = z) (y0 : 0 ≤ y) (yz : y ≤ z) (z1 : 1 ≤ z) (h1 : x * z ≤ 9223372036854775807) (h2 : -x * z ≤ 9223372036854775807) : ∃ q : Int, (cut A B C).toInt = q ∧ (0 ≤ x → 0 ≤ q ∧ q ≤ x) ∧ (x ≤ 0 → x ≤ q ∧ q ≤ 0) ∧ (y = z → q = x) := by
  unfold cut
  rw [if_neg (fun e => by rw [e, L0] at hc; omega)]
  have hm : (if 0 ≤ x * y then x * y else -(x * y)) ≤ (if 0 ≤ x then x else -x) * z := by
    rcases Int.lt_or_le x 0 with g | g
    · have a1 : 0 ≤ -x * y := Int.mul_nonneg (by omega) y0
      have a2 : -x * y ≤ -x * z := Int.mul_le_mul_of_nonneg_left yz (by omega)
      have a3 : -x * y = -(x * y) := Int.neg_mul _ _
      rw [if_neg (show ¬ 0 ≤ x by omega)]
      split <;> omega
    · have a1 : 0 ≤ x * y := Int.mul_nonneg g y0
      have a2 : x * y ≤ x * z := Int.mul_le_mul_of_nonneg_left yz g
      rw [if_pos g, if_pos a1]; exact a2
  have hr : -9223372036854775808 ≤ x * y ∧ x * y ≤ 9223372036854775807 := by
    have : (if 0 ≤ x then x else -x) * z ≤ 9223372036854775807 := by split <;> assumption
    revert hm
    split <;> omega
  have e1 := g_mul ha hb hr
  obtain ⟨a, b, c, d⟩ := tdivI z1 hm
  have xb := i64_le A
  rw [ha] at xb
  have z0' : -z * 0 = 0 := Int.mul_zero _
  rw [Int64.toInt_div, e1, hc]
  have sx : 0 ≤ x → 0 ≤ x * y := fun g => Int.mul_nonneg g y0
  have sn : x ≤ 0 → x * y ≤ 0 := fun g => by
    have a1 : 0 ≤ -x * y := Int.mul_nonneg (by omega) y0
    rw [Int.neg_mul] at a1; omega
  have hb' : -9223372036854775808 ≤ (x * y).tdiv z ∧ (x * y).tdiv z ≤ 9223372036854775807 := by
    rcases Int.lt_or_le x 0 with g | g
    · have := d (sn (by omega))
      rw [if_neg (show ¬ 0 ≤ x by omega)] at a; omega
    · have := c (sx g)
      rw [if_pos g] at b; omega
  rw [Int.bmod_eq_of_le (by omega) (by omega)]
  refine ⟨_, rfl, fun g => ?_, fun g => ?_, fun e => ?_⟩
  · rw [if_pos g] at b; exact ⟨c (sx g), b⟩
  · refine ⟨?_, d (sn g)⟩
    rcases Int.lt_or_le x 0 with g' | g'
    · rw [if_neg (show ¬ 0 ≤ x by omega)] at a; omega
    · have x0 : x = 0 := by omega
      rw [x0, Int.zero_mul, Int.zero_tdiv]; exact Int.le_refl _
  · rw [e, Int.mul_tdiv_cancel _ (by omega)]
theorem moreI {A : Int64} {x : Int} (ha : A.toInt = x) : (moreL 0 A).toInt = (if x < 0 then 0 else x) := by
  unfold moreL
  by_cases h : A < 0
  · rw [if_pos h]
    rw [Int64.lt_iff_toInt_lt, ha, L0] at h
    rw [if_pos h, L0]
  · rw [if_neg h]
    rw [Int64.lt_iff_toInt_lt, ha, L0] at h
    rw [if_neg h, ha]
theorem lessI {A B : Int64} {x y : Int} (ha : A.toInt = x) (hb : B.toInt = y) : (lessL A B).toInt = (if x < y then x else y) := by
  unfold lessL
  by_cases h : A < B
  · rw [if_pos h]
    rw [Int64.lt_iff_toInt_lt, ha, hb] at h
    rw [if_pos h, ha]
  · rw [if_neg h]
    rw [Int64.lt_iff_toInt_lt, ha, hb] at h
    rw [if_neg h, hb]
theorem dn_I {w : Nat → Int64} {d k : Nat} (hk : k < 4) {f : Int64} (f0 : 0 ≤ f.toInt) (f1 : f.toInt ≤ 100) : 0 ≤ (dnW w d k f).toInt ∧ (dnW w d k f).toInt ≤ 100 := by
  have h100 : (100 : Int64).toInt = 100 := rfl
  have key : ∀ P : Prop, ∀ [Decidable P], 0 ≤ (if P then (100 : Int64) else 0).toInt ∧ (if P then (100 : Int64) else 0).toInt ≤ 100 := fun P _ => by
    split
    · rw [h100]; omega
    · rw [L0]; omega
  rcases (show k = 0 ∨ k = 3 ∨ k = 1 ∨ k = 2 by omega) with rfl | rfl | rfl | rfl
  · rw [dnW_0, h100]; omega
  · rw [dnW_3]; exact ⟨f0, f1⟩
  · rw [dnW_1]; exact key _
  · rw [dnW_2]; exact key _
/-- the units of a month -/
def mnI (w : Nat → Int64) (d : Nat) (F : Int) : Prop := rgM w d ∧ WFd w d ∧ (fiW w d).toInt = F ∧ 0 ≤ F ∧ F ≤ 360000
theorem mnI_of {w : Nat → Int64} {d : Nat} {way : Int32} (hr : rgM w d) (hw : WFd w d) (can : canW w d way) : ∃ F, mnI w d F ∧ F = (w (131 + 55 * d)).toInt + (w ((131 + 55 * d) + 6)).toInt - (w ((131 + 55 * d) + 12)).toInt - (w ((131 + 55 * d) + 13)).toInt := by
  obtain ⟨r1, r2, r3, r4, r5, r6⟩ := id hr
  have a1 := rgI r1 (by decide)
  have a3 := rgI r3 (by decide)
  have a4 := rgI r4 (by decide)
  have a5 := rgI r5 (by decide)
  rw [show 137 + 55 * d = (131 + 55 * d) + 6 by omega] at a3
  rw [show 143 + 55 * d = (131 + 55 * d) + 12 by omega] at a4
  rw [show 144 + 55 * d = (131 + 55 * d) + 13 by omega] at a5
  have e : (fiW w d).toInt = (w (131 + 55 * d)).toInt + (w ((131 + 55 * d) + 6)).toInt - (w ((131 + 55 * d) + 12)).toInt - (w ((131 + 55 * d) + 13)).toInt := g_sub (g_sub (g_add rfl rfl (by omega)) rfl (by omega)) rfl (by omega)
  have c := can.1
  rw [Int64.lt_iff_toInt_lt, e, L0] at c
  exact ⟨_, ⟨hr, hw, e, by omega, by omega⟩, rfl⟩
set_option maxHeartbeats 1000000 in
theorem kind_I {w : Nat → Int64} {d k : Nat} {way : Int32} {F P Q : Int} (hk : k < 4) (hm : mnI w d F) (can : canW w d way) (hway : way = 0 ∨ way = 1) (hP : (if k = 0 then w ((131 + 55 * d) + 7) else w ((131 + 55 * d) + (8 + k))).toInt = P) (hQ : (w ((131 + 55 * d) + (2 + k))).toInt = Q) (P0 : 0 ≤ P) (Q0 : 0 ≤ Q) (PQ : P + Q ≤ 60000000000) :
    ∃ x y z : Int, (tlW w d way k).toInt = x ∧ (tsW w d way k).toInt = y ∧ (tfW w d way k).toInt = z ∧ 0 ≤ x ∧ 0 ≤ y ∧ 0 ≤ z ∧ x + y + z = P + Q := by
  obtain ⟨⟨r1, r2, r3, r4, r5, r6⟩, ⟨-, ⟨pt, pt1, pt2⟩, -⟩, hF, F0, F1⟩ := hm
  have a1 := rgI r1 (by decide)
  have a2 := rgI r2 (by decide)
  have a4 := rgI r4 (by decide)
  have a5 := rgI r5 (by decide)
  have a6 := rgI r6 (by decide)
  rw [show 132 + 55 * d = (131 + 55 * d) + 1 by omega] at a2
  rw [show 143 + 55 * d = (131 + 55 * d) + 12 by omega] at a4
  rw [show 144 + 55 * d = (131 + 55 * d) + 13 by omega] at a5
  rw [show 145 + 55 * d = (131 + 55 * d) + 14 by omega] at a6
  have ap : (w (5 + 9 * d + 1)).toInt = (pt : Int) := by rw [pt2, lN_toInt (by omega)]
  have d1 := dn_I (w := w) (d := d) hk a6.1 a6.2
  have d2 := dn_I (w := w) (d := d) (f := w (5 + 9 * d + 1)) hk (by omega) (by omega)
  have d3 := dn_I (w := w) (d := d) hk a2.1 a2.2
  obtain ⟨el, l0, l1⟩ := mulI (A := w ((131 + 55 * d) + 13)) (B := dnW w d k (w ((131 + 55 * d) + 14))) rfl rfl a5.1 a5.2 d1.1 d1.2 (by decide)
  obtain ⟨es, s0, s1⟩ := mulI (A := w ((131 + 55 * d) + 12)) (B := dnW w d k (w (5 + 9 * d + 1))) rfl rfl a4.1 a4.2 d2.1 d2.2 (by decide)
  obtain ⟨eo, o0, o1⟩ := mulI (A := w (131 + 55 * d)) (B := dnW w d k (w ((131 + 55 * d) + 1))) rfl rfl a1.1 a1.2 d3.1 d3.2 (by decide)
  obtain ⟨L, hL⟩ : ∃ L, (lfW w d k).toInt = L := ⟨_, rfl⟩
  obtain ⟨T, hT⟩ : ∃ T, (lsW w d k).toInt = T := ⟨_, rfl⟩
  have hL' : L = (w ((131 + 55 * d) + 13)).toInt * (dnW w d k (w ((131 + 55 * d) + 14))).toInt := hL.symm.trans el
  have hT' : T = (w ((131 + 55 * d) + 12)).toInt * (dnW w d k (w (5 + 9 * d + 1))).toInt := hT.symm.trans es
  rw [← hL'] at l0 l1
  rw [← hT'] at s0 s1
  have e100 : (100 * fiW w d).toInt = 100 * F := g_mul rfl hF (by omega)
  obtain ⟨G, hG, G0, G1⟩ : ∃ G, (fnW w d way k).toInt = G ∧ 0 ≤ G ∧ G ≤ 36000000 := by
    unfold fnW
    rcases hway with rfl | rfl
    · rw [if_pos rfl]
      have c := can.2 rfl
      rw [Int64.le_iff_toInt_le, hF] at c
      have o2 : (w (131 + 55 * d)).toInt * (dnW w d k (w ((131 + 55 * d) + 1))).toInt ≤ (w (131 + 55 * d)).toInt * 100 := Int.mul_le_mul_of_nonneg_left d3.2 a1.1
      exact ⟨_, g_sub e100 eo (by omega), by omega, by omega⟩
    · rw [if_neg (by decide)]
      exact ⟨_, g_sub e100 L0 (by omega), by omega, by omega⟩
  have hA : (alW w d way k).toInt = L + T + G := g_add (g_add hL hT (by omega)) hG (by omega)
  obtain ⟨X, hX, X0, X1, XQ⟩ : ∃ X, (plW w d way k).toInt = X ∧ 0 ≤ X ∧ X ≤ P + Q ∧ X + (if way = 0 then Q else 0) = P + Q := by
    unfold plW
    rcases hway with rfl | rfl
    · rw [if_neg (show ¬ (0 : Int32) = 1 by decide), if_pos rfl]
      exact ⟨_, g_add hP L0 (by omega), by omega, by omega, by omega⟩
    · rw [if_pos rfl, if_neg (show ¬ (1 : Int32) = 0 by decide)]
      exact ⟨_, g_add hP hQ (by omega), by omega, by omega, by omega⟩
  have m1 : X * L ≤ 60000000000 * 5000000 := Int.mul_le_mul (by omega) (by omega) l0 (by decide)
  have m2 : X * T ≤ 60000000000 * 5000000 := Int.mul_le_mul (by omega) (by omega) s0 (by decide)
  obtain ⟨x, hx, x0, x1, xz⟩ := cutI hX hL hA X0 l0 (by omega) (by omega)
  obtain ⟨y, hy, y0, y1, yz⟩ := cutI hX hT hA X0 s0 (by omega) (by omega)
  have xy : x + y ≤ X := by
    rcases Int.lt_or_le 0 (L + T + G) with g | g
    · have q1 : (x + y) * (L + T + G) ≤ X * (L + T + G) := by
        have q2 : (x + y) * (L + T + G) = x * (L + T + G) + y * (L + T + G) := Int.add_mul _ _ _
        have q3 : X * L + X * T ≤ X * (L + T + G) := by
          rw [← Int.mul_add]; exact Int.mul_le_mul_of_nonneg_left (by omega) X0
        omega
      exact Int.le_of_mul_le_mul_right q1 g
    · have g0 : L + T + G = 0 := by omega
      have gc : alW w d way k = 0 := Int64.toInt_inj.mp (by rw [hA, L0]; exact g0)
      have ex : x = 0 := by
        rw [← hx]; unfold cut; rw [if_pos gc]; rfl
      have ey : y = 0 := by
        rw [← hy]; unfold cut; rw [if_pos gc]; rfl
      omega
  have e1 : (plW w d way k - tlW w d way k - tsW w d way k).toInt = X - x - y := g_sub (g_sub hX hx (by omega)) hy (by omega)
  refine ⟨x, y, X - x - y + (if way = 0 then Q else 0), hx, hy, ?_, x0, y0, ?_, by omega⟩
  · unfold tfW
    rcases hway with rfl | rfl
    · rw [if_pos rfl, if_pos rfl]; exact g_add e1 hQ (by rw [if_pos rfl] at XQ; omega)
    · rw [if_neg (show ¬ (1 : Int32) = 0 by decide), if_neg (show ¬ (1 : Int32) = 0 by decide)]; exact g_add e1 L0 (by omega)
  · split <;> omega
