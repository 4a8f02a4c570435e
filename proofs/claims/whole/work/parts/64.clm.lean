/-! ===== the months of the departments ===== -/
theorem recR.move {S T : Mem} {q k : Nat} {way : Int32} (h : recR S q k way) (e0 : T.1 q = S.1 q) (e1 : T.1 (q + 1) = S.1 (q + 1)) (e3 : T.1 (q + 3) = S.1 (q + 3)) (ek : ∀ j, j < 8 → T.1 k j = S.1 k j) (f : T.2 (k + 1) = S.2 (k + 1)) (g : ∀ i, i ≤ 11 → T.2 (q + i) = S.2 (q + i)) : recR T q k way := by
  have d : ∀ i x, dnC T k i x = dnC S k i x := fun i x => dnC_congr (ek 4 (by decide)) f i x
  have k1 := ek 1 (by decide)
  have k2 := ek 2 (by decide)
  have k3 := ek 3 (by decide)
  have g0 : T.2 q = S.2 q := g 0 (by decide)
  have g2 := g 2 (by decide)
  have g4 := g 4 (by decide)
  have g5 := g 5 (by decide)
  have g6 := g 6 (by decide)
  have g7 := g 7 (by decide)
  have g8 := g 8 (by decide)
  have g9 := g 9 (by decide)
  have g10 := g 10 (by decide)
  have g11 := g 11 (by decide)
  have a1 : fiC T q = fiC S q := by unfold fiC; rw [e0, e1, e3]
  have a2 : cmC T q k = cmC S q k := by unfold cmC cm1; rw [e0, e1, e3, k1]
  have a3 : nmC T q k = nmC S q k := by unfold nmC; rw [a2, e0, k2]
  have a4 : olC T q = olC S q := by unfold olC; rw [g11]
  have a5 : onC T q = onC S q := by unfold onC; rw [a4, e0]
  have a6 : ntC T q k = ntC S q k := by unfold ntC; rw [a5, e0, k3]
  have a7 : abC T q k = abC S q k := by unfold abC; rw [a4, a5, e0, k3]
  have a8 : lbC T q k = lbC S q k := by unfold lbC; rw [e3, k1]
  have a9 : brC T q k = brC S q k := by unfold brC; rw [a8, e0]
  have b1 : tlC T q k = tlC S q k := by unfold tlC; rw [a6, a8, a9]
  have b2 : ouC T q k = ouC S q k := by unfold ouC; rw [a6, a9, b1, g10]
  have b3 : aaC T q k = aaC S q k := by unfold aaC; rw [a6, a7, a9]
  obtain ⟨h1, h2, h3, h4, h5, h6, h7, h8⟩ := h
  refine ⟨fun j hj => ?_, ?_, ?_, ?_, ?_, ?_, ?_, ?_⟩
  · obtain ⟨c1, c2, c3, c4, c5, c6, c7⟩ := h1 j hj
    have m1 : fdC T q k j way = fdC S q k j way := by unfold fdC; rw [d, e0, e1]
    have m2 : ldC T q k j = ldC S q k j := by unfold ldC; rw [d, e3]
    have m3 : sdC T q k j = sdC S q k j := by unfold sdC; rw [d, e0, k1]
    have m4 : plC T q j way = plC S q j way := by unfold plC; rw [g5, g2]
    have m5 : alC T q j = alC S q j := by unfold alC; rw [g6, g7, g8]
    have m6 : rsC T q j way = rsC S q j way := by unfold rsC; rw [m4, m5, g7]
    have m7 : lsC T q j way = lsC S q j way := by unfold lsC; rw [m4, m5, g8]
    have m8 : fnC T q j way = fnC S q j way := by unfold fnC; rw [m4, m6, m7, g2]
    unfold kndR
    rw [m1, m2, m3, m4, m6, m7, m8, g4, g6, g7, g8, g9, g10, g11]
    exact ⟨c1, c2, c3, c4, c5, c6, c7⟩
  · rw [e0, a1]; exact h2
  · rw [e0, a2]; exact h3
  · rw [e0, a3]; exact h4
  · rw [g0, a6]; exact h5
  · rw [g0, b1]; exact h6
  · rw [g0, b3]; exact h7
  · rw [g0, b2]; exact h8
def fiV (S : Mem) (k : Nat) (rc : Int32) : Int32 := S.1 (k + 3) 0 + rc - S.1 k 8 - S.1 k 9
def canV (S : Mem) (k : Nat) (rc : Int32) : Prop := ¬ fiV S k rc < 0 ∧ (S.1 k 0 = 0 → S.1 (k + 3) 0 ≤ fiV S k rc)
def rcV (S : Mem) : Nat → Int32
  | 0 => S.1 1 6
  | d + 1 => fiV S (4 + 17 * d) (rcV S d)
def canA (S : Mem) (n : Nat) : Prop := ∀ d, d < n → canV S (4 + 17 * d) (rcV S d)
/-- S' has the month of department k closed, as S told it -/
def depR (S S' : Mem) (k : Nat) (rc : Int32) (ct : Int64) : Prop :=
  (S'.1 (k + 6) 0 = S.1 (k + 3) 0 ∧ S'.1 (k + 6) 1 = S.1 (k + 3) 1 ∧ S'.1 (k + 5) 3 = rc ∧ S'.1 (k + 5) 4 = S.1 k 8 ∧ S'.1 (k + 8) 0 = S.1 k 9 ∧ S'.1 (k + 8) 1 = (if S.1 k 9 = 0 then 0 else S.1 k 10)) ∧ (∀ j, j < 4 → S'.2 (k + 7) j = S.2 (k + 4) j) ∧ S'.2 (k + 10) 0 = ct ∧ (∀ j, 1 ≤ j → j < 4 → S'.2 (k + 10) j = S.2 (k + 2) j) ∧
  recR S' (k + 5) k (S.1 k 0) ∧ (S'.1 (k + 3) 0 = S.1 k 9 ∧ S'.1 (k + 3) 1 = (if S.1 k 9 = 0 then 0 else S.1 k 10) ∧ S'.1 k 8 = 0 ∧ S'.1 k 9 = 0 ∧ S'.1 k 10 = 0) ∧ (∀ j, j < 3 → S'.2 (k + 4) j = S'.2 (k + 9) j) ∧ S'.2 (k + 4) 3 = S'.2 (k + 9) 3 + S'.2 (k + 5) 15 ∧ (∀ j, j < 4 → S'.2 (k + 2) j = 0) ∧ (∀ j, j < 8 → S'.1 k j = S.1 k j) ∧ S'.2 (k + 1) = S.2 (k + 1)
theorem depR.move {S S' T T' : Mem} {k : Nat} {rc : Int32} {ct : Int64} (h : depR S S' k rc ct) (e : ∀ c, k ≤ c → c ≤ k + 16 → T.1 c = S.1 c ∧ T.2 c = S.2 c) (e' : ∀ c, k ≤ c → c ≤ k + 16 → T'.1 c = S'.1 c ∧ T'.2 c = S'.2 c) : depR T T' k rc ct := by
  obtain ⟨h1, h2, h3, h4, h5, h6, h7, h8, h9, h10, h11⟩ := h
  have r := h5.move (T := T') (e' _ (by omega) (by omega)).1 (e' _ (by omega) (by omega)).1 (e' _ (by omega) (by omega)).1 (fun j _ => by rw [(e' _ (by omega) (by omega)).1]) (e' _ (by omega) (by omega)).2 (fun i hi => (e' _ (by omega) (by omega)).2)
  have s0 := e k (by omega) (by omega)
  have s1 := e (k + 1) (by omega) (by omega)
  have s2 := e (k + 2) (by omega) (by omega)
  have s3 := e (k + 3) (by omega) (by omega)
  have s4 := e (k + 4) (by omega) (by omega)
  have x0 := e' k (by omega) (by omega)
  have x1 := e' (k + 1) (by omega) (by omega)
  have x2 := e' (k + 2) (by omega) (by omega)
  have x3 := e' (k + 3) (by omega) (by omega)
  have x4 := e' (k + 4) (by omega) (by omega)
  have x5 := e' (k + 5) (by omega) (by omega)
  have x6 := e' (k + 6) (by omega) (by omega)
  have x7 := e' (k + 7) (by omega) (by omega)
  have x8 := e' (k + 8) (by omega) (by omega)
  have x9 := e' (k + 9) (by omega) (by omega)
  have x10 := e' (k + 10) (by omega) (by omega)
  unfold depR
  rw [s0.1, s1.2, s2.2, s3.1, s4.2, x0.1, x1.2, x2.2, x3.1, x4.2, x5.1, x5.2, x6.1, x7.2, x8.1, x9.2, x10.2]
  exact ⟨h1, h2, h3, h4, r, h6, h7, h8, h9, h10, h11⟩
theorem depR_of {S P R S' : Mem} {k : Nat} {rc : Int32} {ct : Int64} {w : Int32} (p : preC S P k rc ct) (hw : w = S.1 k 0) (r : recR R (k + 5) k w) (r2 : ∀ c, c ≠ k + 5 → R.1 c = P.1 c) (r3 : ∀ j, j < 5 ∨ 7 < j → R.1 (k + 5) j = P.1 (k + 5) j) (r4 : ∀ c, c < k + 5 ∨ (k + 5 < c ∧ c < k + 5 + 4) ∨ c = k + 5 + 5 ∨ k + 5 + 11 < c → R.2 c = P.2 c) (c : cloC R S' k) : depR S S' k rc ct ∧ (∀ c, c < k ∨ k + 16 < c → S'.1 c = S.1 c ∧ S'.2 c = S.2 c) := by
  obtain ⟨⟨p1, p2, p3, p4, p5, p6⟩, p7, p8, p9, p10, p11⟩ := p
  obtain ⟨⟨c1, c2, c3, c4, c5⟩, c6, c7, c8, c9, c10, c11⟩ := c
  subst hw
  refine ⟨⟨⟨?_, ?_, ?_, ?_, ?_, ?_⟩, fun j hj => ?_, ?_, fun j h1 h4 => ?_, ?_, ⟨?_, ?_, c3, c4, c5⟩, fun j hj => ?_, ?_, c8, fun j hj => ?_, ?_⟩, fun c hc => ⟨?_, ?_⟩⟩
  · rw [c10 _ (by omega) (by omega), r2 _ (by omega), p1]
  · rw [c10 _ (by omega) (by omega), r2 _ (by omega), p2]
  · rw [c10 _ (by omega) (by omega), r3 _ (by omega), p3]
  · rw [c10 _ (by omega) (by omega), r3 _ (by omega), p4]
  · rw [c10 _ (by omega) (by omega), r2 _ (by omega), p5]
  · rw [c10 _ (by omega) (by omega), r2 _ (by omega), p6]
  · rw [c11 _ (by omega) (by omega), r4 _ (by omega), p7 j hj]
  · rw [c11 _ (by omega) (by omega), r4 _ (by omega), p8]
  · rw [c11 _ (by omega) (by omega), r4 _ (by omega), p9 j h1 h4]
  · exact r.move (c10 _ (by omega) (by omega)) (c10 _ (by omega) (by omega)) (c10 _ (by omega) (by omega)) (fun j hj => c9 j (by omega)) (c11 _ (by omega) (by omega)) (fun i hi => c11 _ (by omega) (by omega))
  · rw [c1, r2 _ (by omega), p5]
  · rw [c2, r2 _ (by omega), p6]
  · rw [c6 j hj, c11 (k + 9) (by omega) (by omega)]
  · rw [c7, c11 (k + 9) (by omega) (by omega), c11 (k + 5) (by omega) (by omega)]
  · rw [c9 j (by omega), r2 _ (by omega), p10 _ (by omega)]
  · rw [c11 _ (by omega) (by omega), r4 _ (by omega), p11 _ (by omega)]
  · rw [c10 _ (by omega) (by omega), r2 _ (by omega), p10 _ (by omega)]
  · rw [c11 _ (by omega) (by omega), r4 _ (by omega), p11 _ (by omega)]
theorem canC_V {S P : Mem} {k : Nat} {rc : Int32} {ct : Int64} {w : Int32} (p : preC S P k rc ct) (hw : w = S.1 k 0) : canC P (k + 5) w ↔ canV S k rc := by
  obtain ⟨⟨p1, p2, p3, p4, p5, p6⟩, -⟩ := p
  unfold canC canV fiC fiV
  rw [show k + 5 + 1 = k + 6 by omega, show k + 5 + 3 = k + 8 by omega, p1, p3, p4, p5, hw]
theorem depR.fin {S S' : Mem} {k : Nat} {rc : Int32} {ct : Int64} (h : depR S S' k rc ct) : S'.1 (k + 5) 5 = fiV S k rc := by
  obtain ⟨⟨p1, p2, p3, p4, p5, p6⟩, -, -, -, h5, -⟩ := h
  rw [h5.2.1]
  unfold fiC fiV
  rw [show k + 5 + 1 = k + 6 by omega, show k + 5 + 3 = k + 8 by omega, p1, p3, p4, p5]
/-- the cents that department d receives, in S' -/
def ctV (S' : Mem) : Nat → Int64
  | 0 => 0
  | d + 1 => S'.2 (9 + 17 * d) 17
/-- n departments' months are closed -/
def closeR (S S' : Mem) (n : Nat) : Prop := (∀ d, d < n → depR S S' (4 + 17 * d) (rcV S d) (ctV S' d)) ∧ ∀ c, c < 4 ∨ 4 + 17 * n ≤ c → S'.1 c = S.1 c ∧ S'.2 c = S.2 c
def unitR (S S' : Mem) (f : Int32) (n : Nat) : Prop := (∀ p, p < n → S'.1 (89 + 3 * p) 4 = uF S f n p ∧ S'.2 (89 + 3 * p) 5 = woC S' (89 + 3 * p)) ∧ fr1 S S' 4 ∧ fr2 S S' 5
def centR (S S' : Mem) (out : Int64) (n : Nat) : Prop := S'.1 = S.1 ∧ (∃ q, q < n ∧ mnP S q ∧ (∀ p, p < q → ¬ mnP S p) ∧ (∀ p, p < n → mnP S p → S'.2 (89 + 3 * p) 6 = gM S n (opB S out n) p + (if p = q then opB S out n - sumN (gM S n (opB S out n)) n else 0))) ∧ (∀ p, p < n → ¬ mnP S p → S'.2 (89 + 3 * p) 6 = minL (S.2 (89 + 3 * p) 5) (opB S out p)) ∧ fr2 S S' 6
def moveR (S S' : Mem) (l n : Nat) : Prop := S'.1 = S.1 ∧ unR S S'.2 n ∧ ((∃ q, q < n ∧ unP S q ∧ (∀ p, p < q → ¬ unP S p) ∧ (∀ p, p < n → unP S p → S'.2 (89 + 3 * p) 6 = S.2 (89 + 3 * p) 6 + (if p = q then sumN (uuC S) n else 0)) ∧ fr2 S S' 6) ∨ ((∀ p, p < n → ¬ unP S p) ∧ S'.2 (9 + 17 * l) 16 = S.2 (9 + 17 * l) 16 + sumN (uuC S) n ∧ ∀ c i, c < 89 ∨ 101 ≤ c ∨ c % 3 ≠ 2 ∨ i ≠ 6 → (c ≠ 9 + 17 * l ∨ i ≠ 16) → S'.2 c i = S.2 c i))
def fillR (S S' : Mem) (n : Nat) (ns : Nat → Nat) : Prop := (∀ p, p < n → putR S S' (89 + 3 * p) (ns p) (S.1 1 4)) ∧ (∀ c, c < 89 ∨ 101 ≤ c → S'.1 c = S.1 c ∧ S'.2 c = S.2 c)
def fullR (S : Mem) (n m : Nat) (ns : Nat → Nat) : Prop := ∃ p, p < n ∧ ¬ uF S (rcV S m) n p = 0 ∧ ¬ S.1 1 4 = 1 ∧ ns p = 40
