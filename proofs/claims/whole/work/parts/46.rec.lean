/-! ===== reckon ===== -/
/-- one kind's numbers, of the memory itself -/
def kndR (S : Mem) (q k : Nat) (way : Int32) (j : Nat) : Prop := S.2 (q + 6) j = fdC S q k j way ∧ S.2 (q + 7) j = ldC S q k j ∧ S.2 (q + 8) j = sdC S q k j ∧ S.2 (q + 9) j = plC S q j way ∧ S.2 (q + 4) j = rsC S q j way ∧ S.2 (q + 11) j = lsC S q j way ∧ S.2 (q + 10) j = fnC S q j way
theorem cntC_congr {S T : Mem} {q k : Nat} (e1 : T.1 q 4 = S.1 q 4) (e2 : T.1 q 5 = S.1 q 5) (e3 : ∀ c, c ≠ q → T.1 c = S.1 c) (e4 : T.2 (k + 1) = S.2 (k + 1)) (hkq : k + 4 < q) (j : Nat) (way : Int32) : fdC T q k j way = fdC S q k j way ∧ ldC T q k j = ldC S q k j ∧ sdC T q k j = sdC S q k j := by
  have d : ∀ f, dnC T k j f = dnC S k j f := fun f => dnC_congr (by rw [e3 k (by omega)]) e4 j f
  have a1 := e3 (q + 1) (by omega)
  have a3 := e3 (q + 3) (by omega)
  have ak := e3 k (by omega)
  refine ⟨?_, ?_, ?_⟩
  · unfold fdC; rw [e2, a1, d]
  · unfold ldC; rw [a3, d]
  · unfold sdC; rw [e1, ak, d]
theorem shrC_congr {S T : Mem} {q j : Nat} (e : ∀ c, q < c → c ≤ q + 8 → c ≠ q + 4 → T.2 c j = S.2 c j) (way : Int32) : plC T q j way = plC S q j way ∧ rsC T q j way = rsC S q j way ∧ lsC T q j way = lsC S q j way ∧ fnC T q j way = fnC S q j way := by
  have p : plC T q j way = plC S q j way := by unfold plC; rw [e (q + 5) (by omega) (by omega) (by omega), e (q + 2) (by omega) (by omega) (by omega)]
  have a : alC T q j = alC S q j := by unfold alC; rw [e (q + 6) (by omega) (by omega) (by omega), e (q + 7) (by omega) (by omega) (by omega), e (q + 8) (by omega) (by omega) (by omega)]
  have r : rsC T q j way = rsC S q j way := by unfold rsC; rw [p, a, e (q + 7) (by omega) (by omega) (by omega)]
  have l : lsC T q j way = lsC S q j way := by unfold lsC; rw [p, a, e (q + 8) (by omega) (by omega) (by omega)]
  refine ⟨p, r, l, ?_⟩
  unfold fnC; rw [p, r, l, e (q + 2) (by omega) (by omega) (by omega)]
theorem kndR.move {S T : Mem} {q k j : Nat} {way : Int32} (h : kndR S q k way j) (e1 : T.1 q 4 = S.1 q 4) (e2 : T.1 q 5 = S.1 q 5) (e3 : ∀ c, c ≠ q → T.1 c = S.1 c) (e4 : T.2 (k + 1) = S.2 (k + 1)) (hkq : k + 4 < q) (e5 : ∀ c, c ≠ q → T.2 c j = S.2 c j) : kndR T q k way j := by
  obtain ⟨h1, h2, h3, h4, h5, h6, h7⟩ := h
  have c := cntC_congr e1 e2 e3 e4 hkq j way
  have s := shrC_congr (S := S) (T := T) (q := q) (j := j) (fun c x _ _ => e5 c (by omega)) way
  refine ⟨?_, ?_, ?_, ?_, ?_, ?_, ?_⟩
  · rw [e5 _ (by omega), c.1]; exact h1
  · rw [e5 _ (by omega), c.2.1]; exact h2
  · rw [e5 _ (by omega), c.2.2]; exact h3
  · rw [e5 _ (by omega), s.1]; exact h4
  · rw [e5 _ (by omega), s.2.1]; exact h5
  · rw [e5 _ (by omega), s.2.2.1]; exact h6
  · rw [e5 _ (by omega), s.2.2.2]; exact h7
/-- countDone, then shareKind: one kind -/
theorem kndR_of {T A B : Mem} {q k i : Nat} {way : Int32} (hkq : k + 4 < q) (a1 : A.1 = T.1) (a2 : A.2 (q + 6) i = fdC T q k i way) (a3 : A.2 (q + 7) i = ldC T q k i) (a4 : A.2 (q + 8) i = sdC T q k i) (a5 : ∀ c, c < q + 6 ∨ q + 8 < c → A.2 c = T.2 c) (b1 : B.1 = A.1) (b2 : B.2 (q + 9) i = plC A q i way) (b3 : B.2 (q + 4) i = rsC A q i way) (b4 : B.2 (q + 11) i = lsC A q i way) (b5 : B.2 (q + 10) i = fnC A q i way) (b6 : ∀ c, c ≠ q + 4 → c < q + 9 ∨ q + 11 < c → B.2 c = A.2 c) : kndR B q k way i := by
  have bt : B.1 = T.1 := b1.trans a1
  have c := cntC_congr (S := T) (T := B) (q := q) (k := k) (by rw [bt]) (by rw [bt]) (fun c _ => by rw [bt]) ((b6 _ (by omega) (by omega)).trans (a5 _ (by omega))) hkq i way
  have s := shrC_congr (S := A) (T := B) (q := q) (j := i) (fun c x y z => by rw [b6 c z (by omega)]) way
  refine ⟨?_, ?_, ?_, ?_, ?_, ?_, ?_⟩
  · rw [c.1, b6 _ (by omega) (by omega)]; exact a2
  · rw [c.2.1, b6 _ (by omega) (by omega)]; exact a3
  · rw [c.2.2, b6 _ (by omega) (by omega)]; exact a4
  · rw [s.1]; exact b2
  · rw [s.2.1]; exact b3
  · rw [s.2.2.1]; exact b4
  · rw [s.2.2.2]; exact b5
def fiC (S : Mem) (q : Nat) : Int32 := S.1 (q + 1) 0 + S.1 q 3 - S.1 q 4 - S.1 (q + 3) 0
/-- a reckoned month, of the memory itself -/
def recR (S : Mem) (q k : Nat) (way : Int32) : Prop := (∀ j, j < 4 → kndR S q k way j) ∧ S.1 q 5 = fiC S q ∧ S.1 q 6 = cmC S q k ∧ S.1 q 7 = nmC S q k ∧ S.2 q 14 = ntC S q k ∧ S.2 q 15 = tlC S q k ∧ S.2 q 16 = aaC S q k ∧ S.2 q 17 = ouC S q k
def canC (S : Mem) (q : Nat) (way : Int32) : Prop := ¬ fiC S q < 0 ∧ (way = 0 → S.1 (q + 1) 0 ≤ fiC S q)
