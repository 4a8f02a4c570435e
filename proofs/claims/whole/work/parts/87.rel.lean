/-! ===== the desk in the class and in the row ===== -/
def comR (S : Mem) (w : Nat → Int64) (d : Nat) : Prop := (∀ j, 1 ≤ j → j < 4 → S.2 (6 + 17 * d) j = w (66 + 7 * d + j)) ∧ ∀ j, j < 3 → (S.1 (4 + 17 * d) (8 + j)).toInt64 = w (70 + 7 * d + j)
def wrkR (S : Mem) (w : Nat → Int64) (d : Nat) : Prop := (∀ j, j < 2 → (S.1 (7 + 17 * d) j).toInt64 = w (101 + 6 * d + j)) ∧ ∀ j, j < 4 → S.2 (8 + 17 * d) j = w (103 + 6 * d + j)
/-- a month: what was given, what was reckoned; q the month's key, o the place in the row -/
def monR (S : Mem) (w : Nat → Int64) (q o : Nat) : Prop :=
  ((∀ j, j < 2 → (S.1 (q + 1) j).toInt64 = w (o + j)) ∧ (∀ j, j < 4 → S.2 (q + 2) j = w (o + 2 + j)) ∧ (S.1 q 3).toInt64 = w (o + 6) ∧ S.2 (q + 5) 0 = w (o + 7) ∧ (∀ j, 1 ≤ j → j < 4 → S.2 (q + 5) j = w (o + 8 + j)) ∧ (S.1 q 4).toInt64 = w (o + 12) ∧ (S.1 (q + 3) 0).toInt64 = w (o + 13) ∧ (S.1 (q + 3) 1).toInt64 = (if w (o + 13) = 0 then 0 else w (o + 14))) ∧
  ((S.1 q 5).toInt64 = w (o + 15) ∧ (S.1 q 7).toInt64 = w (o + 16) ∧ (S.1 q 6).toInt64 = w (o + 17) ∧
  (∀ j, j < 4 → w (o + 18 + 4 * j) = S.2 (q + 6) j + S.2 (q + 7) j + S.2 (q + 8) j ∧ w (o + 19 + 4 * j) = S.2 (q + 6) j ∧ w (o + 20 + 4 * j) = S.2 (q + 7) j ∧ w (o + 21 + 4 * j) = S.2 (q + 8) j ∧ w (o + 34 + 4 * j) = S.2 (q + 9) j ∧ w (o + 35 + 4 * j) = S.2 (q + 10) j ∧ w (o + 36 + 4 * j) = S.2 (q + 4) j ∧ w (o + 37 + 4 * j) = S.2 (q + 11) j) ∧
  w (o + 50) = S.2 q 14 ∧ w (o + 51) = S.2 q 15 ∧ w (o + 52) = S.2 q 16 ∧ w (o + 54) = S.2 q 17)
def depW (S : Mem) (w : Nat → Int64) (d : Nat) : Prop := depT S w d ∧ comR S w d ∧ wrkR S w d ∧ monR S w (9 + 17 * d) (131 + 55 * d) ∧ w (184 + 55 * d) = w (143 + 55 * d) * w (8 + 9 * d)
def proW (S : Mem) (w : Nat → Int64) (p k : Nat) : Prop := proT S w p ∧ (S.1 (89 + 3 * p) 4).toInt64 = w (406 + 3 * p) ∧ S.2 (89 + 3 * p) 5 = w (407 + 3 * p) ∧ S.2 (89 + 3 * p) 6 = w (408 + 3 * p) ∧ S.1 (89 + 3 * p) 7 = nI k ∧ w (418 + 83 * p) = lN k ∧ k ≤ 40 ∧ ∀ i, i < k → S.2 (90 + 3 * p) i = w (419 + 83 * p + 2 * i) ∧ S.2 (91 + 3 * p) i = w (420 + 83 * p + 2 * i)
def deskR (S : Mem) (w : Nat → Int64) (n m : Nat) (ns : Nat → Nat) : Prop :=
  (S.1 1 2 = nI n ∧ n ≤ 5 ∧ S.1 1 3 = nI m ∧ m ≤ 4 ∧ w 0 = lN n ∧ w 1 = lN m) ∧ (∀ j, j < 3 → (S.1 1 (4 + j)).toInt64 = w (2 + j)) ∧ (∀ j, j < 4 → S.2 1 (7 + j) = w (750 + j)) ∧ (∀ d, d < n → depW S w d) ∧ ∀ p, p < m → proW S w p (ns p)
theorem deskR.dN {S : Mem} {w : Nat → Int64} {n m : Nat} {ns : Nat → Nat} (h : deskR S w n m ns) : dskN S n m ns := ⟨h.1.1, h.1.2.1, h.1.2.2.1, h.1.2.2.2.1, fun p hp => ⟨(h.2.2.2.2 p hp).2.2.2.2.1, (h.2.2.2.2 p hp).2.2.2.2.2.2.1⟩⟩
theorem deskR.dM {S : Mem} {w : Nat → Int64} {n m : Nat} {ns : Nat → Nat} (h : deskR S w n m ns) : ∀ d, d < n → ∃ k, k ≤ 2 ∧ S.1 (4 + 17 * d) 4 = nI k := fun d hd => by
  obtain ⟨k, a, b, _⟩ := (h.2.2.2.1 d hd).1.2.2.2.2.1
  exact ⟨k, a, b⟩
theorem monR.same {S T : Mem} {w : Nat → Int64} {q o : Nat} (h : monR S w q o) (e : sameMon S T q) : monR T w q o := by
  obtain ⟨⟨a1, a2, a3, a4, a5, a6, a7, a8⟩, b1, b2, b3, b4, b5, b6, b7, b8⟩ := h
  obtain ⟨⟨c1, c2, c3⟩, ⟨d1, d2, d3⟩, e1, e2, e3⟩ := e
  have e2' : ∀ i j, 5 ≤ i → i < 12 → j < 4 → T.2 (q + i) j = S.2 (q + i) j := fun i j x y z => by
    have := e2 (i - 5) (by omega) j z
    rw [show q + 5 + (i - 5) = q + i by omega] at this
    exact this
  have f4 : ∀ j, j < 4 → T.2 (q + 4) j = S.2 (q + 4) j := d3
  refine ⟨⟨fun j hj => ?_, fun j hj => ?_, ?_, ?_, fun j x y => ?_, ?_, ?_, ?_⟩, ?_, ?_, ?_, fun j hj => ?_, ?_, ?_, ?_, ?_⟩
  · rcases (show j = 0 ∨ j = 1 by omega) with rfl | rfl
    · rw [c1]; exact a1 0 (by decide)
    · rw [c2]; exact a1 1 (by decide)
  · rw [show q + 2 = q + 1 + 1 from rfl, c3 j hj]; exact a2 j hj
  · rw [e1 0 (by decide)]; exact a3
  · rw [e2' 5 0 (by decide) (by decide) (by decide)]; exact a4
  · rw [e2' 5 j (by decide) (by decide) (by omega)]; exact a5 j x y
  · rw [e1 1 (by decide)]; exact a6
  · rw [d1]; exact a7
  · rw [d2]; exact a8
  · rw [e1 2 (by decide)]; exact b1
  · rw [e1 4 (by decide)]; exact b2
  · rw [e1 3 (by decide)]; exact b3
  · rw [e2' 6 j (by decide) (by decide) hj, e2' 7 j (by decide) (by decide) hj, e2' 8 j (by decide) (by decide) hj, e2' 9 j (by decide) (by decide) hj, e2' 10 j (by decide) (by decide) hj, e2' 11 j (by decide) (by decide) hj, f4 j hj]
    exact b4 j hj
  · rw [e3 0 (by decide)]; exact b5
  · rw [e3 1 (by decide)]; exact b6
  · rw [e3 2 (by decide)]; exact b7
  · rw [e3 3 (by decide)]; exact b8
theorem depW.same {S T : Mem} {w : Nat → Int64} {d : Nat} (h : depW S w d) (e : sameDep S T (4 + 17 * d)) : depW T w d := by
  obtain ⟨⟨a1, a2, a3, a4, ⟨m, m2, a5, a6, a7⟩, a8, a9⟩, ⟨b1, b2⟩, ⟨c1, c2⟩, hm, hz⟩ := h
  obtain ⟨e1, e2, e3, e4, ⟨e5, e6, e7⟩, e8⟩ := e
  refine ⟨⟨?_, ?_, ?_, ?_, ⟨m, m2, ?_, a6, fun i hi => ?_⟩, ?_, ?_⟩, ⟨fun j x y => ?_, fun j hj => ?_⟩, ⟨fun j hj => ?_, fun j hj => ?_⟩, ?_, hz⟩
  · rw [e1 0 (by decide)]; exact a1
  · rw [e1 1 (by decide)]; exact a2
  · rw [e1 2 (by decide)]; exact a3
  · rw [e1 3 (by decide)]; exact a4
  · rw [e1 4 (by decide)]; exact a5
  · rw [show 5 + 17 * d = 4 + 17 * d + 1 by omega, e2 i (by omega), show 4 + 17 * d + 1 = 5 + 17 * d by omega]; exact a7 i hi
  · rw [e3 0 (by decide)]; exact a8
  · rw [e3 1 (by decide)]; exact a9
  · rw [show 6 + 17 * d = 4 + 17 * d + 2 by omega, e4 j y, show 4 + 17 * d + 2 = 6 + 17 * d by omega]; exact b1 j x y
  · have := e3 (2 + j) (by omega)
    rw [show 6 + (2 + j) = 8 + j by omega] at this
    rw [this]; exact b2 j hj
  · rw [show 7 + 17 * d = 4 + 17 * d + 3 by omega]
    rw [show 7 + 17 * d = 4 + 17 * d + 3 by omega] at c1
    rcases (show j = 0 ∨ j = 1 by omega) with rfl | rfl
    · rw [e5]; exact c1 0 (by decide)
    · rw [e6]; exact c1 1 (by decide)
  · rw [show 8 + 17 * d = 4 + 17 * d + 3 + 1 by omega]
    rw [show 8 + 17 * d = 4 + 17 * d + 3 + 1 by omega] at c2
    rw [e7 j hj]; exact c2 j hj
  · rw [show 9 + 17 * d = 4 + 17 * d + 5 by omega]
    rw [show 9 + 17 * d = 4 + 17 * d + 5 by omega] at hm
    exact hm.same e8
theorem proW.same {S T : Mem} {w : Nat → Int64} {p k : Nat} (h : proW S w p k) (e : samePro S T (89 + 3 * p) k) : proW T w p k := by
  obtain ⟨a1, a2, a3, a4, a5, a6, a7, a8⟩ := h
  obtain ⟨e1, e2, e3, e4, e5⟩ := e
  refine ⟨fun j hj => ?_, ?_, ?_, ?_, ?_, a6, a7, fun i hi => ?_⟩
  · rw [e1 j (by omega)]; exact a1 j hj
  · rw [e1 4 (by decide)]; exact a2
  · rw [e2]; exact a3
  · rw [e3]; exact a4
  · rw [e4]; exact a5
  · have := e5 i hi
    rw [show 89 + 3 * p + 1 = 90 + 3 * p by omega, show 89 + 3 * p + 2 = 91 + 3 * p by omega] at this
    rw [this.1, this.2]; exact a8 i hi
theorem deskR.same {S T : Mem} {w : Nat → Int64} {n m : Nat} {ns : Nat → Nat} (h : deskR S w n m ns) (e : sameDesk S T n m ns) : deskR T w n m ns := by
  obtain ⟨⟨h1, h2, h3, h4, h5, h6⟩, h7, h8, h9, h10⟩ := h
  obtain ⟨e1, e2, e3, e4⟩ := e
  refine ⟨⟨(e1 0 (by decide)).trans h1, h2, (e1 1 (by decide)).trans h3, h4, h5, h6⟩, fun j hj => ?_, fun j hj => (e2 j hj).trans (h8 j hj), fun d hd => (h9 d hd).same (e3 d hd), fun p hp => (h10 p hp).same (e4 p hp)⟩
  have := e1 (2 + j) (by omega)
  rw [show 2 + (2 + j) = 4 + j by omega] at this
  rw [this]; exact h7 j hj
theorem sameDesk_of {S T : Mem} {n m : Nat} {ns : Nat → Nat} (hn : n ≤ 5) (hm : m ≤ 4) (e : ∀ c, 1 ≤ c → c < 101 → T.1 c = S.1 c ∧ T.2 c = S.2 c) : sameDesk S T n m ns := by
  have e1 : ∀ c, 1 ≤ c → c < 101 → T.1 c = S.1 c := fun c x y => (e c x y).1
  have e2 : ∀ c, 1 ≤ c → c < 101 → T.2 c = S.2 c := fun c x y => (e c x y).2
  refine ⟨fun j _ => by rw [e1 1 (by decide) (by decide)], fun j _ => by rw [e2 1 (by decide) (by decide)], fun d hd => ⟨fun j _ => ?_, fun j _ => ?_, fun j _ => ?_, fun j _ => ?_, ⟨?_, ?_, fun j _ => ?_⟩, ⟨⟨?_, ?_, fun j _ => ?_⟩, ⟨?_, ?_, fun j _ => ?_⟩, fun j _ => ?_, fun i hi j _ => ?_, fun j _ => ?_⟩⟩, fun p hp => ⟨fun j _ => ?_, ?_, ?_, ?_, fun j _ => ⟨?_, ?_⟩⟩⟩
  all_goals first | rw [e1 _ (by omega) (by omega)] | rw [e2 _ (by omega) (by omega)]
theorem deskR.row {S : Mem} {w w' : Nat → Int64} {n m : Nat} {ns : Nat → Nat} (h : deskR S w n m ns) (e : ∀ i, i < 754 → w' i = w i) : deskR S w' n m ns := by
  obtain ⟨⟨h1, h2, h3, h4, h5, h6⟩, h7, h8, h9, h10⟩ := h
  refine ⟨⟨h1, h2, h3, h4, (e 0 (by decide)).trans h5, (e 1 (by decide)).trans h6⟩, fun j hj => (h7 j hj).trans (e _ (by omega)).symm, fun j hj => (h8 j hj).trans (e _ (by omega)).symm, fun d hd => ?_, fun p hp => ?_⟩
  · obtain ⟨a, ⟨b1, b2⟩, ⟨c1, c2⟩, ⟨⟨f1, f2, f3, f4, f5, f6, f7, f8⟩, g1, g2, g3, g4, g5, g6, g7, g8⟩, hz⟩ := h9 d hd
    refine ⟨a.move rfl rfl (fun i x y => e i (by omega)), ⟨fun j x y => (b1 j x y).trans (e _ (by omega)).symm, fun j x => (b2 j x).trans (e _ (by omega)).symm⟩, ⟨fun j x => (c1 j x).trans (e _ (by omega)).symm, fun j x => (c2 j x).trans (e _ (by omega)).symm⟩, ⟨⟨fun j x => (f1 j x).trans (e _ (by omega)).symm, fun j x => (f2 j x).trans (e _ (by omega)).symm, f3.trans (e _ (by omega)).symm, f4.trans (e _ (by omega)).symm, fun j x y => (f5 j x y).trans (e _ (by omega)).symm, f6.trans (e _ (by omega)).symm, f7.trans (e _ (by omega)).symm, ?_⟩, g1.trans (e _ (by omega)).symm, g2.trans (e _ (by omega)).symm, g3.trans (e _ (by omega)).symm, fun j x => ?_, (e _ (by omega)).trans g5, (e _ (by omega)).trans g6, (e _ (by omega)).trans g7, (e _ (by omega)).trans g8⟩, ?_⟩
    · rw [e (131 + 55 * d + 13) (by omega), e (131 + 55 * d + 14) (by omega)]; exact f8
    · rw [e _ (by omega), e (131 + 55 * d + 19 + 4 * j) (by omega), e (131 + 55 * d + 20 + 4 * j) (by omega), e (131 + 55 * d + 21 + 4 * j) (by omega), e (131 + 55 * d + 34 + 4 * j) (by omega), e (131 + 55 * d + 35 + 4 * j) (by omega), e (131 + 55 * d + 36 + 4 * j) (by omega), e (131 + 55 * d + 37 + 4 * j) (by omega)]
      exact g4 j x
    · rw [e _ (by omega), e (143 + 55 * d) (by omega), e (8 + 9 * d) (by omega)]; exact hz
  · obtain ⟨a, b1, b2, b3, b4, b5, b6, b7⟩ := h10 p hp
    exact ⟨a.move rfl (fun i x y => e i (by omega)), b1.trans (e _ (by omega)).symm, b2.trans (e _ (by omega)).symm, b3.trans (e _ (by omega)).symm, b4, (e _ (by omega)).trans b5, b6, fun i hi => ⟨(b7 i hi).1.trans (e _ (by omega)).symm, (b7 i hi).2.trans (e _ (by omega)).symm⟩⟩
