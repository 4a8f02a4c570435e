/-! ===== changes of the desk ===== -/
theorem monR.row {S : Mem} {w w' : Nat → Int64} {q o : Nat} (h : monR S w q o) (e : ∀ i, o ≤ i → i < o + 55 → w' i = w i) : monR S w' q o := by
  obtain ⟨⟨f1, f2, f3, f4, f5, f6, f7, f8⟩, g1, g2, g3, g4, g5, g6, g7, g8⟩ := h
  refine ⟨⟨fun j x => (f1 j x).trans (e _ (by omega) (by omega)).symm, fun j x => (f2 j x).trans (e _ (by omega) (by omega)).symm, f3.trans (e _ (by omega) (by omega)).symm, f4.trans (e _ (by omega) (by omega)).symm, fun j x y => (f5 j x y).trans (e _ (by omega) (by omega)).symm, f6.trans (e _ (by omega) (by omega)).symm, f7.trans (e _ (by omega) (by omega)).symm, ?_⟩, g1.trans (e _ (by omega) (by omega)).symm, g2.trans (e _ (by omega) (by omega)).symm, g3.trans (e _ (by omega) (by omega)).symm, fun j x => ?_, (e _ (by omega) (by omega)).trans g5, (e _ (by omega) (by omega)).trans g6, (e _ (by omega) (by omega)).trans g7, (e _ (by omega) (by omega)).trans g8⟩
  · rw [e (o + 13) (by omega) (by omega), e (o + 14) (by omega) (by omega)]; exact f8
  · rw [e (o + 18 + 4 * j) (by omega) (by omega), e (o + 19 + 4 * j) (by omega) (by omega), e (o + 20 + 4 * j) (by omega) (by omega), e (o + 21 + 4 * j) (by omega) (by omega), e (o + 34 + 4 * j) (by omega) (by omega), e (o + 35 + 4 * j) (by omega) (by omega), e (o + 36 + 4 * j) (by omega) (by omega), e (o + 37 + 4 * j) (by omega) (by omega)]
    exact g4 j x
theorem sameDp_of {S T : Mem} {k : Nat} (e1 : ∀ c, k ≤ c → c < k + 17 → T.1 c = S.1 c) (e2 : ∀ c, k ≤ c → c < k + 17 → T.2 c = S.2 c) : sameDep S T k := by
  refine ⟨fun j _ => ?_, fun j _ => ?_, fun j _ => ?_, fun j _ => ?_, ⟨?_, ?_, fun j _ => ?_⟩, ⟨⟨?_, ?_, fun j _ => ?_⟩, ⟨?_, ?_, fun j _ => ?_⟩, fun j _ => ?_, fun i hi j _ => ?_, fun j _ => ?_⟩⟩
  all_goals first | rw [e1 _ (by omega) (by omega)] | rw [e2 _ (by omega) (by omega)]
theorem samePr_of {S T : Mem} {k n : Nat} (e1 : T.1 k = S.1 k) (e2 : ∀ c, k ≤ c → c < k + 3 → T.2 c = S.2 c) : samePro S T k n := by
  refine ⟨fun j _ => by rw [e1], by rw [e2 _ (by omega) (by omega)], by rw [e2 _ (by omega) (by omega)], by rw [e1], fun j _ => ⟨by rw [e2 _ (by omega) (by omega)], by rw [e2 _ (by omega) (by omega)]⟩⟩
/-- the places of department d in a row, but what is told for the month to come -/
def plD (d i : Nat) : Prop := (5 + 9 * d ≤ i ∧ i < 14 + 9 * d) ∨ (101 + 6 * d ≤ i ∧ i < 107 + 6 * d) ∨ (131 + 55 * d ≤ i ∧ i < 186 + 55 * d)
theorem depW.row {S : Mem} {w w' : Nat → Int64} {d : Nat} (h : depW S w d) (e : ∀ i, plD d i → w' i = w i) (hc : comR S w' d) : depW S w' d := by
  obtain ⟨a, b, ⟨c1, c2⟩, f, hz⟩ := h
  refine ⟨a.move rfl rfl (fun i x y => e i (Or.inl ⟨x, y⟩)), hc, ⟨fun j x => (c1 j x).trans (e _ (Or.inr (Or.inl (by omega)))).symm, fun j x => (c2 j x).trans (e _ (Or.inr (Or.inl (by omega)))).symm⟩, f.row (fun i x y => e i (Or.inr (Or.inr (by omega)))), ?_⟩
  rw [e _ (Or.inr (Or.inr (by omega))), e (143 + 55 * d) (Or.inr (Or.inr (by omega))), e (8 + 9 * d) (Or.inl (by omega))]; exact hz
theorem comR.row {S : Mem} {w w' : Nat → Int64} {d : Nat} (h : comR S w d) (e : ∀ i, 66 + 7 * d ≤ i → i < 73 + 7 * d → w' i = w i) : comR S w' d := ⟨fun j x y => (h.1 j x y).trans (e _ (by omega) (by omega)).symm, fun j x => (h.2 j x).trans (e _ (by omega) (by omega)).symm⟩
theorem proW.row {S : Mem} {w w' : Nat → Int64} {p k : Nat} (h : proW S w p k) (e : ∀ i, (50 + 4 * p ≤ i ∧ i < 54 + 4 * p) ∨ (406 + 3 * p ≤ i ∧ i < 409 + 3 * p) ∨ (418 + 83 * p ≤ i ∧ i < 501 + 83 * p) → w' i = w i) : proW S w' p k := by
  obtain ⟨a, b1, b2, b3, b4, b5, b6, b7⟩ := h
  exact ⟨a.move rfl (fun i x y => e i (by omega)), b1.trans (e _ (by omega)).symm, b2.trans (e _ (by omega)).symm, b3.trans (e _ (by omega)).symm, b4, (e _ (by omega)).trans b5, b6, fun i hi => ⟨(b7 i hi).1.trans (e _ (by omega)).symm, (b7 i hi).2.trans (e _ (by omega)).symm⟩⟩
/-- what is told for the month to come changes -/
theorem depW_com {S T : Mem} {w w' : Nat → Int64} {d : Nat} (h : depW S w d) (e0 : ∀ j, j < 8 → T.1 (4 + 17 * d) j = S.1 (4 + 17 * d) j) (e1 : ∀ c, 4 + 17 * d < c → c < 21 + 17 * d → T.1 c = S.1 c) (e2 : ∀ c, 4 + 17 * d ≤ c → c < 21 + 17 * d → c ≠ 6 + 17 * d → T.2 c = S.2 c) (e : ∀ i, plD d i → w' i = w i) (hc : comR T w' d) : depW T w' d := by
  obtain ⟨⟨a1, a2, a3, a4, ⟨q, q2, a5, a6, a7⟩, a8, a9⟩, b, ⟨c1, c2⟩, f, hz⟩ := h
  have p1 : ∀ i, i < 9 → w' (5 + 9 * d + i) = w (5 + 9 * d + i) := fun i hi => e _ (Or.inl (by omega))
  refine ⟨⟨?_, ?_, ?_, ?_, ⟨q, q2, ?_, ?_, fun i hi => ?_⟩, ?_, ?_⟩, hc, ⟨fun j hj => ?_, fun j hj => ?_⟩, ?_, ?_⟩
  · rw [e0 0 (by decide), a1]; exact (p1 0 (by decide)).symm
  · rw [e0 1 (by decide), a2, p1 1 (by decide)]
  · rw [e0 2 (by decide), a3, p1 2 (by decide)]
  · rw [e0 3 (by decide), a4, p1 3 (by decide)]
  · rw [e0 4 (by decide)]; exact a5
  · rw [p1 4 (by decide)]; exact a6
  · rw [e2 _ (by omega) (by omega) (by omega), a7 i hi, e (5 + 9 * d + 5 + i) (Or.inl (by omega))]
  · rw [e0 6 (by decide), a8, p1 7 (by decide)]
  · rw [e0 7 (by decide), a9, p1 8 (by decide)]
  · rw [e1 _ (by omega) (by omega), c1 j hj, e _ (Or.inr (Or.inl (by omega)))]
  · rw [e2 _ (by omega) (by omega) (by omega), c2 j hj, e _ (Or.inr (Or.inl (by omega)))]
  · refine (f.same ⟨⟨?_, ?_, fun j _ => ?_⟩, ⟨?_, ?_, fun j _ => ?_⟩, fun j _ => ?_, fun i hi j _ => ?_, fun j _ => ?_⟩).row (fun i x y => e i (Or.inr (Or.inr (by omega))))
    all_goals first | rw [e1 _ (by omega) (by omega)] | rw [e2 _ (by omega) (by omega) (by omega)]
  · rw [e _ (Or.inr (Or.inr (by omega))), e (143 + 55 * d) (Or.inr (Or.inr (by omega))), e (8 + 9 * d) (Or.inl (by omega))]; exact hz
/-- the desk's own number j of three is set -/
theorem deskR_hd {S : Mem} {w : Nat → Int64} {n m : Nat} {ns : Nat → Nat} (h : deskR S w n m ns) {j : Nat} (hj : j < 3) (x : Int32) : deskR (u2 S.1 1 (4 + j) x, S.2) (u1L w (2 + j) x.toInt64) n m ns := by
  obtain ⟨⟨h1, h2, h3, h4, h5, h6⟩, h7, h8, h9, h10⟩ := h
  have o : ∀ i, i ≠ 2 + j → u1L w (2 + j) x.toInt64 i = w i := fun i hi => u1L_o w _ hi
  refine ⟨⟨(u2_j S.1 1 1 x (by omega)).trans h1, h2, (u2_j S.1 1 1 x (by omega)).trans h3, h4, (o 0 (by omega)).trans h5, (o 1 (by omega)).trans h6⟩, fun i hi => ?_, fun i hi => (h8 i hi).trans (o _ (by omega)).symm, fun d hd => ?_, fun p hp => ?_⟩
  · show (u2 S.1 1 (4 + j) x 1 (4 + i)).toInt64 = _
    by_cases z : i = j
    · subst z; rw [u2_s, u1L_s]
    · rw [u2_j _ _ _ _ (by omega), o _ (by omega)]; exact h7 i hi
  · have a := (h9 d hd).same (T := (u2 S.1 1 (4 + j) x, S.2)) (sameDp_of (fun c x y => u2_other _ _ _ (by omega)) (fun _ _ _ => rfl))
    exact a.row (fun i hi => o i (by unfold plD at hi; omega)) (a.2.1.row (fun i x y => o i (by omega)))
  · have a := (h10 p hp).same (T := (u2 S.1 1 (4 + j) x, S.2)) (samePr_of (u2_other S.1 _ _ (by omega)) (fun _ _ _ => rfl))
    exact a.row (fun i hi => o i (by omega))
/-- one of the three ints that are told for the month to come is set -/
theorem deskR_nx {S : Mem} {w : Nat → Int64} {n m d : Nat} {ns : Nat → Nat} (h : deskR S w n m ns) (hd : d < n) {j : Nat} (hj : j < 3) (x : Int32) : deskR (u2 S.1 (4 + 17 * d) (8 + j) x, S.2) (u1L w (70 + 7 * d + j) x.toInt64) n m ns := by
  obtain ⟨⟨h1, h2, h3, h4, h5, h6⟩, h7, h8, h9, h10⟩ := h
  have o : ∀ i, i ≠ 70 + 7 * d + j → u1L w (70 + 7 * d + j) x.toInt64 i = w i := fun i hi => u1L_o w _ hi
  have f : ∀ c, c ≠ 4 + 17 * d → u2 S.1 (4 + 17 * d) (8 + j) x c = S.1 c := fun c hc => u2_other _ _ _ hc
  refine ⟨⟨by show u2 S.1 (4 + 17 * d) (8 + j) x 1 2 = _; rw [f 1 (by omega)]; exact h1, h2, by show u2 S.1 (4 + 17 * d) (8 + j) x 1 3 = _; rw [f 1 (by omega)]; exact h3, h4, (o 0 (by omega)).trans h5, (o 1 (by omega)).trans h6⟩, fun i hi => ?_, fun i hi => (h8 i hi).trans (o _ (by omega)).symm, fun c hc => ?_, fun p hp => ?_⟩
  · show (u2 S.1 (4 + 17 * d) (8 + j) x 1 (4 + i)).toInt64 = _
    rw [f 1 (by omega), o _ (by omega)]; exact h7 i hi
  · by_cases z : c = d
    · subst z
      have hC := (h9 c hc).2.1
      refine depW_com (h9 c hc) (fun i hi => u2_j S.1 _ _ _ (by omega)) (fun e x y => f e (by omega)) (fun _ _ _ _ => rfl) (fun i hi => o i (by unfold plD at hi; omega)) ⟨fun i x y => (hC.1 i x y).trans (o _ (by omega)).symm, fun i hi => ?_⟩
      show (u2 S.1 (4 + 17 * c) (8 + j) x (4 + 17 * c) (8 + i)).toInt64 = _
      by_cases z : i = j
      · subst z; rw [u2_s, u1L_s]
      · rw [u2_j _ _ _ _ (by omega), o _ (by omega)]; exact hC.2 i hi
    · have a := (h9 c hc).same (T := (u2 S.1 (4 + 17 * d) (8 + j) x, S.2)) (sameDp_of (fun e x y => f e (by omega)) (fun _ _ _ => rfl))
      exact a.row (fun i hi => o i (by unfold plD at hi; omega)) (a.2.1.row (fun i x y => o i (by omega)))
  · have a := (h10 p hp).same (T := (u2 S.1 (4 + 17 * d) (8 + j) x, S.2)) (samePr_of (f _ (by omega)) (fun _ _ _ => rfl))
    exact a.row (fun i hi => o i (by omega))
/-- cents of a kind are spent -/
theorem deskR_sp {S : Mem} {w : Nat → Int64} {n m d : Nat} {ns : Nat → Nat} (h : deskR S w n m ns) (hd : d < n) {j : Nat} (hj : 1 ≤ j) (hj4 : j < 4) (x : Int64) : deskR (S.1, u2 S.2 (6 + 17 * d) j x) (u1L w (66 + 7 * d + j) x) n m ns := by
  obtain ⟨⟨h1, h2, h3, h4, h5, h6⟩, h7, h8, h9, h10⟩ := h
  have o : ∀ i, i ≠ 66 + 7 * d + j → u1L w (66 + 7 * d + j) x i = w i := fun i hi => u1L_o w _ hi
  have f : ∀ c, c ≠ 6 + 17 * d → u2 S.2 (6 + 17 * d) j x c = S.2 c := fun c hc => u2_other _ _ _ hc
  refine ⟨⟨h1, h2, h3, h4, (o 0 (by omega)).trans h5, (o 1 (by omega)).trans h6⟩, fun i hi => (h7 i hi).trans (o _ (by omega)).symm, fun i hi => ?_, fun c hc => ?_, fun p hp => ?_⟩
  · show u2 S.2 (6 + 17 * d) j x 1 (7 + i) = _
    rw [f 1 (by omega), o _ (by omega)]; exact h8 i hi
  · by_cases z : c = d
    · subst z
      have hC := (h9 c hc).2.1
      refine depW_com (h9 c hc) (fun _ _ => rfl) (fun _ _ _ => rfl) (fun e _ _ y => f e y) (fun i hi => o i (by unfold plD at hi; omega)) ⟨fun i x' y' => ?_, fun i hi => (hC.2 i hi).trans (o _ (by omega)).symm⟩
      show u2 S.2 (6 + 17 * c) j x (6 + 17 * c) i = _
      by_cases z : i = j
      · subst z; rw [u2_s, u1L_s]
      · rw [u2_j _ _ _ _ z, o _ (by omega)]; exact hC.1 i x' y'
    · have a := (h9 c hc).same (T := (S.1, u2 S.2 (6 + 17 * d) j x)) (sameDp_of (fun _ _ _ => rfl) (fun e x y => f e (by omega)))
      exact a.row (fun i hi => o i (by unfold plD at hi; omega)) (a.2.1.row (fun i x y => o i (by omega)))
  · have a := (h10 p hp).same (T := (S.1, u2 S.2 (6 + 17 * d) j x)) (samePr_of rfl (fun e x y => f e (by omega)))
    exact a.row (fun i hi => o i (by omega))
