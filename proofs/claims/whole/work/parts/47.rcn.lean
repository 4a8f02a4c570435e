/-! ===== reckon: the method ===== -/
theorem nrmC_congr {S T : Mem} {q k : Nat} (e1 : T.1 q 4 = S.1 q 4) (e2 : T.1 q 5 = S.1 q 5) (e3 : ∀ c, c ≠ q → T.1 c = S.1 c) (hkq : k + 4 < q) : cmC T q k = cmC S q k ∧ nmC T q k = nmC S q k := by
  have a1 := e3 (q + 1) (by omega)
  have a3 := e3 (q + 3) (by omega)
  have ak := e3 k (by omega)
  have c1 : cm1 T q k = cm1 S q k := by unfold cm1; rw [e1, e2, a3, ak]
  have c2 : cmC T q k = cmC S q k := by unfold cmC; rw [c1, a1, ak]
  refine ⟨c2, ?_⟩
  unfold nmC; rw [c2, ak, e1]
theorem brlC_congr {S T : Mem} {q k : Nat} (e1 : T.1 = S.1) (e2 : T.2 (q + 11) = S.2 (q + 11)) (e3 : T.2 (q + 10) = S.2 (q + 10)) : ntC T q k = ntC S q k ∧ tlC T q k = tlC S q k ∧ aaC T q k = aaC S q k ∧ ouC T q k = ouC S q k := by
  have o : olC T q = olC S q := by unfold olC; rw [e2]
  have n : onC T q = onC S q := by unfold onC; rw [o, e1]
  have t : ntC T q k = ntC S q k := by unfold ntC; rw [n, e1]
  have a : abC T q k = abC S q k := by unfold abC; rw [o, n, e1]
  have l : lbC T q k = lbC S q k := by unfold lbC; rw [e1]
  have b : brC T q k = brC S q k := by unfold brC; rw [l, e1]
  have tl : tlC T q k = tlC S q k := by unfold tlC; rw [t, l, b]
  refine ⟨t, tl, ?_, ?_⟩
  · unfold aaC; rw [b, a, t]
  · unfold ouC; rw [b, e3, t, tl]
set_option maxHeartbeats 2000000 in
theorem e_reckon {q k : Nat} (hq : isMon q) (hk : isDepN 156 k) (hkq : k + 4 < q) (way : Int32) (S : Mem) {Qr : QR} {Qx : QX} (hF : ¬ canC S q way → Qr (some (.int 0)) (u2 S.1 q 5 (fiC S q), S.2)) (hT : canC S q way → ∀ S' : Mem, recR S' q k way → (∀ c, c ≠ q → S'.1 c = S.1 c) → (∀ j, j < 5 ∨ 7 < j → S'.1 q j = S.1 q j) → (∀ c, c < q ∨ (q < c ∧ c < q + 4) ∨ c = q + 5 ∨ q + 11 < c → S'.2 c = S.2 c) → Qr (some (.int 1)) S') : vsp 156 4 (sX4_reckon 156) [.ref q, .ref k, .int way] S Qr Qx := by
  have hq' := hq
  obtain ⟨h0, h1, h2, h3⟩ := hq
  by_cases can : canC S q way
  case neg =>
    have hF := hF can
    refine ⟨h0, runG rfl 160 ⟨h0, h1.1, h0, h0, h0, h2.1, h0, h0, And.intro (fun a1 => ⟨Or.inl rfl, hF⟩) (fun a1 => And.intro (fun a2 => ?_) (fun a2 => ⟨h0, h0, h1.1, And.intro (fun a3 => ?_) (fun a3 => ⟨Or.inl rfl, hF⟩)⟩))⟩⟩
    · have a1 : ¬ u2 S.1 q 5 (fiC S q) q 5 < 0 := a1
      rw [u2_s] at a1
      exact absurd ⟨a1, fun x => absurd x a2⟩ can
    · have a1 : ¬ u2 S.1 q 5 (fiC S q) q 5 < 0 := a1
      have a3 : u2 S.1 q 5 (fiC S q) (q + 1) 0 ≤ u2 S.1 q 5 (fiC S q) q 5 := a3
      rw [u2_s] at a1 a3
      rw [u2_k _ _ _ _ (by omega)] at a3
      exact absurd ⟨a1, fun _ => a3⟩ can
  have hT := hT can
  clear hF
  refine ⟨h0, runL (α := Nat × Mem) rfl 160 58 0 (fun a => [(3, .int (nI a.1)), (0, .ref q), (1, .ref k), (2, .int way)]) (fun a => a.2) (fun a => 4 - a.1) (fun b => b.1 ≤ 4 ∧ b.2.1 = u2 S.1 q 5 (fiC S q) ∧ (∀ j, j < b.1 → kndR b.2 q k way j) ∧ ∀ c, c < q + 4 ∨ c = q + 5 ∨ q + 11 < c → b.2.2 c = S.2 c) ?_ ?_⟩
  · rintro ⟨i, T⟩ ⟨hi, i1, i2, i3⟩
    dsimp only at hi i1 i2 i3
    refine And.intro (fun a1 => ?_) (fun a1 => ?_)
    · obtain rfl := le_of_nI (by decide) hi a1
      refine ⟨⟨Nat.le_of_ble_eq_true rfl, Nat.le_of_ble_eq_true rfl, Nat.le_of_ble_eq_true rfl⟩, e_countNormal hq' hk hkq T (fun A n1 n2 n3 n4 n5 => ⟨⟨Nat.le_of_ble_eq_true rfl, Nat.le_of_ble_eq_true rfl, Nat.le_of_ble_eq_true rfl⟩, e_bearLoss hq' hk A (fun B l1 l2 l3 l4 l5 l6 => ⟨Or.inr rfl, ?_⟩)⟩)⟩
      have b4 : B.1 q 4 = T.1 q 4 := by rw [l1]; exact n3 4 (by decide) (by decide)
      have b5 : B.1 q 5 = T.1 q 5 := by rw [l1]; exact n3 5 (by decide) (by decide)
      have bc : ∀ c, c ≠ q → B.1 c = T.1 c := fun c hc => by rw [l1]; exact n4 c hc
      have b2 : ∀ c, c ≠ q → B.2 c = T.2 c := fun c hc => (l6 c hc).trans (congrFun n5 c)
      have nn := nrmC_congr b4 b5 bc hkq
      have bb := brlC_congr (k := k) l1 (l6 (q + 11) (by omega)) (l6 (q + 10) (by omega))
      have tc : ∀ c, c ≠ q → T.1 c = S.1 c := fun c hc => by rw [i1]; exact u2_other _ _ _ hc
      have tj : ∀ j, j ≠ 5 → T.1 q j = S.1 q j := fun j hj => by rw [i1]; exact u2_j _ _ _ _ hj
      refine hT B ⟨fun j hj => (i2 j hj).move b4 b5 bc (b2 _ (by omega)) hkq (fun c hc => by rw [b2 c hc]), ?_, ?_, ?_, ?_, ?_, ?_, ?_⟩ (fun c hc => (bc c hc).trans (tc c hc)) (fun j hj => ?_) (fun c hc => (b2 c (by omega)).trans (i3 c (by omega)))
      · have : fiC B q = fiC S q := by
          unfold fiC
          rw [bc _ (by omega), bc (q + 3) (by omega), tc _ (by omega), tc (q + 3) (by omega), b4, tj 4 (by decide), l1, n3 3 (by decide) (by decide), tj 3 (by decide)]
        rw [b5, this, i1, u2_s]
      · rw [nn.1, l1]; exact n1
      · rw [nn.2, l1]; exact n2
      · rw [bb.1]; exact l2
      · rw [bb.2.1]; exact l3
      · rw [bb.2.2.1]; exact l4
      · rw [bb.2.2.2]; exact l5
      · rw [l1, n3 j (by omega) (by omega)]; exact tj j (by omega)
    · have hlt := lt_of_nI (by decide) hi a1
      refine ⟨⟨Nat.le_of_ble_eq_true rfl, Nat.le_of_ble_eq_true rfl, Nat.le_of_ble_eq_true rfl⟩, e_countDone hq' hk hkq hlt way T (fun A d1 d2 d3 d4 d5 d6 => ⟨⟨Nat.le_of_ble_eq_true rfl, Nat.le_of_ble_eq_true rfl, Nat.le_of_ble_eq_true rfl⟩, e_shareKind hq' hlt way A (fun B b1 b2 b3 b4 b5 b6 b7 => ⟨rfl, rfl, (i + 1, B), ⟨⟨by show i + 1 ≤ 4; omega, b1.trans (d1.trans i1), fun j hj => ?_, fun c hc => ?_⟩, by show 4 - (i + 1) < 4 - i; omega⟩, rfl, congrArg (fun z => some (Value.int z)) (nI_1 i), rfl, rfl, rfl, trivial⟩)⟩)⟩
      · have hj : j < i + 1 := hj
        by_cases e : j = i
        · subst e
          exact kndR_of hkq d1 d2 d3 d4 d5 b1 b2 b3 b4 b5 b6
        · have bt : B.1 = T.1 := b1.trans d1
          exact (i2 j (by omega)).move (by rw [bt]) (by rw [bt]) (fun c _ => by rw [bt]) ((b6 _ (by omega) (by omega)).trans (d5 _ (by omega))) hkq (fun c _ => (b7 c j e).trans (d6 c j e))
      · exact (b6 c (by omega) (by omega)).trans ((d5 c (by omega)).trans (i3 c hc))
  · refine ⟨h0, h1.1, h0, h0, h0, h2.1, h0, h0, And.intro (fun a1 => ?_) (fun a1 => And.intro (fun a2 => ?_) (fun a2 => ⟨h0, h0, h1.1, And.intro (fun a3 => ?_) (fun a3 => ?_)⟩))⟩
    · have a1 : u2 S.1 q 5 (fiC S q) q 5 < 0 := a1
      rw [u2_s] at a1
      exact absurd a1 can.1
    · exact ⟨rfl, rfl, (0, (u2 S.1 q 5 (fiC S q), S.2)), ⟨Nat.zero_le _, rfl, fun j hj => absurd hj (Nat.not_lt_zero j), fun c _ => rfl⟩, rfl, rfl, rfl, rfl, rfl, trivial⟩
    · exact ⟨rfl, rfl, (0, (u2 S.1 q 5 (fiC S q), S.2)), ⟨Nat.zero_le _, rfl, fun j hj => absurd hj (Nat.not_lt_zero j), fun c _ => rfl⟩, rfl, rfl, rfl, rfl, rfl, trivial⟩
    · have a3 : ¬ u2 S.1 q 5 (fiC S q) (q + 1) 0 ≤ u2 S.1 q 5 (fiC S q) q 5 := a3
      rw [u2_s, u2_k _ _ _ _ (by omega)] at a3
      exact absurd (can.2 a2) a3
