/-! ===== close: what the products get, in the class and in the row ===== -/
theorem i64_0 : (0 : Int32).toInt64 = 0 := rfl
theorem L0 : (0 : Int64).toInt = 0 := rfl
theorem pA_eq {S : Mem} {r : Nat → Int64} {p : Nat} {f : Int32} {F : Int64} (hT : proT S r p) (hW : WFp r p) (hF : f.toInt64 = F) (F0 : 0 ≤ F.toInt) (F1 : F.toInt ≤ 300000) : (uA S f p).toInt64 = pA r F p ∧ 0 ≤ (pA r F p).toInt ∧ (pA r F p).toInt ≤ F.toInt ∧ 100 * (pA r F p).toInt ≤ F.toInt * (r (50 + 4 * p)).toInt ∧ 0 ≤ (r (50 + 4 * p)).toInt ∧ (r (50 + 4 * p)).toInt ≤ 100 := by
  obtain ⟨⟨v, v1, v2, v3⟩, -⟩ := hW
  have es : (r (50 + 4 * p)).toInt = (v : Int) := by rw [v3, lN_toInt (by omega)]
  have e0 : (S.1 (89 + 3 * p) 0).toInt = (v : Int) := (t64 (hT 0 (by decide))).trans es
  obtain ⟨x, hx⟩ : ∃ x, F.toInt = x := ⟨_, rfl⟩
  have ef : f.toInt = x := (t64 hF).trans hx
  rw [hx] at F0 F1
  have p0 : 0 ≤ x * (v : Int) := Int.mul_nonneg F0 (by omega)
  have p1 : x * (v : Int) ≤ x * 100 := Int.mul_le_mul_of_nonneg_left (by omega) F0
  have q1 : (uA S f p).toInt = x * (v : Int) / 100 := by
    have : (S.1 (89 + 3 * p) 0 * f).toInt = (v : Int) * x := s_mul e0 ef (by rw [Int.mul_comm]; omega)
    rw [Int.mul_comm] at this
    exact s_div this rfl (by omega) (by decide)
  have q2 : (pA r F p).toInt = x * (v : Int) / 100 := g_div (g_mul hx es (by omega)) rfl (by omega) (by decide)
  rw [es, hx, q2]
  refine ⟨e64 (q1.trans q2.symm), by omega, by omega, by omega, by omega, by omega⟩
theorem opU_eq {S : Mem} {r : Nat → Int64} {f : Int32} {F : Int64} {m : Nat} (hT : ∀ p, p < m → proT S r p) (hW : ∀ p, p < m → WFp r p) (hF : f.toInt64 = F) (F0 : 0 ≤ F.toInt) (F1 : F.toInt ≤ 300000) : ∀ j, j ≤ m → j ≤ 4 → ∃ a b : Int, (sumN (pA r F) j).toInt = a ∧ (opU S f j).toInt = F.toInt - a ∧ 0 ≤ a ∧ a ≤ F.toInt * j ∧ (sumN (fun p => r (50 + 4 * p)) j).toInt = b ∧ 0 ≤ b ∧ b ≤ 100 * j ∧ 100 * a ≤ F.toInt * b ∧ (0 < j → (pA r F 0).toInt ≤ a)
  | 0, _, _ => ⟨0, 0, rfl, (t64 hF).trans (by omega), by omega, by omega, rfl, by omega, by omega, by omega, fun h => absurd h (by omega)⟩
  | j + 1, hj, h4 => by
    obtain ⟨a, b, h1, h2, h3, h5, h6, h7, h8, h9, h10⟩ := opU_eq hT hW hF F0 F1 j (by omega) (by omega)
    obtain ⟨e1, e2, e3, e4, e5, e6⟩ := pA_eq (hT j (by omega)) (hW j (by omega)) hF F0 F1
    have t1 := t64 e1
    have hx : F.toInt * (b + (r (50 + 4 * j)).toInt) = F.toInt * b + F.toInt * (r (50 + 4 * j)).toInt := Int.mul_add _ _ _
    have hj' : F.toInt * ((j + 1 : Nat) : Int) = F.toInt * j + F.toInt := by rw [Int.natCast_add, Int.mul_add]; simp
    have hb : a ≤ 1200000 := by
      have : F.toInt * (j : Int) ≤ 300000 * 4 := Int.mul_le_mul F1 (by omega) (by omega) (by decide)
      omega
    refine ⟨a + (pA r F j).toInt, b + (r (50 + 4 * j)).toInt, g_add h1 rfl (by omega), ?_, by omega, ?_, g_add h6 rfl (by omega), by omega, by omega, by omega, fun _ => ?_⟩
    · show (opU S f j - uA S f j).toInt = _
      rw [s_sub h2 t1 (by omega)]; omega
    · rw [hj']; omega
    · by_cases z : j = 0
      · subst z; omega
      · have := h10 (by omega); omega
theorem pU_eq {S : Mem} {r : Nat → Int64} {f : Int32} {F : Int64} {m : Nat} (hm : m ≤ 4) (hm0 : 0 < m) (hT : ∀ p, p < m → proT S r p) (hW : ∀ p, p < m → WFp r p) (hsh : sumN (fun p => r (50 + 4 * p)) m = 100) (hF : f.toInt64 = F) (F0 : 0 ≤ F.toInt) (F1 : F.toInt ≤ 300000) {p : Nat} (hp : p < m) : (uF S f m p).toInt64 = pU r F m p ∧ 0 ≤ (pU r F m p).toInt ∧ (pU r F m p).toInt ≤ F.toInt := by
  obtain ⟨a, b, h1, h2, h3, h5, h6, h7, h8, h9, h10⟩ := opU_eq hT hW hF F0 F1 m (Nat.le_refl m) hm
  have eb : b = 100 := by rw [← h6, hsh]; rfl
  rw [eb] at h9
  obtain ⟨e1, e2, e3, e4, e5, e6⟩ := pA_eq (hT p hp) (hW p hp) hF F0 F1
  unfold uF pU
  by_cases z : p = 0
  · subst z
    have h10 := h10 hm0
    have x1 : (F - sumN (pA r F) m).toInt = F.toInt - a := g_sub rfl h1 (by omega)
    have x2 : (pA r F 0 + (F - sumN (pA r F) m)).toInt = (pA r F 0).toInt + (F.toInt - a) := g_add rfl x1 (by omega)
    rw [if_pos rfl, if_pos rfl, x2]
    refine ⟨e64 ?_, by omega, by omega⟩
    rw [x2]
    exact s_add (t64 e1) h2 (by omega)
  · rw [if_neg z, if_neg z]
    exact ⟨e1, e2, e3⟩
theorem pV_eq {S : Mem} {r : Nat → Int64} {p : Nat} {u : Int64} (h4 : (S.1 (89 + 3 * p) 4).toInt64 = u) (h1 : (S.1 (89 + 3 * p) 1).toInt64 = r (50 + 4 * p + 1)) (h2 : (S.1 (89 + 3 * p) 2).toInt64 = r (50 + 4 * p + 2)) (hW : WFp r p) (u0 : 0 ≤ u.toInt) (u1 : u.toInt ≤ 300000) : woC S (89 + 3 * p) = u * moreL 0 (r (50 + 4 * p + 1) - r (50 + 4 * p + 2)) ∧ 0 ≤ (u * moreL 0 (r (50 + 4 * p + 1) - r (50 + 4 * p + 2))).toInt ∧ (u * moreL 0 (r (50 + 4 * p + 1) - r (50 + 4 * p + 2))).toInt ≤ 3000000000 := by
  obtain ⟨-, ⟨a, a1, a2⟩, ⟨b, b1, b2⟩, -⟩ := hW
  have ta : (r (50 + 4 * p + 1)).toInt = (a : Int) := by rw [a2, lN_toInt (by omega)]
  have tb : (r (50 + 4 * p + 2)).toInt = (b : Int) := by rw [b2, lN_toInt (by omega)]
  have d64 : (r (50 + 4 * p + 1) - r (50 + 4 * p + 2)).toInt = (a : Int) - b := g_sub ta tb (by omega)
  have d32 : (S.1 (89 + 3 * p) 1 - S.1 (89 + 3 * p) 2).toInt64 = r (50 + 4 * p + 1) - r (50 + 4 * p + 2) := e64 (by rw [d64]; exact s_sub ((t64 h1).trans ta) ((t64 h2).trans tb) (by omega))
  have em : (if S.1 (89 + 3 * p) 1 - S.1 (89 + 3 * p) 2 < 0 then 0 else S.1 (89 + 3 * p) 1 - S.1 (89 + 3 * p) 2).toInt64 = moreL 0 (r (50 + 4 * p + 1) - r (50 + 4 * p + 2)) := by
    unfold moreL
    have := lt64 d32 i64_0
    by_cases z : S.1 (89 + 3 * p) 1 - S.1 (89 + 3 * p) 2 < 0
    · rw [if_pos z, if_pos (this.mp z)]; rfl
    · rw [if_neg z, if_neg (fun y => z (this.mpr y))]; exact d32
  have mr : 0 ≤ (moreL 0 (r (50 + 4 * p + 1) - r (50 + 4 * p + 2))).toInt ∧ (moreL 0 (r (50 + 4 * p + 1) - r (50 + 4 * p + 2))).toInt ≤ 9999 := by
    unfold moreL
    by_cases z : r (50 + 4 * p + 1) - r (50 + 4 * p + 2) < 0
    · rw [if_pos z, L0]; omega
    · rw [if_neg z]
      rw [Int64.lt_iff_toInt_lt, L0] at z
      omega
  have q0 := Int.mul_nonneg u0 mr.1
  have q1 : u.toInt * (moreL 0 (r (50 + 4 * p + 1) - r (50 + 4 * p + 2))).toInt ≤ 300000 * 9999 := Int.mul_le_mul u1 mr.2 mr.1 (by decide)
  have q2 : (u * moreL 0 (r (50 + 4 * p + 1) - r (50 + 4 * p + 2))).toInt = u.toInt * (moreL 0 (r (50 + 4 * p + 1) - r (50 + 4 * p + 2))).toInt := g_mul rfl rfl (by omega)
  refine ⟨?_, by omega, by omega⟩
  unfold woC
  rw [h4, em]
theorem sum_pos {f : Nat → Int64} : ∀ {m : Nat}, m ≤ 4 → (∀ p, p < m → 0 ≤ (f p).toInt ∧ (f p).toInt ≤ 3000000000) → 0 ≤ (sumN f m).toInt ∧ (sumN f m).toInt ≤ 3000000000 * m
  | 0, _, _ => ⟨by show 0 ≤ (0 : Int64).toInt; rw [L0]; omega, by show (0 : Int64).toInt ≤ _; rw [L0]; omega⟩
  | m + 1, hm, h => by
    obtain ⟨a, b⟩ := sum_pos (m := m) (by omega) (fun p hp => h p (by omega))
    obtain ⟨c, d⟩ := h m (Nat.lt_succ_self m)
    have e : (sumN f (m + 1)).toInt = (sumN f m).toInt + (f m).toInt := g_add rfl rfl (by omega)
    omega
theorem parts_cl {S1 S2 S3 S4 : Mem} {r : Nat → Int64} {l m : Nat} {f : Int32} {F O : Int64} (hm0 : 0 < m) (hm : m ≤ 4) (hT : ∀ p, p < m → proT S1 r p) (hW : ∀ p, p < m → WFp r p) (hsh : sumN (fun p => r (50 + 4 * p)) m = 100) (hF : f.toInt64 = F) (F0 : 0 ≤ F.toInt) (F1 : F.toInt ≤ 300000) (hl : l < 5)
    (u : unitR S1 S2 f m) (c : centR S2 S3 O m) (v : moveR S3 S4 l m) :
    (∀ p, p < m → (S4.1 (89 + 3 * p) 4).toInt64 = pU r F m p ∧ S4.2 (89 + 3 * p) 5 = pV r F m p ∧ S4.2 (89 + 3 * p) 6 = pF r F O m p) ∧ S4.2 (9 + 17 * l) 16 = S1.2 (9 + 17 * l) 16 + pX r F O m ∧ (∀ c j, c < 89 ∨ 101 ≤ c ∨ j ≠ 4 → S4.1 c j = S1.1 c j) ∧ ∀ c j, c < 89 ∨ 101 ≤ c ∨ c % 3 ≠ 2 ∨ (j ≠ 5 ∧ j ≠ 6) → (c ≠ 9 + 17 * l ∨ j ≠ 16) → S4.2 c j = S1.2 c j := by
  obtain ⟨u1, u2, u3⟩ := u
  have eU : ∀ p, p < m → (S2.1 (89 + 3 * p) 4).toInt64 = pU r F m p ∧ 0 ≤ (pU r F m p).toInt ∧ (pU r F m p).toInt ≤ F.toInt := fun p hp => by
    rw [(u1 p hp).1]; exact pU_eq hm hm0 hT hW hsh hF F0 F1 hp
  have eV : ∀ p, p < m → S2.2 (89 + 3 * p) 5 = pV r F m p ∧ 0 ≤ (pV r F m p).toInt ∧ (pV r F m p).toInt ≤ 3000000000 := fun p hp => by
    obtain ⟨a, b, c⟩ := eU p hp
    rw [(u1 p hp).2]
    exact pV_eq a (by rw [u2 _ _ (by omega)]; exact hT p hp 1 (by decide)) (by rw [u2 _ _ (by omega)]; exact hT p hp 2 (by decide)) (hW p hp) b (by omega)
  have eM : ∀ p, p < m → (mnP S2 p ↔ ¬ byP r p) := fun p hp => by
    have e3 : (S2.1 (89 + 3 * p) 3).toInt64 = r (50 + 4 * p + 3) := by rw [u2 _ _ (by omega)]; exact hT p hp 3 (by decide)
    have z := eq64 e3 i64_0
    refine ⟨fun a b => ?_, fun a => ?_⟩
    · have := z.mp a
      rw [b] at this
      exact absurd this (by decide)
    · rcases (hW p hp).2.2.2 with y | y
      · exact z.mpr y
      · exact absurd y a
  have eL : ∀ p, p ≤ m → opB S2 O p = pL r F O m p := by
    intro p
    induction p with
    | zero => exact fun _ => rfl
    | succ p ih =>
      intro hp
      have i := ih (by omega)
      have e5 := (eV p (by omega)).1
      show (if S2.1 (89 + 3 * p) 3 = 0 then opB S2 O p else opB S2 O p - minL (S2.2 (89 + 3 * p) 5) (opB S2 O p)) = (if byP r p then pL r F O m p - lessL (pL r F O m p) (pV r F m p) else pL r F O m p)
      by_cases z : byP r p
      · rw [if_pos z, if_neg (fun y => (eM p (by omega)).mp y z), i, e5]; rfl
      · rw [if_neg z, if_pos ((eM p (by omega)).mpr z), i]
  have ms0 : ∀ p, p < m → msC S2 0 p = pM r (pV r F m) p := fun p hp => by
    unfold msC pM
    by_cases z : byP r p
    · rw [if_pos z, if_neg (fun y => (eM p hp).mp y z)]
    · rw [if_neg z, if_pos ((eM p hp).mpr z), if_pos rfl]; exact (eV p hp).1
  have ms1 : ∀ p, p < m → msC S2 1 p = pM r (pU r F m) p := fun p hp => by
    unfold msC pM
    by_cases z : byP r p
    · rw [if_pos z, if_neg (fun y => (eM p hp).mp y z)]
    · rw [if_neg z, if_pos ((eM p hp).mpr z), if_neg (by decide)]; exact (eU p hp).1
  have s0 : sumN (msC S2 0) m = sumN (pM r (pV r F m)) m := sumN_congr ms0
  have s1 : sumN (msC S2 1) m = sumN (pM r (pU r F m)) m := sumN_congr ms1
  have sp : 0 ≤ (sumN (pM r (pV r F m)) m).toInt := (sum_pos hm (fun p hp => by
    unfold pM
    split
    · rw [L0]; omega
    · exact (eV p hp).2)).1
  have eG : ∀ p, p < m → gM S2 m (pL r F O m m) p = pG r F O m p := fun p hp => by
    unfold gM pG
    by_cases z : byP r p
    · rw [if_pos z, if_neg (fun y => (eM p hp).mp y z)]
    · rw [if_neg z, if_pos ((eM p hp).mpr z)]
      by_cases y : sumN (pM r (pV r F m)) m = 0
      · have eb : mB S2 m = 1 := by unfold mB; rw [s0, if_pos y]
        rw [eb, s1, ms1 p hp, if_neg (by rw [y]; decide), pM, if_neg z]
      · have eb : mB S2 m = 0 := by unfold mB; rw [s0, if_neg y]
        have y' : 0 < sumN (pM r (pV r F m)) m := by
          rw [Int64.lt_iff_toInt_lt, L0]
          have : (sumN (pM r (pV r F m)) m).toInt ≠ 0 := fun x => y (Int64.toInt_inj.mp x)
          omega
        rw [eb, s0, ms0 p hp, if_pos y', pM, if_neg z]
  have sG : sumN (gM S2 m (pL r F O m m)) m = sumN (pG r F O m) m := sumN_congr eG
  obtain ⟨c1, ⟨q, qm, q1, q2, q3⟩, c3, c4⟩ := c
  rw [eL m (Nat.le_refl m)] at q3
  have hq : ∀ p, p < q → byP r p := fun p hp => Decidable.of_not_not fun z => q2 p hp ((eM p (by omega)).mpr z)
  have eC : ∀ p, p < m → S3.2 (89 + 3 * p) 6 = pC r F O m p := fun p hp => by
    unfold pC
    by_cases z : byP r p
    · rw [if_pos z, c3 p hp (fun y => (eM p hp).mp y z), eL p (by omega), (eV p hp).1]; rfl
    · rw [if_neg z, q3 p hp ((eM p hp).mpr z), eG p hp, sG]
      by_cases y : p = q
      · rw [if_pos y, if_pos (show ∀ j, j < p → byP r j from fun j hj => hq j (by omega))]
      · rw [if_neg y, if_neg (fun g : ∀ j, j < p → byP r j => ?_)]
        rcases (show p < q ∨ q < p by omega) with x | x
        · exact z (hq p x)
        · exact (eM q qm).mp q1 (g q x)
  have nP : ∀ p, p < m → (unP S3 p ↔ 0 < pU r F m p) := fun p hp => by
    obtain ⟨a, b, -⟩ := eU p hp
    have z : S3.1 (89 + 3 * p) 4 = 0 ↔ pU r F m p = 0 := by rw [c1]; exact eq64 a i64_0
    rw [Int64.lt_iff_toInt_lt, L0]
    refine ⟨fun x => ?_, fun x y => ?_⟩
    · have : (pU r F m p).toInt ≠ 0 := fun y => x (z.mpr (Int64.toInt_inj.mp y))
      omega
    · rw [z.mp y, L0] at x
      omega
  have eZ : ∀ p, p < m → uuC S3 p = pZ r F O m p := fun p hp => by
    unfold uuC pZ
    by_cases z : 0 < pU r F m p
    · rw [if_pos z, if_neg ((nP p hp).mpr z)]
    · rw [if_neg z, if_pos (Decidable.of_not_not fun y => z ((nP p hp).mp y)), eC p hp]
  have sZ : sumN (uuC S3) m = sumN (pZ r F O m) m := sumN_congr eZ
  obtain ⟨v1, v2, v3⟩ := v
  rw [sZ] at v3
  have i4 : ∀ c j, c < 89 ∨ 101 ≤ c ∨ j ≠ 4 → S4.1 c j = S1.1 c j := fun c j h => by rw [v1, c1]; exact u2 c j h
  have x5 : ∀ (b : Prop), (∀ c i, c < 89 ∨ 101 ≤ c ∨ c % 3 ≠ 2 ∨ i ≠ 6 → (c ≠ 9 + 17 * l ∨ i ≠ 16) → S4.2 c i = S3.2 c i) → (∀ p, p < m → S4.2 (89 + 3 * p) 5 = pV r F m p) ∧ ∀ c j, c < 89 ∨ 101 ≤ c ∨ c % 3 ≠ 2 ∨ (j ≠ 5 ∧ j ≠ 6) → (c ≠ 9 + 17 * l ∨ j ≠ 16) → S4.2 c j = S1.2 c j := fun _ g => by
    refine ⟨fun p hp => ?_, fun c j h1 h2 => ?_⟩
    · rw [g _ _ (by omega) (by omega), c4 _ _ (by omega)]; exact (eV p hp).1
    · rw [g _ _ (by omega) h2, c4 _ _ (by omega), u3 _ _ (by omega)]
  have z4 : ∀ p, p < m → ¬ 0 < pU r F m p → S4.2 (89 + 3 * p) 6 = 0 := fun p hp z => v2 p hp (Decidable.of_not_not fun y => z ((nP p hp).mp y))
  have a16 : S3.2 (9 + 17 * l) 16 = S1.2 (9 + 17 * l) 16 := by rw [c4 _ _ (by omega), u3 _ _ (by omega)]
  rcases v3 with ⟨t, t1, t2, t3, t4, t5⟩ | ⟨t1, t2, t3⟩
  · obtain ⟨g1, g2⟩ := x5 True (fun c i h _ => t5 c i h)
    refine ⟨fun p hp => ⟨by rw [v1, c1]; exact (eU p hp).1, g1 p hp, ?_⟩, ?_, i4, g2⟩
    · unfold pF
      by_cases z : 0 < pU r F m p
      · rw [if_pos z, t4 p hp ((nP p hp).mpr z), eC p hp]
        by_cases y : p = t
        · rw [if_pos y, if_pos (show ∀ j, j < p → ¬ 0 < pU r F m j from fun j hj x => t3 j (by omega) ((nP j (by omega)).mpr x))]
        · rw [if_neg y, if_neg (fun g : ∀ j, j < p → ¬ 0 < pU r F m j => ?_)]
          rcases (show p < t ∨ t < p by omega) with x | x
          · exact t3 p x ((nP p hp).mpr z)
          · exact g t x ((nP t t1).mp t2)
      · rw [if_neg z]; exact z4 p hp z
    · unfold pX
      rw [if_neg (fun g : ∀ j, j < m → ¬ 0 < pU r F m j => g t t1 ((nP t t1).mp t2)), Int64.add_zero, t5 _ _ (by omega), a16]
  · obtain ⟨g1, g2⟩ := x5 True t3
    have al : ∀ j, j < m → ¬ 0 < pU r F m j := fun j hj x => t1 j hj ((nP j hj).mpr x)
    refine ⟨fun p hp => ⟨by rw [v1, c1]; exact (eU p hp).1, g1 p hp, ?_⟩, ?_, i4, g2⟩
    · unfold pF
      rw [if_neg (al p hp)]; exact z4 p hp (al p hp)
    · unfold pX
      rw [if_pos al, t2, a16]
