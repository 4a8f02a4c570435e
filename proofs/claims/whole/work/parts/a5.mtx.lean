/-! ===== the model's isDesk, text ===== -/
set_option maxHeartbeats 1000000 in
theorem e_isDesk {n m : Nat} {w : Nat → Int64} (S : Mem) (hr : TR S w) (hf : WFt w n m) {Qr : QR} {Qx : QX} (h1 : pWhl w n m → Qr (some (.int 1)) S) (h0 : ¬ pWhl w n m → Qr (some (.int 0)) S) : vsp 156 10 (sX10_isDesk 156) [.ref 138] S Qr Qx := by
  have n5 := hf.1
  have m4 := hf.2.1
  have s0 : S.2 142 0 = lN n := (hr 0 (by decide)).trans hf.2.2.1
  have s1 : S.2 142 1 = lN m := (hr 1 (by decide)).trans hf.2.2.2.1
  refine ⟨tM, runL (α := Nat × Int32) rfl 100 7 0 (fun b => [(4, .int (nI b.1)), (3, .int b.2), (1, .long (sumN (fun p => w (50 + 4 * p)) b.1)), (0, .ref 138)]) (fun _ => S) (fun b => m - b.1) (fun b => b.1 ≤ m ∧ ((b.2 = 1 ∧ ∃ p, p < b.1 ∧ w (50 + 4 * p + 3) = 0) ∨ (b.2 = 0 ∧ ∀ p, p < b.1 → ¬ w (50 + 4 * p + 3) = 0))) ?_ ?_⟩
  · rintro ⟨i, b⟩ ⟨hi, hb⟩
    dsimp only at hi hb
    refine ⟨tM, 754, tTold, vp_nI (n := 1) (by decide), And.intro (fun q => ?_) (fun q => ?_)⟩
    · have q := le_lN s1 (y := nI i) rfl hi (by omega) ((lg_cmp_ge _ _).mp q)
      subst q
      refine ⟨tM, 754, tTold, vp_nI (n := 0) (by decide), And.intro (fun x => ⟨Or.inl rfl, h0 (fun y => ?_)⟩) (fun x => And.intro (fun y => ⟨Or.inl rfl, h0 (fun z => y ((lg_cmp_eq _ _).mpr z.2.1))⟩) (fun y => ?_))⟩
      · have x : S.2 142 0 ≤ lN 0 := (lg_cmp_le _ _).mp x
        rw [s0] at x
        have x := (lN_le (by omega) (by decide)).mp x
        have := y.1
        omega
      · have y1 : sumN (fun p => w (50 + 4 * p)) i = 100 := (lg_cmp_eq _ _).mp y
        have n0 : 0 < n := by
          rcases Nat.eq_zero_or_pos n with e | e
          · subst e
            exact absurd ((lg_cmp_le _ _).mpr (show S.2 142 0 ≤ lN 0 by rw [s0]; decide)) x
          · exact e
        rcases hb with ⟨rfl, e⟩ | ⟨rfl, e⟩
        · exact And.intro (fun z => absurd (show (1 : Int32) = 0 from z) (by decide)) (fun _ => ⟨Or.inr rfl, h1 ⟨n0, y1, e⟩⟩)
        · refine And.intro (fun _ => ⟨Or.inl rfl, h0 (fun z => ?_)⟩) (fun z => absurd rfl z)
          obtain ⟨p, q1, q2⟩ := z.2.2
          exact e p q1 q2
    · have q := lt_lN s1 (y := nI i) rfl hi (by omega) (fun z => q ((lg_cmp_ge _ _).mpr z))
      have ix : nI 50 + nI 4 * nI i = nI (50 + 4 * i) := by rw [pk_mul, nI_add]
      have ix3 : nI 50 + nI 4 * nI i + nI 3 = nI (50 + 4 * i + 3) := by rw [ix, nI_add]
      have c0 : S.2 142 (nI 50 + nI 4 * nI i).toNatClampNeg = w (50 + 4 * i) := by rw [ix, nI_clamp (by omega)]; exact hr _ (by omega)
      have c3 : S.2 142 (nI 50 + nI 4 * nI i + nI 3).toNatClampNeg = w (50 + 4 * i + 3) := by rw [ix3, nI_clamp (by omega)]; exact hr _ (by omega)
      have v0 : vp_in (nI 50 + nI 4 * nI i) 754 := by rw [ix]; exact vp_nI (by omega)
      have v3 : vp_in (nI 50 + nI 4 * nI i + nI 3) 754 := by rw [ix3]; exact vp_nI (by omega)
      have ad : sumN (fun p => w (50 + 4 * p)) i + S.2 142 (nI 50 + nI 4 * nI i).toNatClampNeg = sumN (fun p => w (50 + 4 * p)) (i + 1) := by rw [c0]; rfl
      refine ⟨tM, 754, tTold, v0, tM, 754, tTold, v3, And.intro (fun x => ?_) (fun x => ?_)⟩
      · have x : ¬ w (50 + 4 * i + 3) = 0 := fun e => x ((lg_cmp_eq _ _).mpr (c3.trans e))
        refine ⟨rfl, rfl, (i + 1, b), ⟨⟨q, ?_⟩, by show m - (i + 1) < m - i; omega⟩, rfl, congrArg (fun z => some (Value.int z)) (nI_1 i), ?_, congrArg (fun z => some (Value.long z)) ad, rfl, trivial⟩
        · rcases hb with ⟨e, p, p1, p2⟩ | ⟨e, f⟩
          · exact Or.inl ⟨e, p, by show p < i + 1; omega, p2⟩
          · refine Or.inr ⟨e, fun p hp => ?_⟩
            have hp : p < i + 1 := hp
            by_cases z : p = i
            · rw [z]; exact x
            · exact f p (by omega)
        · refine congrArg (fun z => some (Value.int z)) ?_
          show b ||| 0 = b
          rcases hb with ⟨rfl, -⟩ | ⟨rfl, -⟩ <;> decide
      · have x : w (50 + 4 * i + 3) = 0 := c3.symm.trans ((lg_cmp_eq _ _).mp x)
        refine ⟨rfl, rfl, (i + 1, 1), ⟨⟨q, Or.inl ⟨rfl, i, by show i < i + 1; omega, x⟩⟩, by show m - (i + 1) < m - i; omega⟩, rfl, congrArg (fun z => some (Value.int z)) (nI_1 i), ?_, congrArg (fun z => some (Value.long z)) ad, rfl, trivial⟩
        refine congrArg (fun z => some (Value.int z)) ?_
        show b ||| 1 = 1
        rcases hb with ⟨rfl, -⟩ | ⟨rfl, -⟩ <;> decide
  · exact ⟨rfl, rfl, (0, 0), ⟨Nat.zero_le _, Or.inr ⟨rfl, fun p hp => absurd hp (Nat.not_lt_zero p)⟩⟩, rfl, rfl, rfl, rfl, rfl, trivial⟩
def FLA (S : Mem) (R : RA) : Prop := ∃ r pl, R = .inl (r, pl) ∧ ¬ r = 0 ∧ S.1 138 6 = r ∧ S.1 138 7 = nI pl
/-- the model's numbers 2 .. 14 aside, and the told row, all is as in S -/
def MU (S S' : Mem) : Prop := (∀ c, c ≠ 142 → S'.2 c = S.2 c) ∧ (∀ c, c ≠ 138 → S'.1 c = S.1 c) ∧ S'.1 138 0 = S.1 138 0 ∧ S'.1 138 2 = S.1 138 2 ∧ S'.1 138 3 = S.1 138 3 ∧ S'.1 138 13 = S.1 138 13
theorem MT.mu {J : List Nat} {S S' : Mem} (h : MT J S S') (hJ : ∀ j, j ∈ J → j = 4 ∨ j = 6 ∨ j = 7 ∨ j = 14) : MU S S' := by
  have k : ∀ j, j ≠ 4 → j ≠ 6 → j ≠ 7 → j ≠ 14 → S'.1 138 j = S.1 138 j := fun j a b c d => h.2.2 j (fun y => by rcases hJ j y with z | z | z | z <;> omega)
  exact ⟨h.1, h.2.1, k 0 (by decide) (by decide) (by decide) (by decide), k 2 (by decide) (by decide) (by decide) (by decide), k 3 (by decide) (by decide) (by decide) (by decide), k 13 (by decide) (by decide) (by decide) (by decide)⟩
theorem MU.trans {S T U : Mem} (h : MU S T) (k : MU T U) : MU S U := ⟨fun c x => (k.1 c x).trans (h.1 c x), fun c x => (k.2.1 c x).trans (h.2.1 c x), k.2.2.1.trans h.2.2.1, k.2.2.2.1.trans h.2.2.2.1, k.2.2.2.2.1.trans h.2.2.2.2.1, k.2.2.2.2.2.trans h.2.2.2.2.2⟩
theorem MU.re {S : Mem} : MU S S := ⟨fun _ _ => rfl, fun _ _ => rfl, rfl, rfl, rfl, rfl⟩
