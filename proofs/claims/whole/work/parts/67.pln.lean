/-! ===== the plan's rounds ===== -/
/-- what a round makes of the flows x, with the backs of the first departments -/
def rnd (rt sh : Nat → Int64) (bt : Nat → Int32) (nn : Int64) (x : Nat → Int64) : Nat → Nat → Int64
  | 0, d => if d = 0 then nn else x (d - 1) - x (d - 1) * rt (d - 1) / 100
  | e + 1, d => rnd rt sh bt nn x e d + if bt e = nI d then x e * rt e / 100 * sh e / 100 else 0
def rtS (S : Mem) (e : Nat) : Int64 := (S.1 (4 + 17 * e) 2).toInt64
def shS (S : Mem) (e : Nat) : Int64 := (S.1 (4 + 17 * e) 7).toInt64
def btS (S : Mem) (e : Nat) : Int32 := S.1 (4 + 17 * e) 6
def rndS (S : Mem) (nn : Int64) : Nat → Nat → Int64 := rnd (rtS S) (shS S) (btS S) nn (S.2 124)
def okB (S : Mem) (m : Nat) : Prop := ∀ e, e < m → S.1 (4 + 17 * e) 6 = -1 ∨ ∃ b, b ≤ e ∧ S.1 (4 + 17 * e) 6 = nI b
set_option maxHeartbeats 1000000 in
theorem e_takeFresh {m : Nat} (hm : m ≤ 5) (S : Mem) {Qr : QR} {Qx : QX} (h1 : (∃ d, d < m ∧ S.2 125 d ≠ S.2 124 d) → ∀ X : Nat → Nat → Int64, (∀ d, d < m → X 124 d = S.2 125 d) → (∀ d, m ≤ d → X 124 d = S.2 124 d) → (∀ c, c ≠ 124 → X c = S.2 c) → Qr (some (.int 1)) (S.1, X))
    (h0 : (∀ d, d < m → S.2 125 d = S.2 124 d) → ∀ X : Nat → Nat → Int64, (∀ d, d < m → X 124 d = S.2 125 d) → (∀ d, m ≤ d → X 124 d = S.2 124 d) → (∀ c, c ≠ 124 → X c = S.2 c) → Qr (some (.int 0)) (S.1, X)) : vsp 156 5 (sX5_takeFresh 156) [.ref 123, .int (nI m)] S Qr Qx := by
  have t0 : tyN 156 123 = (0, 5, 0, 0) := rfl
  have t4 : tyN 156 124 = (1, 5, 0, 0) := rfl
  have t5 : tyN 156 125 = (1, 5, 0, 0) := rfl
  refine ⟨t0, runL (α := Nat × Int32 × (Nat → Nat → Int64)) rfl 60 4 0 (fun a => [(3, .int (nI a.1)), (2, .int a.2.1), (1, .int (nI m)), (0, .ref 123)]) (fun a => (S.1, a.2.2)) (fun a => m - a.1)
    (fun a => a.1 ≤ m ∧ ((a.2.1 = 1 ∧ ∃ d, d < a.1 ∧ S.2 125 d ≠ S.2 124 d) ∨ (a.2.1 = 0 ∧ ∀ d, d < a.1 → S.2 125 d = S.2 124 d)) ∧ (∀ d, d < a.1 → a.2.2 124 d = S.2 125 d) ∧ (∀ d, a.1 ≤ d → a.2.2 124 d = S.2 124 d) ∧ ∀ c, c ≠ 124 → a.2.2 c = S.2 c) ?_ ?_⟩
  · rintro ⟨i, b, X⟩ ⟨hi, hb, hx, hy, hz⟩
    dsimp only at hi hb hx hy hz
    refine And.intro (fun a1 => ?_) (fun a1 => ?_)
    · obtain rfl := le_of_nI (by omega) hi a1
      rcases hb with ⟨rfl, w⟩ | ⟨rfl, w⟩
      · exact ⟨Or.inr rfl, h1 w X hx hy hz⟩
      · exact ⟨Or.inl rfl, h0 w X hx hy hz⟩
    · have hlt := lt_of_nI (by omega) hi a1
      have hcl : (nI i).toNatClampNeg = i := nI_clamp (by omega)
      have e5 : X 125 (nI i).toNatClampNeg = S.2 125 i := by rw [hcl, hz 125 (by decide)]
      have e4 : X 124 (nI i).toNatClampNeg = S.2 124 i := by rw [hcl]; exact hy i (Nat.le_refl i)
      have fin : ∀ b' : Int32, ((b' = 1 ∧ ∃ d, d < i + 1 ∧ S.2 125 d ≠ S.2 124 d) ∨ (b' = 0 ∧ ∀ d, d < i + 1 → S.2 125 d = S.2 124 d)) → ∃ a' : Nat × Int32 × (Nat → Nat → Int64), ((a'.1 ≤ m ∧ ((a'.2.1 = 1 ∧ ∃ d, d < a'.1 ∧ S.2 125 d ≠ S.2 124 d) ∨ (a'.2.1 = 0 ∧ ∀ d, d < a'.1 → S.2 125 d = S.2 124 d)) ∧ (∀ d, d < a'.1 → a'.2.2 124 d = S.2 125 d) ∧ (∀ d, a'.1 ≤ d → a'.2.2 124 d = S.2 124 d) ∧ ∀ c, c ≠ 124 → a'.2.2 c = S.2 c) ∧ m - a'.1 < m - i) ∧ (S.1, u2 X 124 (nI i).toNatClampNeg (X 125 (nI i).toNatClampNeg)) = (S.1, a'.2.2) ∧ some (Value.int (nI i + 1)) = some (Value.int (nI a'.1)) ∧ some (Value.int b') = some (Value.int a'.2.1) := by
        intro b' hb'
        refine ⟨(i + 1, b', u2 X 124 i (S.2 125 i)), ⟨⟨by show i + 1 ≤ m; omega, hb', fun d x => ?_, fun d x => ?_, fun c x => ?_⟩, by show m - (i + 1) < m - i; omega⟩, ?_, congrArg (fun z => some (Value.int z)) (nI_1 i), rfl⟩
        · have x : d < i + 1 := x
          show u2 X 124 i (S.2 125 i) 124 d = _
          by_cases z : d = i
          · subst z; exact u2_s _ _ _ _
          · rw [u2_j _ _ _ _ z]; exact hx d (by omega)
        · have x : i + 1 ≤ d := x
          show u2 X 124 i (S.2 125 i) 124 d = _
          rw [u2_j _ _ _ _ (by omega)]; exact hy d (by omega)
        · exact (u2_other _ _ _ x).trans (hz c x)
        · rw [e5, hcl]
      rcases hb with ⟨rfl, w⟩ | ⟨rfl, w⟩
      · obtain ⟨a', A, B, C, D⟩ := fin 1 (Or.inl ⟨rfl, by obtain ⟨d, x, y⟩ := w; exact ⟨d, by omega, y⟩⟩)
        exact And.intro (fun _ => ⟨t0, t0, 5, t5, vp_nI (by omega), 5, t4, vp_nI (by omega), rfl, rfl, a', A, B, C, D, rfl, rfl, trivial⟩) (fun x => absurd (show (1 : Int32) = 0 from x) (by decide))
      · refine And.intro (fun x => absurd rfl x) (fun _ => ⟨t0, 5, t5, vp_nI (by omega), t0, 5, t4, vp_nI (by omega), And.intro (fun x => ?_) (fun x => ?_)⟩)
        · have x : X 125 (nI i).toNatClampNeg = X 124 (nI i).toNatClampNeg := (lg_cmp_eq _ _).mp x
          rw [e5, e4] at x
          obtain ⟨a', A, B, C, D⟩ := fin 0 (Or.inr ⟨rfl, fun d y => by
            by_cases z : d = i
            · rw [z]; exact x
            · exact w d (by omega)⟩)
          exact ⟨t0, t0, 5, t5, vp_nI (by omega), 5, t4, vp_nI (by omega), rfl, rfl, a', A, B, C, D, rfl, rfl, trivial⟩
        · have x : ¬ X 125 (nI i).toNatClampNeg = X 124 (nI i).toNatClampNeg := fun e => x ((lg_cmp_eq _ _).mpr e)
          rw [e5, e4] at x
          obtain ⟨a', A, B, C, D⟩ := fin 1 (Or.inl ⟨rfl, i, by omega, x⟩)
          exact ⟨t0, t0, 5, t5, vp_nI (by omega), 5, t4, vp_nI (by omega), rfl, rfl, a', A, B, C, D, rfl, rfl, trivial⟩
  · exact ⟨rfl, rfl, (0, 0, S.2), ⟨Nat.zero_le _, Or.inr ⟨rfl, fun d x => absurd x (Nat.not_lt_zero d)⟩, fun d x => absurd x (Nat.not_lt_zero d), fun d _ => rfl, fun c _ => rfl⟩, rfl, rfl, rfl, rfl, rfl, trivial⟩
