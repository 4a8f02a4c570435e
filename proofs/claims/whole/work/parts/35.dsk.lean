/-! ===== the desk: clear, tellFirst ===== -/
/-- a method with two loops, one behind the other -/
theorem runL2 {α β : Type} {N : Nat} {prog : List PI} {calls : List (Nat × Nat × SP)} {hdl : Nat → String → Option Nat} {thr : List String} {nL : Nat} {rt : Option FieldType} {n : Nat} {as : List Value} {S : Mem} {Qr : Option Value → Mem → Prop} {Qx : String → Mem → Prop} (hsz : Nat.ble (szV as) nL = true) (fuel pc1 rc1 pc2 rc2 : Nat) (L1 : α → LL) (S1 : α → Mem) (μ1 : α → Nat) (I1 : α → Prop) (L2 : β → LL) (S2 : β → Mem) (μ2 : β → Nat) (I2 : β → Prop)
    (step2 : ∀ a, I2 a → wpH N prog calls hdl thr none nL rt Qr Qx [(pc2, LC rc2 L2 S2 (fun a' => I2 a' ∧ μ2 a' < μ2 a))] fuel (jmp pc2 prog) rc2 (L2 a) [] (S2 a))
    (step1 : ∀ a, I1 a → wpH N prog calls hdl thr none nL rt Qr Qx [(pc1, LC rc1 L1 S1 (fun a' => I1 a' ∧ μ1 a' < μ1 a)), (pc2, LC rc2 L2 S2 I2)] fuel (jmp pc1 prog) rc1 (L1 a) [] (S1 a))
    (h : wpH N prog calls hdl thr none nL rt Qr Qx [(pc1, LC rc1 L1 S1 I1)] fuel (jmp 0 prog) n (la 0 as) [] S) : RUN N prog calls hdl thr nL rt n as S Qr Qx :=
  ⟨Nat.le_of_ble_eq_true hsz, fun _ hG hw => hG _ fuel 0 n _ _ _ (loopB hG hw pc1 rc1 fuel L1 S1 μ1 I1 _ (loopB hG hw pc2 rc2 fuel L2 S2 μ2 I2 [] noCuts step2) step1) h⟩
def depZ0 (S : Mem) (k : Nat) : Prop := depZ S S k
def proZ0 (S : Mem) (k : Nat) : Prop := proZ S S k
theorem monZ.move {S T U V : Mem} {q : Nat} (h : monZ S T q) (e : ∀ c, q ≤ c → c ≤ q + 11 → U.1 c = T.1 c ∧ U.2 c = T.2 c) (f1 : ∀ c, c < q ∨ q + 11 < c → U.1 c = V.1 c) (f2 : ∀ c, c < q ∨ q + 11 < c → U.2 c = V.2 c) : monZ V U q := by
  obtain ⟨⟨a1, a2, a3, a4⟩, h2, h3, h4, h5, -, -⟩ := h
  refine ⟨⟨?_, ?_, ?_, ?_⟩, fun j x y => ?_, fun j x => ?_, fun i x y j z => ?_, fun j x y => ?_, f1, f2⟩
  · rw [(e _ (by omega) (by omega)).1]; exact a1
  · rw [(e _ (by omega) (by omega)).1]; exact a2
  · rw [(e _ (by omega) (by omega)).1]; exact a3
  · rw [(e _ (by omega) (by omega)).1]; exact a4
  · rw [(e _ (by omega) (by omega)).1]; exact h2 j x y
  · rw [(e _ (by omega) (by omega)).2]; exact h3 j x
  · rw [(e _ (by omega) (by omega)).2]; exact h4 i x y j z
  · rw [(e _ (by omega) (by omega)).2]; exact h5 j x y
theorem depZ.move {S T U : Mem} {k : Nat} (h : depZ S T k) (e : ∀ c, k ≤ c → c ≤ k + 16 → U.1 c = T.1 c ∧ U.2 c = T.2 c) : depZ0 U k := by
  obtain ⟨⟨a1, a2, a3, a4, a5, a6, a7, a8, a9, a10⟩, h2, h3, ⟨b1, b2, b3⟩, h5, -, -⟩ := h
  have e0 := (e k (by omega) (by omega)).1
  refine ⟨⟨?_, ?_, ?_, ?_, ?_, ?_, ?_, ?_, ?_, ?_⟩, fun j x => ?_, fun j x => ?_, ⟨?_, ?_, fun j x => ?_⟩, h5.move (fun c x y => e c (by omega) (by omega)) (fun _ _ => rfl) (fun _ _ => rfl), fun _ _ => rfl, fun _ _ => rfl⟩
  · rw [e0]; exact a1
  · rw [e0]; exact a2
  · rw [e0]; exact a3
  · rw [e0]; exact a4
  · rw [e0]; exact a5
  · rw [e0]; exact a6
  · rw [e0]; exact a7
  · rw [e0]; exact a8
  · rw [e0]; exact a9
  · rw [e0]; exact a10
  · rw [(e _ (by omega) (by omega)).2]; exact h2 j x
  · rw [(e _ (by omega) (by omega)).2]; exact h3 j x
  · rw [(e _ (by omega) (by omega)).1]; exact b1
  · rw [(e _ (by omega) (by omega)).1]; exact b2
  · rw [(e _ (by omega) (by omega)).2]; exact b3 j x
theorem proZ.move {S T U : Mem} {k : Nat} (h : proZ S T k) (e : ∀ c, k ≤ c → c ≤ k + 2 → U.1 c = T.1 c ∧ U.2 c = T.2 c) : proZ0 U k := by
  obtain ⟨h1, h2, h3, h4, h5, -, -⟩ := h
  have e0 := e k (by omega) (by omega)
  refine ⟨fun j x => ?_, ?_, ?_, ?_, fun j x => ⟨?_, ?_⟩, fun _ _ => rfl, fun _ _ => rfl⟩
  · rw [e0.1]; exact h1 j x
  · rw [e0.1]; exact h2
  · rw [e0.2]; exact h3
  · rw [e0.2]; exact h4
  · rw [(e _ (by omega) (by omega)).2]; exact (h5 j x).1
  · rw [(e _ (by omega) (by omega)).2]; exact (h5 j x).2
/-- a desk of nothing -/
def dskZ (S S' : Mem) : Prop := (∀ d, d < 5 → depZ0 S' (4 + 17 * d)) ∧ (∀ p, p < 4 → proZ0 S' (89 + 3 * p)) ∧ (S'.1 1 2 = 0 ∧ S'.1 1 3 = 0 ∧ S'.1 1 4 = 1 ∧ S'.1 1 5 = 0 ∧ S'.1 1 6 = 0) ∧ (S'.2 1 7 = 0 ∧ S'.2 1 8 = 0 ∧ S'.2 1 9 = 0 ∧ S'.2 1 10 = 0) ∧ (∀ c, c = 0 ∨ 101 ≤ c → S'.1 c = S.1 c) ∧ ∀ c, c = 0 ∨ 101 ≤ c → S'.2 c = S.2 c
set_option maxHeartbeats 4000000 in
theorem e_dskClear {N : Nat} (hN : 138 ≤ N) (S : Mem) {Qr : QR} {Qx : QX} (h : ∀ S', dskZ S S' → Qr none S') : vsp N 1 (sX1_clear N) [.ref 1] S Qr Qx := by
  have t1 : tyN N 1 = (0, 1, 0, 0) := tyN_mono (N := 138) rfl (by decide) hN
  have t2 : tyN N 2 = (4, 5, 4, 17) := tyN_mono (N := 138) rfl (by decide) hN
  have t3 : tyN N 3 = (5, 4, 89, 3) := tyN_mono (N := 138) rfl (by decide) hN
  refine ⟨t1, runL2 (α := Nat × Mem) (β := Nat × Mem) rfl 120 10 0 41 0 (fun a => [(3, .int (nI a.1)), (2, .int (nI 5)), (1, .ref 2), (0, .ref 1)]) (fun a => a.2) (fun a => 5 - a.1) (fun a => a.1 ≤ 5 ∧ (∀ d, d < a.1 → depZ0 a.2 (4 + 17 * d)) ∧ ∀ c, c < 4 ∨ 89 ≤ c → a.2.1 c = S.1 c ∧ a.2.2 c = S.2 c)
    (fun a => [(3, .int (nI a.1)), (2, .int (nI 4)), (1, .ref 3), (0, .ref 1)]) (fun a => a.2) (fun a => 4 - a.1) (fun a => a.1 ≤ 4 ∧ (∀ d, d < 5 → depZ0 a.2 (4 + 17 * d)) ∧ (∀ p, p < a.1 → proZ0 a.2 (89 + 3 * p)) ∧ ∀ c, c < 4 ∨ 101 ≤ c → a.2.1 c = S.1 c ∧ a.2.2 c = S.2 c) ?_ ?_ ?_⟩
  · rintro ⟨i, T⟩ ⟨hi, hd, hp, hf⟩
    dsimp only at hi hd hp hf
    refine And.intro (fun h1 => ?_) (fun h1 => ?_)
    · obtain rfl := le_of_nI (by decide) hi h1
      refine ⟨t1, t1, t1, t1, t1, t1, t1, t1, t1, rfl, h _ ?_⟩
      refine ⟨fun d hd9 => (hd d hd9).move (fun c x y => ⟨?_, ?_⟩), fun p hp9 => (hp p hp9).move (fun c x y => ⟨?_, ?_⟩), ⟨?_, ?_, ?_, ?_, ?_⟩, ⟨?_, ?_, ?_, ?_⟩, fun c hc => ?_, fun c hc => ?_⟩
      · funext j; simp (disch := omega) only [↓u2_s, ↓u2_k, ↓u2_j, ↓tkr_k, ↓tkr_i, ↓zr_k, ↓zr_i, ↓cpr_k, ↓cpr_i]
      · funext j; simp (disch := omega) only [↓u2_s, ↓u2_k, ↓u2_j, ↓tkr_k, ↓tkr_i, ↓zr_k, ↓zr_i, ↓cpr_k, ↓cpr_i]
      · funext j; simp (disch := omega) only [↓u2_s, ↓u2_k, ↓u2_j, ↓tkr_k, ↓tkr_i, ↓zr_k, ↓zr_i, ↓cpr_k, ↓cpr_i]
      · funext j; simp (disch := omega) only [↓u2_s, ↓u2_k, ↓u2_j, ↓tkr_k, ↓tkr_i, ↓zr_k, ↓zr_i, ↓cpr_k, ↓cpr_i]
      · simp (disch := omega) only [↓u2_s, ↓u2_k, ↓u2_j, ↓tkr_k, ↓tkr_i, ↓zr_k, ↓zr_i, ↓cpr_k, ↓cpr_i]
      · simp (disch := omega) only [↓u2_s, ↓u2_k, ↓u2_j, ↓tkr_k, ↓tkr_i, ↓zr_k, ↓zr_i, ↓cpr_k, ↓cpr_i]
      · simp (disch := omega) only [↓u2_s, ↓u2_k, ↓u2_j, ↓tkr_k, ↓tkr_i, ↓zr_k, ↓zr_i, ↓cpr_k, ↓cpr_i]
      · simp (disch := omega) only [↓u2_s, ↓u2_k, ↓u2_j, ↓tkr_k, ↓tkr_i, ↓zr_k, ↓zr_i, ↓cpr_k, ↓cpr_i]
      · simp (disch := omega) only [↓u2_s, ↓u2_k, ↓u2_j, ↓tkr_k, ↓tkr_i, ↓zr_k, ↓zr_i, ↓cpr_k, ↓cpr_i]
      · simp (disch := omega) only [↓u2_s, ↓u2_k, ↓u2_j, ↓tkr_k, ↓tkr_i, ↓zr_k, ↓zr_i, ↓cpr_k, ↓cpr_i]
      · simp (disch := omega) only [↓u2_s, ↓u2_k, ↓u2_j, ↓tkr_k, ↓tkr_i, ↓zr_k, ↓zr_i, ↓cpr_k, ↓cpr_i]
      · simp (disch := omega) only [↓u2_s, ↓u2_k, ↓u2_j, ↓tkr_k, ↓tkr_i, ↓zr_k, ↓zr_i, ↓cpr_k, ↓cpr_i]
      · simp (disch := omega) only [↓u2_s, ↓u2_k, ↓u2_j, ↓tkr_k, ↓tkr_i, ↓zr_k, ↓zr_i, ↓cpr_k, ↓cpr_i]
      · rw [← (hf c (by omega)).1]; funext j; simp (disch := omega) only [↓u2_s, ↓u2_k, ↓u2_j, ↓tkr_k, ↓tkr_i, ↓zr_k, ↓zr_i, ↓cpr_k, ↓cpr_i]
      · rw [← (hf c (by omega)).2]; funext j; simp (disch := omega) only [↓u2_s, ↓u2_k, ↓u2_j, ↓tkr_k, ↓tkr_i, ↓zr_k, ↓zr_i, ↓cpr_k, ↓cpr_i]
    · have hlt := lt_of_nI (by decide) hi h1
      refine ⟨1, 4, 89, 3, t3, by decide, vp_nI hlt, ⟨Nat.le_of_ble_eq_true rfl, Nat.le_of_ble_eq_true rfl, Nat.le_of_ble_eq_true rfl⟩, ?_⟩
      have hc : (89 + 3 * (nI i).toNatClampNeg) = 89 + 3 * i := by rw [nI_clamp (by omega)]
      show vsp N 6 (sX6_clear N) [.ref (89 + 3 * (nI i).toNatClampNeg)] T _ _
      rw [hc]
      refine e_proClear (proN hN hlt) T (fun T' Z => ?_)
      have f1 : ∀ c, c < 89 + 3 * i ∨ 89 + 3 * i + 2 < c → T'.1 c = T.1 c ∧ T'.2 c = T.2 c := fun c hc => ⟨Z.2.2.2.2.2.1 c (by omega), Z.2.2.2.2.2.2 c hc⟩
      refine ⟨rfl, rfl, (i + 1, T'), ⟨⟨by show i + 1 ≤ 4; omega, fun d hd9 => (hd d hd9).move (fun c x y => f1 c (by omega)), fun p hp9 => ?_, fun c hc => ?_⟩, by show 4 - (i + 1) < 4 - i; omega⟩, rfl, congrArg (fun z => some (Value.int z)) (nI_1 i), rfl, rfl, rfl, trivial⟩
      · by_cases e : p = i
        · subst e; exact Z.move (fun c _ _ => ⟨rfl, rfl⟩)
        · have hp9 : p < i + 1 := hp9
          exact (hp p (by omega)).move (fun c x y => f1 c (by omega))
      · have := f1 c (by omega)
        exact ⟨this.1.trans (hf c hc).1, this.2.trans (hf c hc).2⟩
  · rintro ⟨i, T⟩ ⟨hi, hd, hf⟩
    dsimp only at hi hd hf
    refine And.intro (fun h1 => ?_) (fun h1 => ?_)
    · obtain rfl := le_of_nI (by decide) hi h1
      exact ⟨t1, Or.inl ⟨4, 4, 89, 3, t3, by decide, by decide, rfl, rfl, (0, T), ⟨Nat.zero_le _, hd, fun p hp => absurd hp (Nat.not_lt_zero p), fun c hc => hf c (by omega)⟩, rfl, rfl, rfl, rfl, rfl, trivial⟩⟩
    · have hlt := lt_of_nI (by decide) hi h1
      refine ⟨0, 5, 4, 17, t2, by decide, vp_nI hlt, ⟨Nat.le_of_ble_eq_true rfl, Nat.le_of_ble_eq_true rfl, Nat.le_of_ble_eq_true rfl⟩, ?_⟩
      have hc : (4 + 17 * (nI i).toNatClampNeg) = 4 + 17 * i := by rw [nI_clamp (by omega)]
      show vsp N 0 (sX0_clear N) [.ref (4 + 17 * (nI i).toNatClampNeg)] T _ _
      rw [hc]
      refine e_depClear (depN hN hlt) T (fun T' Z => ?_)
      have f1 : ∀ c, c < 4 + 17 * i ∨ 4 + 17 * i + 16 < c → T'.1 c = T.1 c ∧ T'.2 c = T.2 c := fun c hc => ⟨Z.2.2.2.2.2.1 c hc, Z.2.2.2.2.2.2 c hc⟩
      refine ⟨rfl, rfl, (i + 1, T'), ⟨⟨by show i + 1 ≤ 5; omega, fun d hd9 => ?_, fun c hc => ?_⟩, by show 5 - (i + 1) < 5 - i; omega⟩, rfl, congrArg (fun z => some (Value.int z)) (nI_1 i), rfl, rfl, rfl, trivial⟩
      · by_cases e : d = i
        · subst e; exact Z.move (fun c _ _ => ⟨rfl, rfl⟩)
        · have hd9 : d < i + 1 := hd9
          exact (hd d (by omega)).move (fun c x y => f1 c (by omega))
      · have := f1 c (by omega)
        exact ⟨this.1.trans (hf c hc).1, this.2.trans (hf c hc).2⟩
  · exact ⟨t1, Or.inl ⟨3, 5, 4, 17, t2, by decide, by decide, rfl, rfl, (0, S), ⟨Nat.zero_le _, fun d hd => absurd hd (Nat.not_lt_zero d), fun c _ => ⟨rfl, rfl⟩⟩, rfl, rfl, rfl, rfl, rfl, trivial⟩⟩
