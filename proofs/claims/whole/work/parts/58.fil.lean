/-! ===== fillStore ===== -/
def putR (S S' : Mem) (k n : Nat) (way : Int32) : Prop :=
  (S.1 k 4 = 0 ∧ S'.1 k = S.1 k ∧ S'.2 k = S.2 k ∧ S'.2 (k + 1) = S.2 (k + 1) ∧ S'.2 (k + 2) = S.2 (k + 2)) ∨
  (¬ S.1 k 4 = 0 ∧ (way = 1 ∧ 0 < n) ∧ S'.1 k = S.1 k ∧ S'.2 k = S.2 k ∧ S'.2 (k + 1) = u1 (S.2 (k + 1)) 0 (S.2 (k + 1) 0 + (S.1 k 4).toInt64) ∧ S'.2 (k + 2) = u1 (S.2 (k + 2)) 0 (S.2 (k + 2) 0 + S.2 k 6)) ∨
  (¬ S.1 k 4 = 0 ∧ ((¬ way = 1 ∨ n = 0) ∧ n < 40) ∧ S'.1 k = u1 (S.1 k) 7 (nI (n + 1)) ∧ S'.2 k = S.2 k ∧ S'.2 (k + 1) = u1 (S.2 (k + 1)) n (S.1 k 4).toInt64 ∧ S'.2 (k + 2) = u1 (S.2 (k + 2)) n (S.2 k 6))
def fulC (S : Mem) (k n : Nat) (way : Int32) : Prop := ¬ S.1 k 4 = 0 ∧ (¬ way = 1 ∨ n = 0) ∧ n = 40
theorem e_putInO {k n : Nat} (hk : isProN 156 k) (way : Int32) (S : Mem) (hn : S.1 k 7 = nI n) (hn4 : n ≤ 40) {Qr : QR} {Qx : QX} (h : ∀ S' : Mem, putR S S' k n way → (∀ c, c ≠ k → S'.1 c = S.1 c) → (∀ c, c < k ∨ k + 2 < c → S'.2 c = S.2 c) → Qr (some (.int 1)) S') (hf : fulC S k n way → Qr (some (.int 0)) S) : vsp 156 6 (sX6_putIn 156) [.ref k, .int way] S Qr Qx := by
  refine e_putIn hk way S hn hn4 (fun a => ?_) (fun a b c => ?_) (fun a b c => ?_) (fun a b c => hf ⟨a, b, c⟩)
  · exact h S (Or.inl ⟨a, rfl, rfl, rfl, rfl⟩) (fun _ _ => rfl) (fun _ _ => rfl)
  · refine h _ (Or.inr (Or.inl ⟨a, ⟨b, c⟩, rfl, ?_, ?_, ?_⟩)) (fun _ _ => rfl) (fun c hc => ?_)
    · exact (u2_other _ _ _ (by omega)).trans (u2_other _ _ _ (by omega))
    · exact (u2_other _ _ _ (by omega)).trans (u2_row _ _ _ _)
    · refine (u2_row _ _ _ _).trans ?_
      rw [u2_other _ _ _ (by omega)]
    · exact (u2_other _ _ _ (by omega)).trans (u2_other _ _ _ (by omega))
  · refine h _ (Or.inr (Or.inr ⟨a, ⟨b, c⟩, u2_row _ _ _ _, ?_, ?_, ?_⟩)) (fun c hc => u2_other _ _ _ hc) (fun c hc => ?_)
    · exact (u2_other _ _ _ (by omega)).trans (u2_other _ _ _ (by omega))
    · exact (u2_other _ _ _ (by omega)).trans (u2_row _ _ _ _)
    · refine (u2_row _ _ _ _).trans ?_
      rw [u2_other _ _ _ (by omega)]
    · exact (u2_other _ _ _ (by omega)).trans (u2_other _ _ _ (by omega))
theorem putR.move {S S' T T' : Mem} {k n : Nat} {way : Int32} (h : putR S S' k n way) (e1 : T.1 k = S.1 k) (e2 : ∀ c, k ≤ c → c ≤ k + 2 → T.2 c = S.2 c) (f1 : T'.1 k = S'.1 k) (f2 : ∀ c, k ≤ c → c ≤ k + 2 → T'.2 c = S'.2 c) : putR T T' k n way := by
  have a0 := e2 k (by omega) (by omega)
  have a1 := e2 (k + 1) (by omega) (by omega)
  have a2 := e2 (k + 2) (by omega) (by omega)
  have b0 := f2 k (by omega) (by omega)
  have b1 := f2 (k + 1) (by omega) (by omega)
  have b2 := f2 (k + 2) (by omega) (by omega)
  unfold putR
  rw [e1, a0, a1, a2, f1, b0, b1, b2]
  exact h
set_option maxHeartbeats 1000000 in
theorem e_fillStore {n : Nat} {ns : Nat → Nat} (S : Mem) (hn : S.1 1 3 = nI n) (hn4 : n ≤ 4) (hs : ∀ p, p < n → S.1 (89 + 3 * p) 7 = nI (ns p) ∧ ns p ≤ 40) {Qr : QR} {Qx : QX} (h : ∀ S' : Mem, (∀ p, p < n → putR S S' (89 + 3 * p) (ns p) (S.1 1 4)) → (∀ c, c < 89 ∨ 101 ≤ c → S'.1 c = S.1 c ∧ S'.2 c = S.2 c) → Qr (some (.int 1)) S')
    (hf : ∀ p, p < n → fulC S (89 + 3 * p) (ns p) (S.1 1 4) → ∀ S' : Mem, (∀ c, c < 89 ∨ 101 ≤ c → S'.1 c = S.1 c ∧ S'.2 c = S.2 c) → Qr (some (.int 0)) S') : vsp 156 1 (sX1_fillStore 156) [.ref 1] S Qr Qx := by
  have t1 : tyN 156 1 = (0, 1, 0, 0) := rfl
  have t3 : tyN 156 3 = (5, 4, 89, 3) := rfl
  refine ⟨t1, runL (α := Nat × Mem) rfl 60 2 0 (fun b => [(1, .int (nI b.1)), (0, .ref 1)]) (fun b => b.2) (fun b => n - b.1) (fun b => b.1 ≤ n ∧ (∀ p, p < b.1 → putR S b.2 (89 + 3 * p) (ns p) (S.1 1 4)) ∧ ∀ c, c < 89 ∨ 89 + 3 * b.1 ≤ c → b.2.1 c = S.1 c ∧ b.2.2 c = S.2 c) ?_ ?_⟩
  · rintro ⟨i, T⟩ ⟨hi, hp, hc⟩
    dsimp only at hi hp hc
    have e3 : T.1 1 3 = nI n := by rw [(hc 1 (by omega)).1]; exact hn
    have e4 : T.1 1 4 = S.1 1 4 := by rw [(hc 1 (by omega)).1]
    refine ⟨t1, And.intro (fun a1 => ?_) (fun a1 => ?_)⟩
    · have a1 : nI n ≤ nI i := e3 ▸ a1
      obtain rfl := le_of_nI (by omega) hi a1
      exact ⟨Or.inr rfl, h T hp (fun c x => hc c (by omega))⟩
    · have a1 : ¬ nI n ≤ nI i := e3 ▸ a1
      have hlt := lt_of_nI (by omega) hi a1
      have hcl : (nI i).toNatClampNeg = i := nI_clamp (by omega)
      refine ⟨t1, 1, 4, 89, 3, t3, by decide, vp_nI (by omega), t1, ⟨Nat.le_of_ble_eq_true rfl, Nat.le_of_ble_eq_true rfl, Nat.le_of_ble_eq_true rfl⟩, ?_⟩
      show vsp 156 6 (sX6_putIn 156) [.ref (89 + 3 * (nI i).toNatClampNeg), .int (T.1 1 4)] T _ _
      rw [hcl, e4]
      have hk := hc (89 + 3 * i) (by omega)
      refine e_putInO (n := ns i) (proN (by decide) (by omega)) _ T (by rw [hk.1]; exact (hs i hlt).1) (hs i hlt).2 (fun T' r f1 f2 => And.intro (fun _ => ⟨rfl, rfl, (i + 1, T'), ⟨⟨by show i + 1 ≤ n; omega, fun p hp9 => ?_, fun c x => ?_⟩, by show n - (i + 1) < n - i; omega⟩, rfl, congrArg (fun z => some (Value.int z)) (nI_1 i), rfl, trivial⟩) (fun x => absurd x (by decide))) (fun fu => And.intro (fun x => absurd rfl x) (fun _ => ⟨Or.inl rfl, hf i hlt ?_ T (fun c x => hc c (by omega))⟩))
      · have hp9 : p < i + 1 := hp9
        by_cases e : p = i
        · subst e
          exact r.move hk.1.symm (fun c x y => (hc c (by omega)).2.symm) rfl (fun _ _ _ => rfl)
        · exact (hp p (by omega)).move rfl (fun _ _ _ => rfl) (f1 _ (by omega)) (fun c x y => f2 c (by omega))
      · have x : c < 89 ∨ 89 + 3 * (i + 1) ≤ c := x
        exact ⟨(f1 c (by omega)).trans (hc c (by omega)).1, (f2 c (by omega)).trans (hc c (by omega)).2⟩
      · unfold fulC at fu ⊢
        rw [hk.1] at fu
        exact fu
  · exact ⟨rfl, rfl, (0, S), ⟨Nat.zero_le _, fun p hp => absurd hp (Nat.not_lt_zero p), fun c _ => ⟨rfl, rfl⟩⟩, rfl, rfl, rfl, trivial⟩
