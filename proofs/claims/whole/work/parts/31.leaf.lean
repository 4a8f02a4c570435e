/-! ===== leaves of the class ===== -/
def sumN (f : Nat → Int64) : Nat → Int64
  | 0 => 0
  | n + 1 => sumN f n + f n
/-- row k is zero below n -/
def zr (X : Nat → Nat → Int64) (k n : Nat) : Nat → Nat → Int64 := fun a c => if a = k ∧ c < n then 0 else X a c
/-- row kt has row kf's first n -/
def cpr (X : Nat → Nat → Int64) (kf kt n : Nat) : Nat → Nat → Int64 := fun a c => if a = kt ∧ c < n then X kf c else X a c
theorem e_sumOf {k n : Nat} (hk : tyN 156 k = (1, n, 0, 0)) (hn : 0 < n) (hn2 : n < 2 ^ 31) (S : Mem) {Qr : Option Value → Mem → Prop} {Qx : String → Mem → Prop} (h : Qr (some (.long (sumN (S.2 k) n))) S) : sX9_sumOf 156 [.ref k] S Qr Qx := by
  refine runL (α := Nat) rfl 40 11 0 (fun i => [(5, .int (nI i)), (4, .int (nI n)), (3, .ref k), (1, .long (sumN (S.2 k) i))]) (fun _ => S) (fun i => n - i) (fun i => i ≤ n) (fun i hi => ?_) ?_
  · refine And.intro (fun h1 => ?_) (fun h1 => ?_)
    · have : i = n := by
        have := (nI_leI hn2 (by omega)).mp h1
        omega
      subst this
      exact ⟨rfl, h⟩
    · have hlt : i < n := by
        rcases Nat.lt_or_ge i n with q | q
        · exact q
        · exact absurd ((nI_leI hn2 (by omega)).mpr q) h1
      refine ⟨n, hk, vp_nI hlt hn2, ?_⟩
      refine ⟨rfl, rfl, i + 1, ⟨by omega, by omega⟩, rfl, congrArg (fun z => some (Value.int z)) (nI_1 i), rfl, rfl, ?_, trivial⟩
      rw [nI_clamp (by omega)]
      rfl
  · refine Or.inl ⟨0, n, 0, 0, hk, hn, by decide, ?_⟩
    exact ⟨rfl, rfl, 0, Nat.zero_le n, rfl, rfl, rfl, rfl, rfl, trivial⟩
