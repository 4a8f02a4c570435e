/-! ===== rows of a history: putting, taking; lots ===== -/
def arrL (f : Nat → Int64) (n : Nat) : List Int64 := (List.range n).map f
theorem arrL_s (f : Nat → Int64) (n : Nat) : arrL f (n + 1) = arrL f n ++ [f n] := by simp [arrL, List.range_succ]
theorem arrL_len (f : Nat → Int64) (n : Nat) : (arrL f n).length = n := by simp [arrL]
theorem e_putAll {k a ka n : Nat} (hk : isRow k) (hka : tyN 156 ka = (1, n, 0, 0)) (hne : ka ≠ k + 1) (hn : 0 < n) (S : Mem) (l : List Int64) (hl : a + l.length + n ≤ 716) {Qr : QR} {Qx : QX} (h : Qr none (PW S k a (l ++ arrL (S.2 ka) n))) : vsp 156 7 (sX7_putAll 156) [.ref k, .ref ka] (PW S k a l) Qr Qx := by
  refine ⟨hk.1, runL (α := Nat) rfl 60 8 0 (fun i => [(4, .int (nI i)), (3, .int (nI n)), (2, .ref ka), (0, .ref k)]) (fun i => PW S k a (l ++ arrL (S.2 ka) i)) (fun i => n - i) (fun i => i ≤ n) (fun i hi => ?_) ?_⟩
  · refine And.intro (fun h1 => ?_) (fun h1 => ?_)
    · obtain rfl := le_of_nI (by omega) hi h1
      exact ⟨rfl, h⟩
    · have hlt := lt_of_nI (by omega) hi h1
      refine ⟨n, hka, vp_nI hlt (by omega), ⟨Nat.le_of_ble_eq_true rfl, Nat.le_of_ble_eq_true rfl, Nat.le_of_ble_eq_true rfl⟩, e_put hk S _ _ (by rw [List.length_append, arrL_len]; omega) ⟨rfl, rfl, i + 1, ⟨by omega, by omega⟩, ?_, congrArg (fun z => some (Value.int z)) (nI_1 i), rfl, rfl, rfl, trivial⟩⟩
      show PW S k a (l ++ arrL (S.2 ka) i ++ [(PW S k a (l ++ arrL (S.2 ka) i)).2 ka (nI i).toNatClampNeg]) = PW S k a (l ++ arrL (S.2 ka) (i + 1))
      rw [arrL_s, nI_clamp (by omega), PW_X _ hne, List.append_assoc]
  · refine Or.inl ⟨0, n, 0, 0, hka, hn, by decide, rfl, rfl, 0, Nat.zero_le n, ?_, rfl, rfl, rfl, rfl, trivial⟩
    show PW S k a l = PW S k a (l ++ arrL (S.2 ka) 0)
    rw [show arrL (S.2 ka) 0 = [] from rfl, List.append_nil]
theorem e_rewind {k : Nat} (hk : isRow k) (S : Mem) {Qr : QR} {Qx : QX} (h : Qr none (u2 S.1 k 1 0, S.2)) : vsp 156 7 (sX7_rewind 156) [.ref k] S Qr Qx :=
  ⟨hk.1, runG rfl 10 ⟨hk.1, rfl, h⟩⟩
theorem e_take {k a : Nat} (hk : isRow k) (S : Mem) (ha : S.1 k 1 = nI a) (hl : a < 716) {Qr : QR} {Qx : QX} (h : Qr (some (.long (S.2 (k + 1) a))) (u2 S.1 k 1 (nI (a + 1)), S.2)) : vsp 156 7 (sX7_take 156) [.ref k] S Qr Qx := by
  refine ⟨hk.1, runG rfl 40 ⟨hk.1, hk.1, Or.inl ⟨0, 716, 0, 0, hk.2, by decide, by decide, And.intro (fun h1 => ?_) (fun h1 => ?_)⟩⟩⟩
  · refine ⟨hk.1, hk.1, 716, hk.2, by rw [ha]; exact vp_nI hl, hk.1, hk.1, rfl, ?_⟩
    show Qr (some (.long (S.2 (k + 1) (S.1 k 1).toNatClampNeg))) (u2 S.1 k 1 (S.1 k 1 + 1), S.2)
    rw [ha, nI_clamp (by omega), nI_1]
    exact h
  · rw [ha] at h1
    exact absurd ((nI_ltI (by omega) (by decide)).mpr hl) h1
theorem e_takeInt {k a : Nat} (hk : isRow k) (S : Mem) (ha : S.1 k 1 = nI a) (hl : a < 716) {Qr : QR} {Qx : QX} (h : Qr (some (.int (S.2 (k + 1) a).toInt32)) (u2 S.1 k 1 (nI (a + 1)), S.2)) : vsp 156 7 (sX7_takeInt 156) [.ref k] S Qr Qx :=
  ⟨hk.1, runG rfl 40 ⟨⟨Nat.le_of_ble_eq_true rfl, Nat.le_of_ble_eq_true rfl, Nat.le_of_ble_eq_true rfl⟩, e_take hk S ha hl h⟩⟩
/-- a count that is used as a bound -/
def clampI (x : Int32) (m : Int32) : Int32 := if m < (if x < 0 then 0 else x) then m else (if x < 0 then 0 else x)
theorem e_takeCount {k a : Nat} (hk : isRow k) (S : Mem) (m : Int32) (ha : S.1 k 1 = nI a) (hl : a < 716) {Qr : QR} {Qx : QX} (h : Qr (some (.int (clampI (S.2 (k + 1) a).toInt32 m))) (u2 S.1 k 1 (nI (a + 1)), S.2)) : vsp 156 7 (sX7_takeCount 156) [.ref k, .int m] S Qr Qx :=
  ⟨hk.1, runG rfl 40 ⟨⟨Nat.le_of_ble_eq_true rfl, Nat.le_of_ble_eq_true rfl, Nat.le_of_ble_eq_true rfl⟩, e_takeInt hk S ha hl ⟨⟨Nat.le_of_ble_eq_true rfl, Nat.le_of_ble_eq_true rfl, Nat.le_of_ble_eq_true rfl⟩, ⟨⟨Nat.le_of_ble_eq_true rfl, Nat.le_of_ble_eq_true rfl, Nat.le_of_ble_eq_true rfl⟩, h⟩⟩⟩⟩
/-- row kt from the cells of row k + 1, from a on -/
def tkr (X : Nat → Nat → Int64) (k a kt n : Nat) : Nat → Nat → Int64 := fun c i => if c = kt ∧ i < n then X (k + 1) (a + i) else X c i
theorem tkr_step (X : Nat → Nat → Int64) {k kt : Nat} (hne : kt ≠ k + 1) (a i : Nat) : u2 (tkr X k a kt i) kt i (tkr X k a kt i (k + 1) (a + i)) = tkr X k a kt (i + 1) := by
  funext c j
  unfold u2 tkr
  by_cases h1 : c = kt
  · by_cases h2 : j = i
    · simp [h1, h2, Ne.symm hne]
    · by_cases h3 : j < i
      · simp [h1, h2, h3, show j < i + 1 by omega]
      · simp [h1, h2, h3, show ¬ j < i + 1 by omega]
  · simp [h1]
theorem e_takeAll {k a kt n : Nat} (hk : isRow k) (ht : tyN 156 kt = (1, n, 0, 0)) (hne : kt ≠ k + 1) (hn : 0 < n) (S : Mem) (ha : S.1 k 1 = nI a) (hl : a + n ≤ 716) {Qr : QR} {Qx : QX} (h : Qr none (u2 S.1 k 1 (nI (a + n)), tkr S.2 k a kt n)) : vsp 156 7 (sX7_takeAll 156) [.ref k, .ref kt] S Qr Qx := by
  refine ⟨hk.1, runL (α := Nat) rfl 60 2 0 (fun i => [(2, .int (nI i)), (0, .ref k), (1, .ref kt)]) (fun i => (u2 S.1 k 1 (nI (a + i)), tkr S.2 k a kt i)) (fun i => n - i) (fun i => i ≤ n) (fun i hi => ?_) ?_⟩
  · refine Or.inl ⟨0, n, 0, 0, ht, hn, by decide, And.intro (fun h1 => ?_) (fun h1 => ?_)⟩
    · obtain rfl := le_of_nI (by omega) hi h1
      exact ⟨rfl, h⟩
    · have hlt := lt_of_nI (by omega) hi h1
      refine ⟨⟨Nat.le_of_ble_eq_true rfl, Nat.le_of_ble_eq_true rfl, Nat.le_of_ble_eq_true rfl⟩, e_take (a := a + i) hk _ (u2_s _ _ _ _) (by omega) ⟨n, ht, vp_nI hlt (by omega), rfl, rfl, i + 1, ⟨by omega, by omega⟩, ?_, congrArg (fun z => some (Value.int z)) (nI_1 i), rfl, rfl, trivial⟩⟩
      show (u2 (u2 S.1 k 1 (nI (a + i))) k 1 (nI (a + i + 1)), u2 (tkr S.2 k a kt i) kt (nI i).toNatClampNeg (tkr S.2 k a kt i (k + 1) (a + i))) = (u2 S.1 k 1 (nI (a + (i + 1))), tkr S.2 k a kt (i + 1))
      rw [nI_clamp (by omega), tkr_step _ hne, u2_u2]
      rfl
  · refine ⟨rfl, rfl, 0, Nat.zero_le n, ?_, rfl, rfl, rfl, trivial⟩
    show S = (u2 S.1 k 1 (nI (a + 0)), tkr S.2 k a kt 0)
    refine Prod.ext ?_ ?_
    · funext c j
      show S.1 c j = u2 S.1 k 1 (nI a) c j
      unfold u2
      by_cases h1 : c = k
      · by_cases h2 : j = 1
        · simp [h1, h2, ha]
        · simp [h1, h2]
      · simp [h1]
    · funext c j
      simp [tkr]
/-! lots -/
def isLot (k : Nat) : Prop := tyN 156 k = (0, 3, 0, 0) ∧ tyN 156 (k + 1) = (1, 4, 0, 0)
theorem e_lotClear {k : Nat} (hk : isLot k) (S : Mem) {Qr : QR} {Qx : QX} (h : Qr none (u2 (u2 S.1 k 0 0) k 1 0, zr S.2 (k + 1) 4)) : vsp 156 3 (sX3_clear 156) [.ref k] S Qr Qx :=
  ⟨hk.1, runG rfl 40 ⟨hk.1, hk.1, hk.1, ⟨Nat.le_of_ble_eq_true rfl, Nat.le_of_ble_eq_true rfl, Nat.le_of_ble_eq_true rfl⟩, e_clearAll hk.2 (by decide) (by decide) _ ⟨rfl, h⟩⟩⟩
theorem e_lotCopy {k f : Nat} (hk : isLot k) (hf : isLot f) (hne : f ≠ k) (S : Mem) {Qr : QR} {Qx : QX} (h : Qr none (u2 (u2 S.1 k 0 (S.1 f 0)) k 1 (S.1 f 1), cpr S.2 (f + 1) (k + 1) 4)) : vsp 156 3 (sX3_copyFrom 156) [.ref k, .ref f] S Qr Qx := by
  refine ⟨hk.1, runG rfl 40 ⟨hf.1, hk.1, hf.1, hk.1, hf.1, hk.1, ⟨Nat.le_of_ble_eq_true rfl, Nat.le_of_ble_eq_true rfl, Nat.le_of_ble_eq_true rfl⟩, e_copyAll hf.2 hk.2 (by omega) (by decide) (by decide) _ ⟨rfl, ?_⟩⟩⟩
  show Qr none (u2 (u2 S.1 k 0 (S.1 f 0)) k 1 (u2 S.1 k 0 (S.1 f 0) f 1), cpr S.2 (f + 1) (k + 1) 4)
  rw [u2_k _ _ _ _ hne]
  exact h
def lotL (S : Mem) (k : Nat) : List Int64 := [(S.1 k 0).toInt64, (S.1 k 1).toInt64] ++ arrL (S.2 (k + 1)) 4
theorem e_lotSave {k r a : Nat} (hk : isLot k) (hr : isRow r) (h1 : k ≠ r) (h2 : k ≠ r + 1) (h3 : k + 1 ≠ r + 1) (S : Mem) (l : List Int64) (hl : a + l.length + 6 ≤ 716) {Qr : QR} {Qx : QX} (h : Qr none (PW S r a (l ++ lotL S k))) : vsp 156 3 (sX3_save 156) [.ref k, .ref r] (PW S r a l) Qr Qx := by
  refine ⟨hk.1, runG rfl 40 ⟨hk.1, ⟨Nat.le_of_ble_eq_true rfl, Nat.le_of_ble_eq_true rfl, Nat.le_of_ble_eq_true rfl⟩, e_put hr S _ _ (by omega) ⟨hk.1, ⟨Nat.le_of_ble_eq_true rfl, Nat.le_of_ble_eq_true rfl, Nat.le_of_ble_eq_true rfl⟩, e_put hr S _ _ (by simp; omega) ⟨hk.1, ⟨Nat.le_of_ble_eq_true rfl, Nat.le_of_ble_eq_true rfl, Nat.le_of_ble_eq_true rfl⟩, e_putAll hr hk.2 h3 (by decide) S _ (by simp; omega) ⟨rfl, ?_⟩⟩⟩⟩⟩
  rw [PW_I _ h1, PW_I _ h1, List.append_assoc, List.append_assoc]
  exact h
/-- what taking a lot leaves -/
def lotT (S S' : Mem) (k r a : Nat) : Prop := S'.1 k 0 = (S.2 (r + 1) a).toInt32 ∧ S'.1 k 1 = (S.2 (r + 1) (a + 1)).toInt32 ∧ (∀ j, j < 4 → S'.2 (k + 1) j = S.2 (r + 1) (a + 2 + j)) ∧ S'.1 r 1 = nI (a + 6) ∧ (∀ c, c ≠ k → c ≠ r → S'.1 c = S.1 c) ∧ ∀ c, c ≠ k + 1 → S'.2 c = S.2 c
theorem e_lotLoad {k r a : Nat} (hk : isLot k) (hr : isRow r) (h1 : k ≠ r) (h3 : k + 1 ≠ r + 1) (S : Mem) (ha : S.1 r 1 = nI a) (hl : a + 6 ≤ 716) {Qr : QR} {Qx : QX} (h : ∀ S', lotT S S' k r a → Qr none S') : vsp 156 3 (sX3_load 156) [.ref k, .ref r] S Qr Qx := by
  refine ⟨hk.1, runG rfl 40 ⟨⟨Nat.le_of_ble_eq_true rfl, Nat.le_of_ble_eq_true rfl, Nat.le_of_ble_eq_true rfl⟩, e_takeInt hr S ha (by omega) ⟨hk.1, ⟨Nat.le_of_ble_eq_true rfl, Nat.le_of_ble_eq_true rfl, Nat.le_of_ble_eq_true rfl⟩, e_takeInt (a := a + 1) hr _ ?_ (by omega) ⟨hk.1, hk.1, ⟨Nat.le_of_ble_eq_true rfl, Nat.le_of_ble_eq_true rfl, Nat.le_of_ble_eq_true rfl⟩, e_takeAll (a := a + 2) hr hk.2 h3 (by decide) _ ?_ (by omega) ⟨rfl, h _ ?_⟩⟩⟩⟩⟩
  · show u2 (u2 S.1 r 1 (nI (a + 1))) k 0 _ r 1 = _
    rw [u2_k _ _ _ _ (Ne.symm h1), u2_s]
  · show u2 (u2 (u2 (u2 S.1 r 1 (nI (a + 1))) k 0 _) r 1 (nI (a + 1 + 1))) k 1 _ r 1 = _
    rw [u2_k _ _ _ _ (Ne.symm h1), u2_s]
  · refine ⟨?_, ?_, ?_, ?_, ?_, ?_⟩
    · simp [u2, h1]
    · simp [u2, h1]
    · intro j hj
      simp [tkr, hj]
    · simp [u2]
    · intro c hc hcr
      funext j
      simp [u2, hc, hcr]
    · intro c hc
      funext j
      simp [tkr, hc]
