/-! ===== leaves of the class ===== -/
def sumN (f : Nat → Int64) : Nat → Int64
  | 0 => 0
  | n + 1 => sumN f n + f n
/-- row k is zero below n -/
def zr (X : Nat → Nat → Int64) (k n : Nat) : Nat → Nat → Int64 := fun a c => if a = k ∧ c < n then 0 else X a c
/-- row kt has row kf's first n -/
def cpr (X : Nat → Nat → Int64) (kf kt n : Nat) : Nat → Nat → Int64 := fun a c => if a = kt ∧ c < n then X kf c else X a c
theorem e_sumOf {k n : Nat} (hk : tyN 156 k = (1, n, 0, 0)) (hn : 0 < n) (hn2 : n < 2 ^ 31) (S : Mem) {Qr : Option Value → Mem → Prop} {Qx : String → Mem → Prop} (h : Qr (some (.long (sumN (S.2 k) n))) S) : sX9_sumOf 156 [.ref k] S Qr Qx := by
  refine runL (α := Nat) rfl 40 11 0 (fun i => [(5, .int (nI i)), (4, .int (nI n)), (3, .ref k), (1, .long (sumN (S.2 k) i))]) (fun _ => S) (fun i => n - i) (fun i => i ≤ n) (fun i hi => ?_) ?_
  · refine And.intro (fun h1 => ?_) (fun h1 => ?_)
    · have : i = n := by
        have := (nI_leI hn2 (by omega)).mp h1
        omega
      subst this
      exact ⟨rfl, h⟩
    · have hlt : i < n := by
        rcases Nat.lt_or_ge i n with q | q
        · exact q
        · exact absurd ((nI_leI hn2 (by omega)).mpr q) h1
      refine ⟨n, hk, vp_nI hlt hn2, ?_⟩
      refine ⟨rfl, rfl, i + 1, ⟨by omega, by omega⟩, rfl, congrArg (fun z => some (Value.int z)) (nI_1 i), rfl, rfl, ?_, trivial⟩
      rw [nI_clamp (by omega)]
      rfl
  · refine Or.inl ⟨0, n, 0, 0, hk, hn, by decide, ?_⟩
    exact ⟨rfl, rfl, 0, Nat.zero_le n, rfl, rfl, rfl, rfl, rfl, trivial⟩
abbrev QR : Type := Option Value → Mem → Prop
abbrev QX : Type := String → Mem → Prop
theorem u2_s {α : Type} (f : Nat → Nat → α) (k j : Nat) (v : α) : u2 f k j v k j = v := by simp [u2]
theorem u2_k {α : Type} (f : Nat → Nat → α) {k a : Nat} (j c : Nat) (v : α) (h : a ≠ k) : u2 f k j v a c = f a c := by simp [u2, h]
theorem u2_j {α : Type} (f : Nat → Nat → α) (k : Nat) {j c : Nat} (a : Nat) (v : α) (h : c ≠ j) : u2 f k j v a c = f a c := by simp [u2, h]
theorem zr_step (X : Nat → Nat → Int64) (k i : Nat) : u2 (zr X k i) k i 0 = zr X k (i + 1) := by
  funext a c
  unfold u2 zr
  by_cases h1 : a = k
  · by_cases h2 : c = i
    · simp [h1, h2]
    · by_cases h3 : c < i
      · simp [h1, h2, h3, show c < i + 1 by omega]
      · simp [h1, h2, h3, show ¬ c < i + 1 by omega]
  · simp [h1]
theorem zr_0 (X : Nat → Nat → Int64) (k : Nat) : zr X k 0 = X := by funext a c; simp [zr]
theorem le_of_nI {i n : Nat} (hn : n < 2 ^ 31) (hi : i ≤ n) (h : nI n ≤ nI i) : i = n := by
  have := (nI_leI hn (by omega)).mp h
  omega
theorem lt_of_nI {i n : Nat} (hn : n < 2 ^ 31) (hi : i ≤ n) (h : ¬ nI n ≤ nI i) : i < n := by
  rcases Nat.lt_or_ge i n with q | q
  · exact q
  · exact absurd ((nI_leI hn (by omega)).mpr q) h
theorem e_clearAll {N k n : Nat} (hk : tyN N k = (1, n, 0, 0)) (hn : 0 < n) (hn2 : n < 2 ^ 31) (S : Mem) {Qr : QR} {Qx : QX} (h : Qr none (S.1, zr S.2 k n)) : sX9_clearAll N [.ref k] S Qr Qx := by
  refine runL (α := Nat) rfl 40 2 0 (fun i => [(1, .int (nI i)), (0, .ref k)]) (fun i => (S.1, zr S.2 k i)) (fun i => n - i) (fun i => i ≤ n) (fun i hi => ?_) ?_
  · refine Or.inl ⟨0, n, 0, 0, hk, hn, by decide, And.intro (fun h1 => ?_) (fun h1 => ?_)⟩
    · obtain rfl := le_of_nI hn2 hi h1
      exact ⟨rfl, h⟩
    · have hlt := lt_of_nI hn2 hi h1
      refine ⟨n, hk, vp_nI hlt hn2, rfl, rfl, i + 1, ⟨by omega, by omega⟩, ?_, congrArg (fun z => some (Value.int z)) (nI_1 i), rfl, trivial⟩
      show (S.1, u2 (zr S.2 k i) k (nI i).toNatClampNeg 0) = (S.1, zr S.2 k (i + 1))
      rw [nI_clamp (by omega), zr_step]
  · exact ⟨rfl, rfl, 0, Nat.zero_le n, by show S = (S.1, zr S.2 k 0); rw [zr_0], rfl, rfl, trivial⟩
theorem cpr_step (X : Nat → Nat → Int64) {kf kt : Nat} (hne : kf ≠ kt) (i : Nat) : u2 (cpr X kf kt i) kt i (cpr X kf kt i kf i) = cpr X kf kt (i + 1) := by
  funext a c
  unfold u2 cpr
  by_cases h1 : a = kt
  · by_cases h2 : c = i
    · simp [h1, h2, hne]
    · by_cases h3 : c < i
      · simp [h1, h2, h3, show c < i + 1 by omega]
      · simp [h1, h2, h3, show ¬ c < i + 1 by omega]
  · simp [h1]
theorem cpr_0 (X : Nat → Nat → Int64) (kf kt : Nat) : cpr X kf kt 0 = X := by funext a c; simp [cpr]
theorem e_copyAll {kf kt n : Nat} (hf : tyN 156 kf = (1, n, 0, 0)) (ht : tyN 156 kt = (1, n, 0, 0)) (hne : kf ≠ kt) (hn : 0 < n) (hn2 : n < 2 ^ 31) (S : Mem) {Qr : QR} {Qx : QX} (h : Qr none (S.1, cpr S.2 kf kt n)) : sX9_copyAll 156 [.ref kf, .ref kt] S Qr Qx := by
  refine runL (α := Nat) rfl 60 2 0 (fun i => [(2, .int (nI i)), (0, .ref kf), (1, .ref kt)]) (fun i => (S.1, cpr S.2 kf kt i)) (fun i => n - i) (fun i => i ≤ n) (fun i hi => ?_) ?_
  · refine Or.inl ⟨0, n, 0, 0, hf, hn, by decide, And.intro (fun h1 => ?_) (fun h1 => ?_)⟩
    · obtain rfl := le_of_nI hn2 hi h1
      exact ⟨rfl, h⟩
    · have hlt := lt_of_nI hn2 hi h1
      refine Or.inl ⟨0, n, 0, 0, ht, hn, by decide, And.intro (fun h2 => absurd h2 h1) (fun h2 => ?_)⟩
      refine ⟨n, hf, vp_nI hlt hn2, n, ht, vp_nI hlt hn2, rfl, rfl, i + 1, ⟨by omega, by omega⟩, ?_, congrArg (fun z => some (Value.int z)) (nI_1 i), rfl, rfl, trivial⟩
      show (S.1, u2 (cpr S.2 kf kt i) kt (nI i).toNatClampNeg (cpr S.2 kf kt i kf (nI i).toNatClampNeg)) = (S.1, cpr S.2 kf kt (i + 1))
      rw [nI_clamp (by omega), cpr_step _ hne]
  · exact ⟨rfl, rfl, 0, Nat.zero_le n, by show S = (S.1, cpr S.2 kf kt 0); rw [cpr_0], rfl, rfl, rfl, trivial⟩
/-- amount * part / whole, 0 of nothing -/
def cut (a p w : Int64) : Int64 := if w = 0 then 0 else a * p / w
theorem e_partOf (a p w : Int64) (S : Mem) {Qr : QR} {Qx : QX} (h : Qr (some (.long (cut a p w))) S) : sX9_partOf 156 [.long a, .long p, .long w] S Qr Qx := by
  refine runG rfl 40 (And.intro (fun h1 => ?_) (fun h1 => ?_))
  · have hw : ¬ w = 0 := fun e => h1 ((lg_cmp_eq w 0).mpr e)
    refine ⟨hw, rfl, ?_⟩
    rw [cut, if_neg hw] at h
    exact h
  · have hw : w = 0 := (lg_cmp_eq w 0).mp h1
    rw [cut, if_pos hw] at h
    exact ⟨rfl, h⟩
/-! rows of a history -/
def isRow (k : Nat) : Prop := tyN 156 k = (0, 7, 0, 0) ∧ tyN 156 (k + 1) = (1, 716, 0, 0)
theorem isRow_at : ∀ i, i < 9 → isRow (103 + 2 * i) := fun i hi => ⟨ty_R i hi 0 (by decide), ty_R i hi 1 (by decide)⟩
/-- row k + 1 with l written from a on, the place behind it -/
def wrt (X : Nat → Nat → Int64) (k a : Nat) (l : List Int64) : Nat → Nat → Int64 := fun c i => if c = k ∧ a ≤ i ∧ i < a + l.length then l.getD (i - a) 0 else X c i
def PW (S : Mem) (k a : Nat) (l : List Int64) : Mem := (u2 S.1 k 1 (nI (a + l.length)), wrt S.2 (k + 1) a l)
theorem PW_I {S : Mem} {k a c : Nat} {l : List Int64} (j : Nat) (h : c ≠ k) : (PW S k a l).1 c j = S.1 c j := u2_k _ _ _ _ h
theorem PW_X {S : Mem} {k a c : Nat} {l : List Int64} (j : Nat) (h : c ≠ k + 1) : (PW S k a l).2 c j = S.2 c j := by simp [PW, wrt, h]
theorem PW_at {S : Mem} {k a : Nat} {l : List Int64} : (PW S k a l).1 k 1 = nI (a + l.length) := u2_s _ _ _ _
theorem wrt_push (X : Nat → Nat → Int64) (k a : Nat) (l : List Int64) (v : Int64) : u2 (wrt X k a l) k (a + l.length) v = wrt X k a (l ++ [v]) := by
  funext c i
  unfold u2 wrt
  by_cases h1 : c = k
  · by_cases h2 : i = a + l.length
    · subst h2
      simp [h1]
    · by_cases h3 : a ≤ i ∧ i < a + l.length
      · have h4 : i - a < l.length := by omega
        simp [h1, h2, h3, show i < a + (l.length + 1) by omega, List.getElem?_append_left h4]
      · have : ¬ (a ≤ i ∧ i < a + (l.length + 1)) := by omega
        simp [h1, h2, h3, this]
  · simp [h1]
theorem PW_0 {S : Mem} {k a : Nat} (h : S.1 k 1 = nI a) : PW S k a [] = S := by
  refine Prod.ext ?_ ?_
  · funext c i
    show u2 S.1 k 1 (nI (a + 0)) c i = S.1 c i
    unfold u2
    by_cases h1 : c = k
    · by_cases h2 : i = 1
      · simp [h1, h2, ← h]
      · simp [h1, h2]
    · simp [h1]
  · funext c i
    show wrt S.2 (k + 1) a [] c i = S.2 c i
    unfold wrt
    have : ¬ (c = k + 1 ∧ a ≤ i ∧ i < a + ([] : List Int64).length) := by simp
    rw [if_neg this]
theorem u2_u2 {α : Type} (f : Nat → Nat → α) (k j : Nat) (v w : α) : u2 (u2 f k j v) k j w = u2 f k j w := by
  funext a c
  unfold u2
  by_cases h1 : a = k <;> by_cases h2 : c = j <;> simp [h1, h2]
theorem e_put {k a : Nat} (hk : isRow k) (S : Mem) (l : List Int64) (v : Int64) (hl : a + l.length < 716) {Qr : QR} {Qx : QX} (h : Qr none (PW S k a (l ++ [v]))) : vsp 156 7 (sX7_put 156) [.ref k, .long v] (PW S k a l) Qr Qx := by
  refine ⟨hk.1, runG rfl 40 ⟨hk.1, hk.1, Or.inl ⟨0, 716, 0, 0, hk.2, by decide, by decide, And.intro (fun h1 => ?_) (fun h1 => ?_)⟩⟩⟩
  · rw [PW_at] at h1
    exact absurd ((nI_leI (by decide) (by omega)).mp h1) (by omega)
  · refine ⟨hk.1, hk.1, 716, hk.2, ?_, hk.1, hk.1, rfl, ?_⟩
    · rw [PW_at]; exact vp_nI hl
    · have e1 : (PW S k a l).1 k 1 = nI (a + l.length) := PW_at
      have e2 : (u2 (PW S k a l).1 k 1 ((PW S k a l).1 k 1 + 1), u2 (PW S k a l).2 (k + 1) ((PW S k a l).1 k 1).toNatClampNeg v) = PW S k a (l ++ [v]) := by
        rw [e1, nI_clamp (by omega), nI_1]
        show (u2 (u2 S.1 k 1 (nI (a + l.length))) k 1 (nI (a + l.length + 1)), u2 (wrt S.2 (k + 1) a l) (k + 1) (a + l.length) v) = (u2 S.1 k 1 (nI (a + (l ++ [v]).length)), wrt S.2 (k + 1) a (l ++ [v]))
        rw [u2_u2, wrt_push, List.length_append]
        rfl
      rw [← e2] at h
      exact h
