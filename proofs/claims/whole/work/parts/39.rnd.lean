/-! ===== what was saved is loaded again ===== -/
def rowHas (X : Nat → Int64) (a : Nat) (l : List Int64) : Prop := ∀ i (h : i < l.length), X (a + i) = l[i]
theorem rowHas_app {X : Nat → Int64} {a : Nat} {l m : List Int64} (h : rowHas X a (l ++ m)) : rowHas X a l ∧ rowHas X (a + l.length) m := by
  constructor
  · intro i hi
    rw [h i (by rw [List.length_append]; omega), List.getElem_append_left hi]
  · intro i hi
    have := h (l.length + i) (by rw [List.length_append]; omega)
    rw [List.getElem_append_right (by omega)] at this
    rw [Nat.add_assoc, this]
    congr 1
    omega
theorem rowHas_cons {X : Nat → Int64} {a : Nat} {x : Int64} {l : List Int64} (h : rowHas X a (x :: l)) : X a = x ∧ rowHas X (a + 1) l := by
  constructor
  · exact h 0 (by simp)
  · intro i hi
    have := h (i + 1) (by simp; omega)
    rw [List.getElem_cons_succ] at this
    rw [← this]
    congr 1
    omega
theorem rowHas_arr {X : Nat → Int64} {a n : Nat} {f : Nat → Int64} (h : rowHas X a (arrL f n)) : ∀ j, j < n → X (a + j) = f j := by
  intro j hj
  have := h j (by rw [arrL_len]; exact hj)
  rw [this]
  simp [arrL]
theorem rowHas_PW (S : Mem) (r : Nat) (l : List Int64) : rowHas ((PW S r 0 l).2 (r + 1)) 0 l := by
  intro i hi
  simp [PW, wrt, hi]
theorem ii (x : Int32) : x.toInt64.toInt32 = x := Int32.toInt32_toInt64 x
def sameLot (S S' : Mem) (k : Nat) : Prop := S'.1 k 0 = S.1 k 0 ∧ S'.1 k 1 = S.1 k 1 ∧ ∀ j, j < 4 → S'.2 (k + 1) j = S.2 (k + 1) j
theorem sameLot_of {X : Nat → Int64} {S S' : Mem} {k a : Nat} (h : rowHas X a (lotL S k)) (c : lotC X S' k a) : sameLot S S' k := by
  have ⟨h1, h⟩ := rowHas_cons h
  have ⟨h2, h⟩ := rowHas_cons h
  have h3 := rowHas_arr h
  refine ⟨c.1.trans (by rw [h1, ii]), c.2.1.trans (by rw [h2, ii]), fun j hj => (c.2.2 j hj).trans (h3 j hj)⟩
def sameMon (S S' : Mem) (q : Nat) : Prop := sameLot S S' (q + 1) ∧ sameLot S S' (q + 3) ∧ (∀ j, j < 5 → S'.1 q (3 + j) = S.1 q (3 + j)) ∧ (∀ i, i < 7 → ∀ j, j < 4 → S'.2 (q + 5 + i) j = S.2 (q + 5 + i) j) ∧ ∀ j, j < 4 → S'.2 q (14 + j) = S.2 q (14 + j)
theorem sameMon_of {X : Nat → Int64} {S S' : Mem} {q a : Nat} (h : rowHas X a (monL S q)) (c : monC X S' q a) : sameMon S S' q := by
  obtain ⟨c1, c2, c3, c4, c5, c6⟩ := c
  have ⟨g1, h⟩ := rowHas_app h
  rw [lotL_len] at h
  have ⟨g2, h⟩ := rowHas_app h
  rw [lotL_len] at h
  have ⟨g3, h⟩ := rowHas_app h
  rw [arrL_len] at h
  have ⟨i0, h⟩ := rowHas_cons h
  have ⟨i1, h⟩ := rowHas_cons h
  have ⟨i2, h⟩ := rowHas_cons h
  have ⟨i3, h⟩ := rowHas_cons h
  have ⟨i4, h⟩ := rowHas_cons h
  have ⟨j0, h⟩ := rowHas_app h
  rw [arrL_len] at h
  have ⟨j1, h⟩ := rowHas_app h
  rw [arrL_len] at h
  have ⟨j2, h⟩ := rowHas_app h
  rw [arrL_len] at h
  have ⟨j3, h⟩ := rowHas_app h
  rw [arrL_len] at h
  have ⟨j4, h⟩ := rowHas_app h
  rw [arrL_len] at h
  have ⟨j5, h⟩ := rowHas_app h
  rw [arrL_len] at h
  have ⟨k0, h⟩ := rowHas_cons h
  have ⟨k1, h⟩ := rowHas_cons h
  have ⟨k2, h⟩ := rowHas_cons h
  have ⟨k3, h⟩ := rowHas_cons h
  refine ⟨sameLot_of g1 c1, sameLot_of g2 c2, fun j hj => ?_, fun i hi j hj => ?_, fun j hj => ?_⟩
  · rw [c4 j hj]
    rcases (show j = 0 ∨ j = 1 ∨ j = 2 ∨ j = 3 ∨ j = 4 by omega) with rfl | rfl | rfl | rfl | rfl
    · exact (congrArg Int64.toInt32 i0).trans (ii _)
    · exact (congrArg Int64.toInt32 i1).trans (ii _)
    · exact (congrArg Int64.toInt32 i2).trans (ii _)
    · exact (congrArg Int64.toInt32 i3).trans (ii _)
    · exact (congrArg Int64.toInt32 i4).trans (ii _)
  · rcases (show i = 0 ∨ i = 1 ∨ i = 2 ∨ i = 3 ∨ i = 4 ∨ i = 5 ∨ i = 6 by omega) with rfl | rfl | rfl | rfl | rfl | rfl | rfl
    · exact (c3 j hj).trans (rowHas_arr g3 j hj)
    · exact (c5 0 (by decide) j hj).trans (rowHas_arr j0 j hj)
    · exact (c5 1 (by decide) j hj).trans (rowHas_arr j1 j hj)
    · exact (c5 2 (by decide) j hj).trans (rowHas_arr j2 j hj)
    · exact (c5 3 (by decide) j hj).trans (rowHas_arr j3 j hj)
    · exact (c5 4 (by decide) j hj).trans (rowHas_arr j4 j hj)
    · exact (c5 5 (by decide) j hj).trans (rowHas_arr j5 j hj)
  · rw [c6 j hj]
    rcases (show j = 0 ∨ j = 1 ∨ j = 2 ∨ j = 3 by omega) with rfl | rfl | rfl | rfl
    · exact k0
    · exact k1
    · exact k2
    · exact k3
def sameDep (S S' : Mem) (k : Nat) : Prop := (∀ j, j < 5 → S'.1 k j = S.1 k j) ∧ (∀ j, j < 2 → S'.2 (k + 1) j = S.2 (k + 1) j) ∧ (∀ j, j < 5 → S'.1 k (6 + j) = S.1 k (6 + j)) ∧ (∀ j, j < 4 → S'.2 (k + 2) j = S.2 (k + 2) j) ∧ sameLot S S' (k + 3) ∧ sameMon S S' (k + 5)
theorem sameDep_of {X : Nat → Int64} {S S' : Mem} {k a : Nat} (h : rowHas X a (depL S k)) (c : depC X S' k a) : sameDep S S' k := by
  obtain ⟨c1, c2, c3, c4, c5, c6⟩ := c
  have ⟨i0, h⟩ := rowHas_cons h
  have ⟨i1, h⟩ := rowHas_cons h
  have ⟨i2, h⟩ := rowHas_cons h
  have ⟨i3, h⟩ := rowHas_cons h
  have ⟨i4, h⟩ := rowHas_cons h
  have ⟨g1, h⟩ := rowHas_app h
  rw [arrL_len] at h
  have ⟨k0, h⟩ := rowHas_cons h
  have ⟨k1, h⟩ := rowHas_cons h
  have ⟨k2, h⟩ := rowHas_cons h
  have ⟨k3, h⟩ := rowHas_cons h
  have ⟨k4, h⟩ := rowHas_cons h
  have ⟨g2, h⟩ := rowHas_app h
  rw [arrL_len] at h
  have ⟨g3, h⟩ := rowHas_app h
  rw [lotL_len] at h
  refine ⟨fun j hj => ?_, fun j hj => (c2 j hj).trans (rowHas_arr g1 j hj), fun j hj => ?_, fun j hj => (c4 j hj).trans (rowHas_arr g2 j hj), sameLot_of g3 c5, sameMon_of h c6⟩
  · rw [c1 j hj]
    rcases (show j = 0 ∨ j = 1 ∨ j = 2 ∨ j = 3 ∨ j = 4 by omega) with rfl | rfl | rfl | rfl | rfl
    · exact (congrArg Int64.toInt32 i0).trans (ii _)
    · exact (congrArg Int64.toInt32 i1).trans (ii _)
    · exact (congrArg Int64.toInt32 i2).trans (ii _)
    · exact (congrArg Int64.toInt32 i3).trans (ii _)
    · exact (congrArg Int64.toInt32 i4).trans (ii _)
  · rw [c3 j hj]
    rcases (show j = 0 ∨ j = 1 ∨ j = 2 ∨ j = 3 ∨ j = 4 by omega) with rfl | rfl | rfl | rfl | rfl
    · exact (congrArg Int64.toInt32 k0).trans (ii _)
    · exact (congrArg Int64.toInt32 k1).trans (ii _)
    · exact (congrArg Int64.toInt32 k2).trans (ii _)
    · exact (congrArg Int64.toInt32 k3).trans (ii _)
    · exact (congrArg Int64.toInt32 k4).trans (ii _)
theorem rowHas_lay {X : Nat → Int64} {S : Mem} {k a : Nat} : ∀ {n : Nat}, rowHas X a (layL S k n) → ∀ j, j < n → X (a + 2 * j) = S.2 (k + 1) j ∧ X (a + 2 * j + 1) = S.2 (k + 2) j
  | 0, _, j, hj => absurd hj (Nat.not_lt_zero j)
  | n + 1, h, j, hj => by
    have ⟨h1, h2⟩ := rowHas_app h
    rw [layL_len] at h2
    by_cases e : j = n
    · subst e
      have ⟨x1, h2⟩ := rowHas_cons h2
      have ⟨x2, h2⟩ := rowHas_cons h2
      exact ⟨x1, x2⟩
    · exact rowHas_lay h1 j (by omega)
def samePro (S S' : Mem) (k n : Nat) : Prop := (∀ j, j < 5 → S'.1 k j = S.1 k j) ∧ S'.2 k 5 = S.2 k 5 ∧ S'.2 k 6 = S.2 k 6 ∧ S'.1 k 7 = S.1 k 7 ∧ ∀ j, j < n → S'.2 (k + 1) j = S.2 (k + 1) j ∧ S'.2 (k + 2) j = S.2 (k + 2) j
theorem samePro_of {X : Nat → Int64} {S S' : Mem} {k a n : Nat} (hn : S.1 k 7 = nI n) (h : rowHas X a (proL S k n)) (c : proC X S' k a n n) : samePro S S' k n := by
  obtain ⟨c1, c2, c3, c4, c5⟩ := c
  have ⟨g, h⟩ := rowHas_app h
  rw [proH_len] at h
  have ⟨i0, g⟩ := rowHas_cons g
  have ⟨i1, g⟩ := rowHas_cons g
  have ⟨i2, g⟩ := rowHas_cons g
  have ⟨i3, g⟩ := rowHas_cons g
  have ⟨i4, g⟩ := rowHas_cons g
  have ⟨i5, g⟩ := rowHas_cons g
  have ⟨i6, g⟩ := rowHas_cons g
  refine ⟨fun j hj => ?_, c2.trans i5, c3.trans i6, c4.trans hn.symm, fun j hj => ?_⟩
  · rw [c1 j hj]
    rcases (show j = 0 ∨ j = 1 ∨ j = 2 ∨ j = 3 ∨ j = 4 by omega) with rfl | rfl | rfl | rfl | rfl
    · exact (congrArg Int64.toInt32 i0).trans (ii _)
    · exact (congrArg Int64.toInt32 i1).trans (ii _)
    · exact (congrArg Int64.toInt32 i2).trans (ii _)
    · exact (congrArg Int64.toInt32 i3).trans (ii _)
    · exact (congrArg Int64.toInt32 i4).trans (ii _)
  · have := rowHas_lay h j hj
    refine ⟨(c5 j hj).1.trans this.1, (c5 j hj).2.trans ?_⟩
    rw [← this.2]
    congr 1
    omega
theorem rowHas_deps {X : Nat → Int64} {S : Mem} {a : Nat} : ∀ {n : Nat}, rowHas X a (depsL S n) → ∀ d, d < n → rowHas X (a + 71 * d) (depL S (4 + 17 * d))
  | 0, _, d, hd => absurd hd (Nat.not_lt_zero d)
  | n + 1, h, d, hd => by
    have ⟨h1, h2⟩ := rowHas_app h
    rw [depsL_len] at h2
    by_cases e : d = n
    · subst e
      exact h2
    · exact rowHas_deps h1 d (by omega)
theorem rowHas_pros {X : Nat → Int64} {S : Mem} {ns : Nat → Nat} {a : Nat} : ∀ {n : Nat}, rowHas X a (prosL S ns n) → ∀ p, p < n → rowHas X (a + plen ns p) (proL S (89 + 3 * p) (ns p))
  | 0, _, p, hp => absurd hp (Nat.not_lt_zero p)
  | n + 1, h, p, hp => by
    have ⟨h1, h2⟩ := rowHas_app h
    rw [prosL_len] at h2
    by_cases e : p = n
    · subst e
      exact h2
    · exact rowHas_pros h1 p (by omega)
/-- the two memories hold one desk -/
def sameDesk (S S' : Mem) (nd np : Nat) (ns : Nat → Nat) : Prop := (∀ j, j < 5 → S'.1 1 (2 + j) = S.1 1 (2 + j)) ∧ (∀ j, j < 4 → S'.2 1 (7 + j) = S.2 1 (7 + j)) ∧ (∀ d, d < nd → sameDep S S' (4 + 17 * d)) ∧ ∀ p, p < np → samePro S S' (89 + 3 * p) (ns p)
theorem e_dskBack {r nd np : Nat} {ns : Nat → Nat} {O : Mem} (hr : isRow r) (hr1 : 101 ≤ r) (S : Mem) (ha : S.1 r 1 = nI 0) (hO : dskN O nd np ns) (hM : ∀ d, d < nd → ∃ k, k ≤ 2 ∧ O.1 (4 + 17 * d) 4 = nI k) (hX : rowHas (S.2 (r + 1)) 0 (dskL O nd np ns)) {Qr : QR} {Qx : QX} (h : ∀ S', sameDesk O S' nd np ns → (∀ c, c = 0 ∨ 101 ≤ c → c ≠ r → S'.1 c = S.1 c) → (∀ c, c = 0 ∨ 101 ≤ c → S'.2 c = S.2 c) → Qr none S') : vsp 156 1 (sX1_load 156) [.ref 1, .ref r] S Qr Qx := by
  obtain ⟨n1, n2, n3, n4, n5⟩ := hO
  have ⟨g, hX⟩ := rowHas_app hX
  rw [dskH_len] at hX
  have ⟨hd, hp⟩ := rowHas_app hX
  rw [depsL_len, Nat.zero_add] at hp
  rw [Nat.zero_add] at hd
  have ⟨i0, g⟩ := rowHas_cons g
  have ⟨i1, g⟩ := rowHas_cons g
  have ⟨i2, g⟩ := rowHas_cons g
  have ⟨i3, g⟩ := rowHas_cons g
  have ⟨i4, g⟩ := rowHas_cons g
  have ⟨i5, g⟩ := rowHas_cons g
  have ⟨i6, g⟩ := rowHas_cons g
  have ⟨i7, g⟩ := rowHas_cons g
  have ⟨i8, g⟩ := rowHas_cons g
  refine e_dskLoad (nd := nd) (np := np) (ns := ns) hr hr1 S ha (by rw [i0, ii]; exact n1) n2 (((congrArg Int64.toInt32 i1).trans (ii _)).trans n3) n4 (fun p hp9 => ⟨?_, (n5 p hp9).2⟩) (fun d hd9 => ?_) (fun S' c f1 f2 => h S' ?_ f1 f2)
  · have q := rowHas_pros hp p hp9
    have ⟨q, _⟩ := rowHas_app q
    have ⟨_, q⟩ := rowHas_cons q
    have ⟨_, q⟩ := rowHas_cons q
    have ⟨_, q⟩ := rowHas_cons q
    have ⟨_, q⟩ := rowHas_cons q
    have ⟨_, q⟩ := rowHas_cons q
    have ⟨_, q⟩ := rowHas_cons q
    have ⟨_, q⟩ := rowHas_cons q
    have ⟨q, _⟩ := rowHas_cons q
    exact ((congrArg Int64.toInt32 q).trans (ii _)).trans (n5 p hp9).1
  · obtain ⟨kk, kk2, hkk⟩ := hM d hd9
    have q := rowHas_deps hd d hd9
    have ⟨_, q⟩ := rowHas_cons q
    have ⟨_, q⟩ := rowHas_cons q
    have ⟨_, q⟩ := rowHas_cons q
    have ⟨_, q⟩ := rowHas_cons q
    have ⟨q, _⟩ := rowHas_cons q
    exact ⟨kk, kk2, ((congrArg Int64.toInt32 q).trans (ii _)).trans hkk⟩
  · obtain ⟨c1, c2, c3, c4, c5, c6⟩ := c
    refine ⟨fun j hj => ?_, fun j hj => ?_, fun d hd9 => sameDep_of (rowHas_deps hd d hd9) (c5 d hd9), fun p hp9 => samePro_of (n5 p hp9).1 (rowHas_pros hp p hp9) (c6 p hp9)⟩
    · rcases (show j = 0 ∨ j = 1 ∨ j = 2 ∨ j = 3 ∨ j = 4 by omega) with rfl | rfl | rfl | rfl | rfl
      · exact c1.trans n1.symm
      · exact c2.trans n3.symm
      · exact (c3 0 (by decide)).trans ((congrArg Int64.toInt32 i2).trans (ii _))
      · exact (c3 1 (by decide)).trans ((congrArg Int64.toInt32 i3).trans (ii _))
      · exact (c3 2 (by decide)).trans ((congrArg Int64.toInt32 i4).trans (ii _))
    · rw [c4 j hj]
      rcases (show j = 0 ∨ j = 1 ∨ j = 2 ∨ j = 3 by omega) with rfl | rfl | rfl | rfl
      · exact i5
      · exact i6
      · exact i7
      · exact i8
