/-! ===== the law's loop: what its cases share ===== -/
def lwQ : QR := fun v _ => v = some (.int 1)
def lwX : QX := fun _ _ => False
def lwL (i : Nat) : LL := [(4, .int (nI i)), (3, .ref 155), (2, .ref 138), (1, .ref 0), (0, .ref 2000)]
def lwC (rc i t : Nat) : CutT := [(1691, fun rc' L st S => st = [] ∧ rc ≤ rc' + 4 ∧ sb (lwL i) L ∧ INV S (t + 1))]
theorem vj {i j L : Nat} (h : i + j < L) (hL : L ≤ 3072) : vp_in (nI i + nI j) L := by
  rw [nI_add]; exact vp_nI h (by omega)
theorem nI_un {x : Int32} {a b : Nat} (h : x = nI a) (h' : x = nI b) (ha : a < 2 ^ 31) (hb : b < 2 ^ 31) : a = b := (nI_eq ha hb).mp (h.symm.trans h')
theorem stO_un {w : Nat → Int64} {p k k' : Nat} (h : stO w p k) (h' : stO w p k') : k = k' := (lN_eq (by have := h.1; omega) (by have := h'.1; omega)).mp (h.2.1.symm.trans h'.2.1)
theorem otV_un {w : Nat → Int64} {d : Nat} {v v' : Int64} (h : otV w d v) (h' : otV w d v') : v = v' := by
  by_cases a : w 3 = 0
  · rw [h.1 a, h'.1 a]
  · by_cases b : canW w d (wyO w d)
    · rw [h.2.2 a b, h'.2.2 a b]
    · rw [h.2.1 a b, h'.2.1 a b]
theorem stl_un {rt sh : Nat → Int64} {bt : Nat → Int32} {nn : Int64} {m T T' : Nat} (h : stl rt sh bt nn m T) (h' : stl rt sh bt nn m T') : T = T' := by
  rcases Nat.lt_trichotomy T T' with g | g | g
  · obtain ⟨d, hd, e⟩ := h'.1 T g
    exact absurd (h.2 d hd) e
  · exact g
  · obtain ⟨d, hd, e⟩ := h.1 T' g
    exact absurd (h'.2 d hd) e
theorem inr_un {R : RA} {w w' : Nat → Int64} (h : R = .inr w) (h' : R = .inr w') : w = w' := Sum.inr.inj (h.symm.trans h')
theorem inl_un {R : RA} {r r' : Int32} {p p' : Nat} (h : R = .inl (r, p)) (h' : R = .inl (r', p')) : r = r' ∧ p = p' := Prod.mk.inj (Sum.inl.inj (h.symm.trans h'))
theorem WFt_un {w : Nat → Int64} {n m n' m' : Nat} (h : WFt w n m) (h' : WFt w n' m') : n = n' ∧ m = m' := by
  have a := h.cnt
  have b := h'.cnt
  exact ⟨a.1.symm.trans b.1, a.2.symm.trans b.2⟩
theorem cpr_cg {X Y : Nat → Nat → Int64} (h1 : X 141 = Y 141) (h2 : X 143 = Y 143) : cpr X 141 143 754 143 = cpr Y 141 143 754 143 := by
  funext i
  unfold cpr
  rw [h1, h2]
theorem WN.lay {w : Nat → Int64} {t n m : Nat} (h : WN w t n m) : ∀ p, p < m → ∃ k, k ≤ 40 ∧ w (418 + 83 * p) = lN k := fun p hp => by
  obtain ⟨k, a, b, -⟩ := h.2.2.2.2.2.2.1 p hp
  exact ⟨k, a, b⟩
theorem WN.lyn {w : Nat → Int64} {t n m : Nat} (h : WN w t n m) : ∀ p, p < m → lyN w p ≤ 40 := fun p hp => by
  obtain ⟨k, a, b⟩ := h.lay p hp
  have : lyN w p = k := by
    show (w (418 + 83 * p)).toNatClampNeg = k
    rw [b, lN_clamp (by omega)]
  omega
theorem WN.sto {w : Nat → Int64} {t n m : Nat} (h : WN w t n m) (ht : t ≤ 512) : ∀ p, p < m → ∃ k, stO w p k := fun p hp => by
  have n5 := h.1.1
  refine stO_of ht ?_ (iS_0 (fun d hd => inC_0 (h.2.2.2.2.2.1 d hd).2)) (h.2.2.2.2.2.2.1 p hp)
  have a := (rgI h.2.2.2.2.1 (by decide)).1
  have b := iS_0 (f := opI w) (n := n) (fun d hd => by unfold opI; exact (rgI (h.2.2.2.2.2.1 d hd).1.2.1.1 (by decide)).1)
  unfold unI
  omega
theorem WN.rgm {w : Nat → Int64} {t n m : Nat} (h : WN w t n m) : ∀ d, d < n → rgM w d := fun d hd => (h.2.2.2.2.2.1 d hd).1.2.2
theorem WN.com {w : Nat → Int64} {t n m : Nat} (h : WN w t n m) : ∀ d, d < n → ∀ j, 1 ≤ j → j < 4 → rg w (66 + 7 * d + j) 100000000 := fun d hd => (h.2.2.2.2.2.1 d hd).1.1.2.1
