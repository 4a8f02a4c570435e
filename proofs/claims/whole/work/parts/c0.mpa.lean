/-! ===== the model: parts ===== -/
theorem l_ss (a s x : Int64) : a - s - x = a - (s + x) := by
  rw [Int64.sub_eq_add_neg, Int64.sub_eq_add_neg, Int64.sub_eq_add_neg, Int64.neg_add, Int64.sub_eq_add_neg, Int64.add_assoc]
def prW (r u a c : Nat → Int64) : Nat → Int64 := fun i => if 406 ≤ i ∧ i < 418 then (if (i - 406) % 3 = 0 then u ((i - 406) / 3) else if (i - 406) % 3 = 1 then a ((i - 406) / 3) else c ((i - 406) / 3)) else r i
theorem prW_u (r u a c : Nat → Int64) {p : Nat} (h : p < 4) : prW r u a c (406 + 3 * p) = u p := by
  unfold prW
  rw [if_pos (by omega), if_pos (by omega), show (406 + 3 * p - 406) / 3 = p by omega]
theorem prW_a (r u a c : Nat → Int64) {p : Nat} (h : p < 4) : prW r u a c (406 + 3 * p + 1) = a p := by
  unfold prW
  rw [if_pos (by omega), if_neg (by omega), if_pos (by omega), show (406 + 3 * p + 1 - 406) / 3 = p by omega]
theorem prW_c (r u a c : Nat → Int64) {p : Nat} (h : p < 4) : prW r u a c (406 + 3 * p + 2) = c p := by
  unfold prW
  rw [if_pos (by omega), if_neg (by omega), if_neg (by omega), show (406 + 3 * p + 2 - 406) / 3 = p by omega]
theorem prW_o (r u a c : Nat → Int64) {i : Nat} (h : i < 406 ∨ 418 ≤ i) : prW r u a c i = r i := if_neg (by omega)
theorem prW_ext {r u a c u' a' c' : Nat → Int64} (h : ∀ p, p < 4 → u p = u' p ∧ a p = a' p ∧ c p = c' p) : prW r u a c = prW r u' a' c' := by
  funext i
  unfold prW
  by_cases e : 406 ≤ i ∧ i < 418
  · obtain ⟨h1, h2, h3⟩ := h ((i - 406) / 3) (by omega)
    rw [if_pos e, if_pos e, h1, h2, h3]
  · rw [if_neg e, if_neg e]
theorem pr_cases (i : Nat) (h : 406 ≤ i ∧ i < 418) : ∃ p, p < 4 ∧ (i = 406 + 3 * p ∨ i = 406 + 3 * p + 1 ∨ i = 406 + 3 * p + 2) := ⟨(i - 406) / 3, by omega, by omega⟩
theorem prW_id (r : Nat → Int64) : prW r (fun p => r (406 + 3 * p)) (fun p => r (406 + 3 * p + 1)) (fun p => r (406 + 3 * p + 2)) = r := by
  funext i
  by_cases e : 406 ≤ i ∧ i < 418
  · obtain ⟨p, hp, rfl | rfl | rfl⟩ := pr_cases i e
    · exact prW_u _ _ _ _ hp
    · exact prW_a _ _ _ _ hp
    · exact prW_c _ _ _ _ hp
  · exact prW_o _ _ _ _ (by omega)
theorem prW_su (r u a c : Nat → Int64) {p : Nat} (h : p < 4) (v : Int64) : u1L (prW r u a c) (406 + 3 * p) v = prW r (u1L u p v) a c := by
  funext i
  by_cases z : i = 406 + 3 * p
  · subst z; rw [u1L_s, prW_u _ _ _ _ h, u1L_s]
  · rw [u1L_o _ _ z]
    by_cases e : 406 ≤ i ∧ i < 418
    · obtain ⟨q, hq, rfl | rfl | rfl⟩ := pr_cases i e
      · rw [prW_u _ _ _ _ hq, prW_u _ _ _ _ hq, u1L_o _ _ (by omega)]
      · rw [prW_a _ _ _ _ hq, prW_a _ _ _ _ hq]
      · rw [prW_c _ _ _ _ hq, prW_c _ _ _ _ hq]
    · rw [prW_o _ _ _ _ (by omega), prW_o _ _ _ _ (by omega)]
theorem prW_sa (r u a c : Nat → Int64) {p : Nat} (h : p < 4) (v : Int64) : u1L (prW r u a c) (406 + 3 * p + 1) v = prW r u (u1L a p v) c := by
  funext i
  by_cases z : i = 406 + 3 * p + 1
  · subst z; rw [u1L_s, prW_a _ _ _ _ h, u1L_s]
  · rw [u1L_o _ _ z]
    by_cases e : 406 ≤ i ∧ i < 418
    · obtain ⟨q, hq, rfl | rfl | rfl⟩ := pr_cases i e
      · rw [prW_u _ _ _ _ hq, prW_u _ _ _ _ hq]
      · rw [prW_a _ _ _ _ hq, prW_a _ _ _ _ hq, u1L_o _ _ (by omega)]
      · rw [prW_c _ _ _ _ hq, prW_c _ _ _ _ hq]
    · rw [prW_o _ _ _ _ (by omega), prW_o _ _ _ _ (by omega)]
theorem prW_sc (r u a c : Nat → Int64) {p : Nat} (h : p < 4) (v : Int64) : u1L (prW r u a c) (406 + 3 * p + 2) v = prW r u a (u1L c p v) := by
  funext i
  by_cases z : i = 406 + 3 * p + 2
  · subst z; rw [u1L_s, prW_c _ _ _ _ h, u1L_s]
  · rw [u1L_o _ _ z]
    by_cases e : 406 ≤ i ∧ i < 418
    · obtain ⟨q, hq, rfl | rfl | rfl⟩ := pr_cases i e
      · rw [prW_u _ _ _ _ hq, prW_u _ _ _ _ hq]
      · rw [prW_a _ _ _ _ hq, prW_a _ _ _ _ hq]
      · rw [prW_c _ _ _ _ hq, prW_c _ _ _ _ hq, u1L_o _ _ (by omega)]
    · rw [prW_o _ _ _ _ (by omega), prW_o _ _ _ _ (by omega)]
theorem prW_so (r u a c : Nat → Int64) {j : Nat} (h : j < 406 ∨ 418 ≤ j) (v : Int64) : u1L (prW r u a c) j v = prW (u1L r j v) u a c := by
  funext i
  by_cases z : i = j
  · subst z; rw [u1L_s, prW_o _ _ _ _ h, u1L_s]
  · rw [u1L_o _ _ z]
    unfold prW
    rw [u1L_o _ _ z]
theorem u1L_id (w : Nat → Int64) (i : Nat) : u1L w i (w i) = w := by
  funext x
  by_cases e : x = i
  · subst e; rw [u1L_s]
  · rw [u1L_o _ _ e]
theorem st2 {X : Nat → Nat → Int64} {f : Nat → Int64} (h : X 143 = f) {x : Int32} {i : Nat} (hx : x = nI i) (hi : i < 754) (v : Int64) : u2 X 143 x.toNatClampNeg v 143 = u1L f i v ∧ ∀ c, c ≠ 143 → u2 X 143 x.toNatClampNeg v c = X c := by
  subst hx; exact st1 h hi v
theorem rd2 {X : Nat → Nat → Int64} {f : Nat → Int64} (h : X 143 = f) {x : Int32} {i : Nat} (hx : x = nI i) (hi : i < 754) : X 143 x.toNatClampNeg = f i := by
  subst hx; exact rd1 h hi
theorem vp2 {x : Int32} {i : Nat} (hx : x = nI i) (hi : i < 754) : vp_in x 754 := by subst hx; exact vp_nI hi
theorem e_latest2 {d x : Nat} {u v : Int32} (hu : u = nI d) (hv : v = nI x) (S : Mem) {Qr : QR} {Qx : QX} (h : Qr (some (.int (nI (131 + 55 * d + x)))) S) : sX10_latest 156 [.int u, .int v] S Qr Qx := by
  subst hu; exact e_latestV hv S h
/-- one more is looked at -/
theorem fstP.nx {P : Nat → Prop} {i : Nat} {v : Int32} (h : fstP P 0 i v) (hn : ¬ P i) : fstP P 0 (i + 1) v := by
  rcases h with ⟨a, b⟩ | ⟨q, a, b, c, d, e⟩
  · refine Or.inl ⟨a, fun p x y => ?_⟩
    by_cases z : p = i
    · rw [z]; exact hn
    · exact b p x (by omega)
  · exact Or.inr ⟨q, a, by omega, c, d, e⟩
theorem fstP.ok {P : Nat → Prop} {i : Nat} {v : Int32} (h : fstP P 0 i v) (hv : ¬ v = -1) : fstP P 0 (i + 1) v := by
  rcases h with ⟨a, b⟩ | ⟨q, a, b, c, d, e⟩
  · exact absurd a hv
  · exact Or.inr ⟨q, a, by omega, c, d, e⟩
theorem fstP.hit {P : Nat → Prop} {i : Nat} (hi : i < 2 ^ 31) (h : fstP P 0 i (-1)) (hp : P i) : fstP P 0 (i + 1) (nI i) := by
  rcases h with ⟨a, b⟩ | ⟨q, a, b, c, d, e⟩
  · exact Or.inr ⟨i, Nat.zero_le i, Nat.lt_succ_self i, hp, rfl, fun p x y => b p x y⟩
  · exact absurd d.symm (nI_ne (by omega))
/-- what the products get -/
abbrev byP (r : Nat → Int64) (p : Nat) : Prop := r (50 + 4 * p + 3) = 1
def pA (r : Nat → Int64) (F : Int64) (p : Nat) : Int64 := F * r (50 + 4 * p) / 100
def pU (r : Nat → Int64) (F : Int64) (m p : Nat) : Int64 := if p = 0 then pA r F 0 + (F - sumN (pA r F) m) else pA r F p
def pV (r : Nat → Int64) (F : Int64) (m p : Nat) : Int64 := pU r F m p * moreL 0 (r (50 + 4 * p + 1) - r (50 + 4 * p + 2))
def pL (r : Nat → Int64) (F O : Int64) (m : Nat) : Nat → Int64
  | 0 => O
  | p + 1 => if byP r p then pL r F O m p - lessL (pL r F O m p) (pV r F m p) else pL r F O m p
def pM (r : Nat → Int64) (f : Nat → Int64) (p : Nat) : Int64 := if byP r p then 0 else f p
def pG (r : Nat → Int64) (F O : Int64) (m p : Nat) : Int64 := if byP r p then 0 else if 0 < sumN (pM r (pV r F m)) m then cut (pL r F O m m) (pV r F m p) (sumN (pM r (pV r F m)) m) else cut (pL r F O m m) (pU r F m p) (sumN (pM r (pU r F m)) m)
def pC (r : Nat → Int64) (F O : Int64) (m p : Nat) : Int64 := if byP r p then lessL (pL r F O m p) (pV r F m p) else pG r F O m p + (if (∀ j, j < p → byP r j) then pL r F O m m - sumN (pG r F O m) m else 0)
def pZ (r : Nat → Int64) (F O : Int64) (m p : Nat) : Int64 := if 0 < pU r F m p then 0 else pC r F O m p
def pF (r : Nat → Int64) (F O : Int64) (m p : Nat) : Int64 := if 0 < pU r F m p then pC r F O m p + (if (∀ j, j < p → ¬ 0 < pU r F m j) then sumN (pZ r F O m) m else 0) else 0
def pX (r : Nat → Int64) (F O : Int64) (m : Nat) : Int64 := if (∀ j, j < m → ¬ 0 < pU r F m j) then sumN (pZ r F O m) m else 0
def paW (r : Nat → Int64) (l m : Nat) : Nat → Int64 := prW (u1L r ((131 + 55 * l) + 52) (r ((131 + 55 * l) + 52) + pX r (r ((131 + 55 * l) + 15)) (r ((131 + 55 * l) + 54)) m)) (fun p => if p < m then pU r (r ((131 + 55 * l) + 15)) m p else r (406 + 3 * p)) (fun p => if p < m then pV r (r ((131 + 55 * l) + 15)) m p else r (406 + 3 * p + 1)) (fun p => if p < m then pF r (r ((131 + 55 * l) + 15)) (r ((131 + 55 * l) + 54)) m p else r (406 + 3 * p + 2))
set_option maxRecDepth 20000 in
set_option maxHeartbeats 16000000 in
theorem e_parts {l m : Nat} (hl : l < 5) (hm0 : 0 < m) (hm : m ≤ 4) (r : Nat → Int64) (S : Mem) (hW : S.2 143 = r) (r0 : r 0 = lN (l + 1)) (r1 : r 1 = lN m) (hM : ∃ p, p < m ∧ ¬ byP r p) {Qr : QR} {Qx : QX} (h : ∀ X, X 143 = paW r l m → (∀ k, k ≠ 143 → X k = S.2 k) → Qr none (S.1, X)) : sX10_parts 156 [.ref 143] S Qr Qx := by
  have v0 : ∀ x, x < 754 → vp_in (nI x) 754 := fun x hx => vp_nI hx
  have nq : ∀ i, (nI 406 + nI 3 * nI i) = nI (406 + 3 * i) := fun i => by rw [pk_mul, nI_add]
  have nq' : ∀ i x, (nI 406 + nI 3 * nI i) + nI x = nI (406 + 3 * i + x) := fun i x => by rw [nq, nI_add]
  obtain ⟨F, eF⟩ : ∃ v, r ((131 + 55 * l) + 15) = v := ⟨_, rfl⟩
  obtain ⟨O, eO⟩ : ∃ v, r ((131 + 55 * l) + 54) = v := ⟨_, rfl⟩
  obtain ⟨u0, eu0⟩ : ∃ f, f = fun p => r (406 + 3 * p) := ⟨_, rfl⟩
  obtain ⟨a0, ea0⟩ : ∃ f, f = fun p => r (406 + 3 * p + 1) := ⟨_, rfl⟩
  obtain ⟨c0, ec0⟩ : ∃ f, f = fun p => r (406 + 3 * p + 2) := ⟨_, rfl⟩
  have r00 : prW r u0 a0 c0 = r := by rw [eu0, ea0, ec0]; exact prW_id r
  obtain ⟨fU, efU⟩ : ∃ f, f = fun p => if p < m then pU r F m p else u0 p := ⟨_, rfl⟩
  obtain ⟨fV, efV⟩ : ∃ f, f = fun p => if p < m then pV r F m p else a0 p := ⟨_, rfl⟩
  have uU : ∀ p, p < m → fU p = pU r F m p := fun p hp => by rw [efU]; exact if_pos hp
  have uV : ∀ p, p < m → fV p = pV r F m p := fun p hp => by rw [efV]; exact if_pos hp
  obtain ⟨B, eB⟩ : ∃ f, f = fun p => if byP r p then lessL (pL r F O m p) (pV r F m p) else 0 := ⟨_, rfl⟩
  obtain ⟨C, eC⟩ : ∃ f, f = fun p => if byP r p then lessL (pL r F O m p) (pV r F m p) else pG r F O m p := ⟨_, rfl⟩
  obtain ⟨lm, elm⟩ : ∃ v, pL r F O m m = v := ⟨_, rfl⟩
  obtain ⟨sw, esw⟩ : ∃ v, sumN (pM r (pV r F m)) m = v := ⟨_, rfl⟩
  obtain ⟨su, esu⟩ : ∃ v, sumN (pM r (pU r F m)) m = v := ⟨_, rfl⟩
  refine runM (ι := Nat × LL × Mem × Nat) rfl 300 0 [54, 116, 188, 272, 393] (fun a => a.1) (fun a => a.2.1) (fun a => a.2.2.1) (fun a => a.2.2.2)
    (fun a => ∃ (i : Nat) (X : Nat → Nat → Int64), i ≤ m ∧ (∀ c, c ≠ 143 → X c = S.2 c) ∧
      ((∃ u rest, X 143 = prW r u a0 c0 ∧ (∀ p, p < i → u p = pA r F p) ∧ (∀ p, i ≤ p → u p = u0 p) ∧ F - sumN (pA r F) i = rest ∧ a = (54, [(17, .int (nI i)), (9, .long rest), (0, .ref 143), (1, .int (nI l)), (2, .int (nI m)), (3, .int (-1)), (4, .int (-1)), (5, .long F), (11, .long 0), (13, .long 0), (15, .long O)], (S.1, X), 400 - i)) ∨
      (∃ aa c mn sm s1 s2 lf, X 143 = prW r fU aa c ∧ (∀ p, p < i → aa p = fV p ∧ c p = B p) ∧ (∀ p, i < p → aa p = a0 p ∧ c p = c0 p) ∧ fstP (fun p => ¬ byP r p) 0 i mn ∧ sumN (pM r (pV r F m)) i = s1 ∧ sumN (pM r (pU r F m)) i = s2 ∧ pL r F O m i = lf ∧
        ((aa i = a0 i ∧ c i = c0 i ∧ fstP (fun p => 0 < pU r F m p) 0 i sm ∧ a = (116, [(17, .int (nI i)), (11, .long s1), (13, .long s2), (15, .long lf), (3, .int mn), (4, .int sm), (0, .ref 143), (1, .int (nI l)), (2, .int (nI m))], (S.1, X), 300 - 10 * i)) ∨
        (i < m ∧ aa i = fV i ∧ c i = 0 ∧ fstP (fun p => 0 < pU r F m p) 0 (i + 1) sm ∧ a = (188, [(18, .int (nI 406 + nI 3 * nI i)), (17, .int (nI i)), (11, .long s1), (13, .long s2), (15, .long lf), (3, .int mn), (4, .int sm), (0, .ref 143), (1, .int (nI l)), (2, .int (nI m))], (S.1, X), 300 - 10 * i - 5)))) ∨
      (∃ c mn sm lf, X 143 = prW r fU fV c ∧ (∀ p, p < i → c p = C p) ∧ (∀ p, i ≤ p → p < m → c p = B p) ∧ (∀ p, m ≤ p → c p = c0 p) ∧ fstP (fun p => ¬ byP r p) 0 m mn ∧ fstP (fun p => 0 < pU r F m p) 0 m sm ∧ lm - sumN (pG r F O m) i = lf ∧ a = (272, [(19, .int (nI i)), (17, .long lm), (15, .long lf), (11, .long sw), (13, .long su), (3, .int mn), (4, .int sm), (0, .ref 143), (1, .int (nI l)), (2, .int (nI m))], (S.1, X), 200 - i)) ∨
      (∃ c sm ab, X 143 = prW (u1L r ((131 + 55 * l) + 52) ab) fU fV c ∧ (∀ p, m ≤ p → c p = c0 p) ∧
        ((sm = -1 ∧ (∀ p, p < m → ¬ 0 < pU r F m p) ∧ ab = r ((131 + 55 * l) + 52) + sumN (pZ r F O m) i ∧ (∀ p, p < i → c p = 0) ∧ (∀ p, i ≤ p → p < m → c p = pC r F O m p)) ∨
        (∃ q, q < m ∧ 0 < pU r F m q ∧ (∀ p, p < q → ¬ 0 < pU r F m p) ∧ sm = nI q ∧ ab = r ((131 + 55 * l) + 52) ∧ c q = pC r F O m q + sumN (pZ r F O m) i ∧ (∀ p, p < i → p ≠ q → c p = (if 0 < pU r F m p then pC r F O m p else 0)) ∧ (∀ p, i ≤ p → p < m → p ≠ q → c p = pC r F O m p))) ∧ a = (393, [(19, .int (nI i)), (4, .int sm), (0, .ref 143), (1, .int (nI l)), (2, .int (nI m))], (S.1, X), 100 - i)))) ?_ ?_
  · rintro a ⟨i, X, hi, hc, (⟨u, rest, hX, hu, hu', er, rfl⟩ | ⟨aa, c, mn, sm, s1, s2, lf, hX, ha, ha', fmn, es1, es2, elf, (⟨ai, ci, fsm, rfl⟩ | ⟨him, ai, ci, fsm, rfl⟩)⟩ | ⟨c, mn, sm, lf, hX, hc1, hc2, hc3, fmn, fsm, elf, rfl⟩ | ⟨c, sm, ab, hX, hc3, hS, rfl⟩)⟩
    · -- 54
      refine And.intro (fun q => ?_) (fun q => ?_)
      · have e : m = i := (le_of_nI (by omega) hi q).symm
        subst e
        obtain ⟨b1, b2⟩ := st1 hX (i := 406) (by decide) (X 143 (nI 406).toNatClampNeg + rest)
        have e6 : X 143 (nI 406).toNatClampNeg = pA r F 0 := by rw [rd1 hX (by decide)]; exact (prW_u r u a0 c0 (p := 0) (by decide)).trans (hu 0 hm0)
        refine ⟨754, tTri, v0 406 (by decide), 754, tTri, v0 406 (by decide), rfl, rfl, (116, [(17, .int (nI 0)), (11, .long 0), (13, .long 0), (15, .long O), (3, .int (-1)), (4, .int (-1)), (0, .ref 143), (1, .int (nI l)), (2, .int (nI m))], (S.1, _), 300 - 10 * 0), rfl, ⟨⟨0, _, Nat.zero_le _, fun x hx => (b2 x hx).trans (hc x hx), Or.inr (Or.inl ⟨a0, c0, -1, -1, 0, 0, O, ?_, fun p hp => absurd hp (Nat.not_lt_zero p), fun p _ => ⟨rfl, rfl⟩, fstP.end, rfl, rfl, rfl, Or.inl ⟨rfl, rfl, fstP.end, rfl⟩⟩)⟩, show 300 - 10 * 0 < 400 - m by omega⟩, rfl, rfl, rfl, rfl, rfl, rfl, rfl, rfl, rfl, rfl, trivial⟩
        refine (b1.trans (prW_su r u a0 c0 (p := 0) (by decide) _)).trans (prW_ext fun p hp => ⟨?_, rfl, rfl⟩)
        by_cases pm : p < m
        · rw [uU p pm]
          unfold pU
          by_cases z : p = 0
          · subst z; rw [u1L_s, if_pos rfl, e6, er]
          · rw [u1L_o _ _ z, if_neg z, hu p pm]
        · rw [u1L_o _ _ (by omega), hu' p (by omega), efU]; exact (if_neg pm).symm
      · have him := lt_of_nI (by omega) hi q
        obtain ⟨b1, b2⟩ := st2 hX (nq i) (by omega) (F * X 143 (50 + 4 * i + 0) / 100)
        have eA : F * X 143 (50 + 4 * i + 0) / 100 = pA r F i := by rw [hX, prW_o _ _ _ _ (by omega)]; rfl
        have rd : u2 X 143 (nI 406 + nI 3 * nI i).toNatClampNeg (F * X 143 (50 + 4 * i + 0) / 100) 143 (nI 406 + nI 3 * nI i).toNatClampNeg = pA r F i := by rw [rd2 b1 (nq i) (by omega), u1L_s]; exact eA
        refine ⟨⟨Nat.le_of_ble_eq_true rfl, Nat.le_of_ble_eq_true rfl, Nat.le_of_ble_eq_true rfl⟩, e_share tTri (by omega) (by decide) (S.1, X) ⟨(by decide), 754, tTri, vp2 (nq i) (by omega), 754, tTri, vp2 (nq i) (by omega), rfl, rfl, (54, [(17, .int (nI (i + 1))), (9, .long (F - sumN (pA r F) (i + 1))), (0, .ref 143), (1, .int (nI l)), (2, .int (nI m)), (3, .int (-1)), (4, .int (-1)), (5, .long F), (11, .long 0), (13, .long 0), (15, .long O)], (S.1, _), 400 - (i + 1)), rfl, ⟨⟨i + 1, _, him, fun x hx => (b2 x hx).trans (hc x hx), Or.inl ⟨u1L u i (pA r F i), _, ?_, fun p hp => ?_, fun p hp => ?_, rfl, rfl⟩⟩, show 400 - (i + 1) < 400 - i by omega⟩, rfl, congrArg (fun z => some (Value.int z)) (nI_1 i), congrArg (fun z => some (Value.long z)) ?_, rfl, rfl, rfl, rfl, rfl, rfl, rfl, rfl, rfl, trivial⟩⟩
        · rw [b1, eA]; exact prW_su r u a0 c0 (by omega) _
        · by_cases z : p = i
          · subst z; exact u1L_s _ _ _
          · rw [u1L_o _ _ z]; exact hu p (by omega)
        · rw [u1L_o _ _ (by omega)]; exact hu' p (by omega)
        · have g9 : rest - u2 X 143 (nI 406 + nI 3 * nI i).toNatClampNeg (F * X 143 (50 + 4 * i + 0) / 100) 143 (nI 406 + nI 3 * nI i).toNatClampNeg = F - sumN (pA r F) (i + 1) := by rw [rd, ← er, l_ss]; rfl
          exact g9
    · -- 116
      refine And.intro (fun q => ?_) (fun q => ?_)
      · have e : m = i := (le_of_nI (by omega) hi q).symm
        subst e
        refine ⟨rfl, rfl, (272, [(19, .int (nI 0)), (17, .long lm), (15, .long lf), (11, .long sw), (13, .long su), (3, .int mn), (4, .int sm), (0, .ref 143), (1, .int (nI l)), (2, .int (nI m))], (S.1, X), 200 - 0), rfl, ⟨⟨0, X, Nat.zero_le _, hc, Or.inr (Or.inr (Or.inl ⟨c, mn, sm, lf, hX.trans (prW_ext fun p hp => ⟨rfl, ?_, rfl⟩), fun p hp => absurd hp (Nat.not_lt_zero p), fun p _ hp => (ha p hp).2, fun p hp => ?_, fmn, fsm, ?_, rfl⟩))⟩, show 200 - 0 < 300 - 10 * m by omega⟩, rfl, rfl, congrArg (fun z => some (Value.long z)) (elf.symm.trans elm), rfl, congrArg (fun z => some (Value.long z)) (es1.symm.trans esw), congrArg (fun z => some (Value.long z)) (es2.symm.trans esu), rfl, rfl, rfl, rfl, rfl, trivial⟩
        · rcases (show p < m ∨ p = m ∨ m < p by omega) with z | z | z
          · exact (ha p z).1
          · subst z; rw [ai, efV]; exact (if_neg (by omega)).symm
          · rw [(ha' p z).1, efV]; exact (if_neg (by omega)).symm
        · by_cases z : p = m
          · subst z; exact ci
          · exact (ha' p (by omega)).2
        · rw [show sumN (pG r F O m) 0 = 0 from rfl, Int64.sub_zero, ← elm, elf]
      · have him := lt_of_nI (by omega) hi q
        obtain ⟨mo, emo⟩ : ∃ v, moreL 0 (r (50 + 4 * i + 1) - r (50 + 4 * i + 2)) = v := ⟨_, rfl⟩
        have hv : moreL 0 (X 143 (50 + 4 * i + 1) - X 143 (50 + 4 * i + 2)) = mo := by rw [hX, prW_o _ _ _ _ (by omega), prW_o _ _ _ _ (by omega)]; exact emo
        have eu : X 143 (nI 406 + nI 3 * nI i).toNatClampNeg = pU r F m i := by rw [rd2 hX (nq i) (by omega), prW_u _ _ _ _ (by omega), uU i him]
        have ev : pU r F m i * mo = fV i := by rw [uV i him, ← emo]; rfl
        obtain ⟨b1, b2⟩ := st2 hX (nq' i 1) (by omega) (X 143 (nI 406 + nI 3 * nI i).toNatClampNeg * mo)
        rw [prW_sa _ _ _ _ (by omega), eu, ev] at b1
        obtain ⟨d1, d2⟩ := st2 b1 (nq' i 2) (by omega) 0
        rw [prW_sc _ _ _ _ (by omega)] at d1
        rw [eu, ev] at b2
        have g1 : ∀ p, p < i → u1L aa i (fV i) p = fV p ∧ u1L c i 0 p = B p := fun p hp => by rw [u1L_o _ _ (by omega), u1L_o _ _ (by omega)]; exact ha p hp
        have g2 : ∀ p, i < p → u1L aa i (fV i) p = a0 p ∧ u1L c i 0 p = c0 p := fun p hp => by rw [u1L_o _ _ (by omega), u1L_o _ _ (by omega)]; exact ha' p hp
        obtain ⟨Y, eY⟩ : ∃ Y, u2 (u2 X 143 ((nI 406 + nI 3 * nI i) + nI 1).toNatClampNeg (fV i)) 143 ((nI 406 + nI 3 * nI i) + nI 2).toNatClampNeg 0 = Y := ⟨_, rfl⟩
        rw [eY] at d1 d2
        have yc : ∀ x, x ≠ 143 → Y x = S.2 x := fun x hx => (d2 x hx).trans ((b2 x hx).trans (hc x hx))
        have yq : Y 143 (nI 406 + nI 3 * nI i).toNatClampNeg = pU r F m i := by rw [rd2 d1 (nq i) (by omega), prW_u _ _ _ _ (by omega), uU i him]
        have eM : (S.1, u2 (u2 X 143 ((nI 406 + nI 3 * nI i) + nI 1).toNatClampNeg (X 143 (nI 406 + nI 3 * nI i).toNatClampNeg * mo)) 143 ((nI 406 + nI 3 * nI i) + nI 2).toNatClampNeg 0) = ((S.1, Y) : Mem) := by rw [eu, ev, eY]
        have eM2 : u2 (u2 X 143 ((nI 406 + nI 3 * nI i) + nI 1).toNatClampNeg (X 143 (nI 406 + nI 3 * nI i).toNatClampNeg * mo)) 143 ((nI 406 + nI 3 * nI i) + nI 2).toNatClampNeg 0 143 (nI 406 + nI 3 * nI i).toNatClampNeg = pU r F m i := by rw [eu, ev, eY]; exact yq
        refine ⟨754, tTri, vp2 (nq i) (by omega), ⟨Nat.le_of_ble_eq_true rfl, Nat.le_of_ble_eq_true rfl, Nat.le_of_ble_eq_true rfl⟩, e_share tTri (by omega) (by decide) (S.1, X) ⟨⟨Nat.le_of_ble_eq_true rfl, Nat.le_of_ble_eq_true rfl, Nat.le_of_ble_eq_true rfl⟩, e_share tTri (by omega) (by decide) (S.1, X) ⟨⟨Nat.le_of_ble_eq_true rfl, Nat.le_of_ble_eq_true rfl, Nat.le_of_ble_eq_true rfl⟩, e_moreV hv _ ⟨754, tTri, vp2 (nq' i 1) (by omega), 754, tTri, vp2 (nq' i 2) (by omega), And.intro (fun q4 => ?_) (fun q4 => ⟨754, tTri, vp2 (nq i) (by omega), And.intro (fun q5 => ?_) (fun q5 => ?_)⟩)⟩⟩⟩⟩
        · exact ⟨rfl, rfl, (188, [(18, .int (nI 406 + nI 3 * nI i)), (17, .int (nI i)), (11, .long s1), (13, .long s2), (15, .long lf), (3, .int mn), (4, .int sm), (0, .ref 143), (1, .int (nI l)), (2, .int (nI m))], (S.1, Y), 300 - 10 * i - 5), rfl, ⟨⟨i, Y, hi, yc, Or.inr (Or.inl ⟨_, _, mn, sm, s1, s2, lf, d1, g1, g2, fmn, es1, es2, elf, Or.inr ⟨him, u1L_s _ _ _, u1L_s _ _ _, fsm.ok q4, rfl⟩⟩)⟩, show 300 - 10 * i - 5 < 300 - 10 * i by omega⟩, eM, rfl, rfl, rfl, rfl, rfl, rfl, rfl, rfl, rfl, rfl, trivial⟩
        · have q5 := (lg_cmp_le _ _).mp q5
          have q5 : u2 (u2 X 143 ((nI 406 + nI 3 * nI i) + nI 1).toNatClampNeg (X 143 (nI 406 + nI 3 * nI i).toNatClampNeg * mo)) 143 ((nI 406 + nI 3 * nI i) + nI 2).toNatClampNeg 0 143 (nI 406 + nI 3 * nI i).toNatClampNeg ≤ 0 := q5
          rw [eM2, ← L_nlt] at q5
          exact ⟨rfl, rfl, (188, [(18, .int (nI 406 + nI 3 * nI i)), (17, .int (nI i)), (11, .long s1), (13, .long s2), (15, .long lf), (3, .int mn), (4, .int sm), (0, .ref 143), (1, .int (nI l)), (2, .int (nI m))], (S.1, Y), 300 - 10 * i - 5), rfl, ⟨⟨i, Y, hi, yc, Or.inr (Or.inl ⟨_, _, mn, sm, s1, s2, lf, d1, g1, g2, fmn, es1, es2, elf, Or.inr ⟨him, u1L_s _ _ _, u1L_s _ _ _, fsm.nx q5, rfl⟩⟩)⟩, show 300 - 10 * i - 5 < 300 - 10 * i by omega⟩, eM, rfl, rfl, rfl, rfl, rfl, rfl, rfl, rfl, rfl, rfl, trivial⟩
        · have q4 : sm = -1 := q4
          subst q4
          have q5 : 0 < pU r F m i := by
            refine Int64.not_le.mp fun z => q5 ((lg_cmp_le _ _).mpr ?_)
            rw [← eM2] at z
            exact z
          exact ⟨rfl, rfl, (188, [(18, .int (nI 406 + nI 3 * nI i)), (17, .int (nI i)), (11, .long s1), (13, .long s2), (15, .long lf), (3, .int mn), (4, .int (nI i)), (0, .ref 143), (1, .int (nI l)), (2, .int (nI m))], (S.1, Y), 300 - 10 * i - 5), rfl, ⟨⟨i, Y, hi, yc, Or.inr (Or.inl ⟨_, _, mn, nI i, s1, s2, lf, d1, g1, g2, fmn, es1, es2, elf, Or.inr ⟨him, u1L_s _ _ _, u1L_s _ _ _, fsm.hit (by omega) q5, rfl⟩⟩)⟩, show 300 - 10 * i - 5 < 300 - 10 * i by omega⟩, eM, rfl, rfl, rfl, rfl, rfl, rfl, rfl, rfl, rfl, rfl, trivial⟩
    · -- 188
      have eb : X 143 (50 + 4 * i + 3) = r (50 + 4 * i + 3) := by rw [hX, prW_o _ _ _ _ (by omega)]
      have xa : X 143 ((nI 406 + nI 3 * nI i) + nI 1).toNatClampNeg = pV r F m i := by rw [rd2 hX (nq' i 1) (by omega), prW_a _ _ _ _ (by omega), ai, uV i him]
      have xu : X 143 (nI 406 + nI 3 * nI i).toNatClampNeg = pU r F m i := by rw [rd2 hX (nq i) (by omega), prW_u _ _ _ _ (by omega), uU i him]
      have g2 : ∀ p, i + 1 < p → aa p = a0 p ∧ c p = c0 p := fun p hp => ha' p (by omega)
      refine ⟨⟨Nat.le_of_ble_eq_true rfl, Nat.le_of_ble_eq_true rfl, Nat.le_of_ble_eq_true rfl⟩, e_share tTri (by omega) (by decide) (S.1, X) (And.intro (fun q => ?_) (fun q => ?_))⟩
      · have q : ¬ byP r i := fun z => q ((lg_cmp_eq _ _).mpr (eb.trans z))
        have g1 : ∀ p, p < i + 1 → aa p = fV p ∧ c p = B p := fun p hp => by
          by_cases z : p = i
          · subst z; exact ⟨ai, by rw [ci, eB]; exact (if_neg q).symm⟩
          · exact ha p (by omega)
        have t1 : sumN (pM r (pV r F m)) (i + 1) = s1 + pV r F m i := by rw [← es1]; show _ + pM r (pV r F m) i = _; rw [pM, if_neg q]
        have t2 : sumN (pM r (pU r F m)) (i + 1) = s2 + pU r F m i := by rw [← es2]; show _ + pM r (pU r F m) i = _; rw [pM, if_neg q]
        have t3 : pL r F O m (i + 1) = lf := by rw [← elf]; exact if_neg q
        refine And.intro (fun q2 => ?_) (fun q2 => ?_)
        · exact ⟨754, tTri, vp2 (nq' i 1) (by omega), 754, tTri, vp2 (nq i) (by omega), rfl, rfl, (116, [(17, .int (nI (i + 1))), (11, .long (s1 + pV r F m i)), (13, .long (s2 + pU r F m i)), (15, .long lf), (3, .int mn), (4, .int sm), (0, .ref 143), (1, .int (nI l)), (2, .int (nI m))], (S.1, X), 300 - 10 * (i + 1)), rfl, ⟨⟨i + 1, X, him, hc, Or.inr (Or.inl ⟨aa, c, mn, sm, _, _, lf, hX, g1, g2, fmn.ok q2, t1, t2, t3, Or.inl ⟨(ha' _ (Nat.lt_succ_self i)).1, (ha' _ (Nat.lt_succ_self i)).2, fsm, rfl⟩⟩)⟩, show 300 - 10 * (i + 1) < 300 - 10 * i - 5 by omega⟩, rfl, congrArg (fun z => some (Value.int z)) (nI_1 i), congrArg (fun z => some (Value.long z)) (congrArg (s1 + ·) xa), congrArg (fun z => some (Value.long z)) (congrArg (s2 + ·) xu), rfl, rfl, rfl, rfl, rfl, rfl, trivial⟩
        · have q2 : mn = -1 := q2
          subst q2
          exact ⟨754, tTri, vp2 (nq' i 1) (by omega), 754, tTri, vp2 (nq i) (by omega), rfl, rfl, (116, [(17, .int (nI (i + 1))), (11, .long (s1 + pV r F m i)), (13, .long (s2 + pU r F m i)), (15, .long lf), (3, .int (nI i)), (4, .int sm), (0, .ref 143), (1, .int (nI l)), (2, .int (nI m))], (S.1, X), 300 - 10 * (i + 1)), rfl, ⟨⟨i + 1, X, him, hc, Or.inr (Or.inl ⟨aa, c, nI i, sm, _, _, lf, hX, g1, g2, fmn.hit (by omega) q, t1, t2, t3, Or.inl ⟨(ha' _ (Nat.lt_succ_self i)).1, (ha' _ (Nat.lt_succ_self i)).2, fsm, rfl⟩⟩)⟩, show 300 - 10 * (i + 1) < 300 - 10 * i - 5 by omega⟩, rfl, congrArg (fun z => some (Value.int z)) (nI_1 i), congrArg (fun z => some (Value.long z)) (congrArg (s1 + ·) xa), congrArg (fun z => some (Value.long z)) (congrArg (s2 + ·) xu), rfl, rfl, rfl, rfl, rfl, rfl, trivial⟩
      · have q : byP r i := eb.symm.trans ((lg_cmp_eq _ _).mp q)
        have hv : lessL lf (X 143 ((nI 406 + nI 3 * nI i) + nI 1).toNatClampNeg) = B i := by rw [xa, ← elf, eB]; exact (if_pos q).symm
        obtain ⟨b1, b2⟩ := st2 hX (nq' i 2) (by omega) (B i)
        rw [prW_sc _ _ _ _ (by omega)] at b1
        have rd : u2 X 143 ((nI 406 + nI 3 * nI i) + nI 2).toNatClampNeg (B i) 143 ((nI 406 + nI 3 * nI i) + nI 2).toNatClampNeg = B i := by rw [rd2 b1 (nq' i 2) (by omega), prW_c _ _ _ _ (by omega), u1L_s]
        have g1 : ∀ p, p < i + 1 → aa p = fV p ∧ u1L c i (B i) p = B p := fun p hp => by
          by_cases z : p = i
          · subst z; exact ⟨ai, u1L_s _ _ _⟩
          · rw [u1L_o _ _ z]; exact ha p (by omega)
        have g2' : ∀ p, i + 1 < p → aa p = a0 p ∧ u1L c i (B i) p = c0 p := fun p hp => by rw [u1L_o _ _ (by omega)]; exact g2 p hp
        have t1 : sumN (pM r (pV r F m)) (i + 1) = s1 := by rw [← es1]; show _ + pM r (pV r F m) i = _; rw [pM, if_pos q, Int64.add_zero]
        have t2 : sumN (pM r (pU r F m)) (i + 1) = s2 := by rw [← es2]; show _ + pM r (pU r F m) i = _; rw [pM, if_pos q, Int64.add_zero]
        have t3 : pL r F O m (i + 1) = lf - B i := by rw [← hv, xa, ← elf]; exact if_pos q
        refine ⟨754, tTri, vp2 (nq' i 1) (by omega), ⟨Nat.le_of_ble_eq_true rfl, Nat.le_of_ble_eq_true rfl, Nat.le_of_ble_eq_true rfl⟩, e_lessV hv _ ⟨754, tTri, vp2 (nq' i 2) (by omega), 754, tTri, vp2 (nq' i 2) (by omega), rfl, rfl, (116, [(17, .int (nI (i + 1))), (11, .long s1), (13, .long s2), (15, .long (lf - B i)), (3, .int mn), (4, .int sm), (0, .ref 143), (1, .int (nI l)), (2, .int (nI m))], (S.1, _), 300 - 10 * (i + 1)), rfl, ⟨⟨i + 1, _, him, fun x hx => (b2 x hx).trans (hc x hx), Or.inr (Or.inl ⟨aa, _, mn, sm, s1, s2, _, b1, g1, g2', fmn.nx (fun z => z q), t1, t2, t3, Or.inl ⟨(ha' _ (Nat.lt_succ_self i)).1, ?_, fsm, rfl⟩⟩)⟩, show 300 - 10 * (i + 1) < 300 - 10 * i - 5 by omega⟩, rfl, congrArg (fun z => some (Value.int z)) (nI_1 i), rfl, rfl, congrArg (fun z => some (Value.long z)) (congrArg (lf - ·) rd), rfl, rfl, rfl, rfl, rfl, trivial⟩⟩
        rw [u1L_o _ _ (by omega)]; exact (ha' _ (Nat.lt_succ_self i)).2
    · -- 272
      refine And.intro (fun q => ?_) (fun q => ?_)
      · have e : m = i := (le_of_nI (by omega) hi q).symm
        subst e
        obtain ⟨q, q0, qm, nby, rfl, hq⟩ : ∃ q, 0 ≤ q ∧ q < m ∧ ¬ byP r q ∧ mn = nI q ∧ ∀ p, 0 ≤ p → p < q → ¬ ¬ byP r p := by
          rcases fmn with ⟨-, b⟩ | b
          · obtain ⟨p, pm, np⟩ := hM
            exact absurd np (b p (Nat.zero_le p) pm)
          · exact b
        have hq : ∀ p, p < q → byP r p := fun p hp => Decidable.of_not_not (hq p (Nat.zero_le p) hp)
        have ix : nI 406 + nI 3 * nI q + nI 2 = nI (406 + 3 * q + 2) := nq' q 2
        have rq : X 143 (nI 406 + nI 3 * nI q + nI 2).toNatClampNeg = pG r F O m q := by
          rw [rd2 hX ix (by omega), prW_c _ _ _ _ (by omega), hc1 q qm, eC]; exact if_neg nby
        obtain ⟨b1, b2⟩ := st2 hX ix (by omega) (X 143 (nI 406 + nI 3 * nI q + nI 2).toNatClampNeg + lf)
        rw [prW_sc _ _ _ _ (by omega)] at b1
        have eq : X 143 (nI 406 + nI 3 * nI q + nI 2).toNatClampNeg + lf = pC r F O m q := by
          rw [rq, ← elf, ← elm]
          unfold pC
          rw [if_neg nby, if_pos (show ∀ j, j < q → byP r j from hq)]
        rw [eq] at b1 b2
        have cp : ∀ p, p < m → u1L c q (pC r F O m q) p = pC r F O m p := fun p hp => by
          by_cases z : p = q
          · subst z; exact u1L_s _ _ _
          · rw [u1L_o _ _ z, hc1 p hp, eC]
            unfold pC
            by_cases y : byP r p
            · rw [if_pos y]; exact if_pos y
            · rw [if_neg y, if_neg (fun g : ∀ j, j < p → byP r j => ?_), Int64.add_zero]
              · exact if_neg y
              · rcases (show p < q ∨ q < p by omega) with x | x
                · exact y (hq p x)
                · exact nby (g q x)
        have c3 : ∀ p, m ≤ p → u1L c q (pC r F O m q) p = c0 p := fun p hp => by rw [u1L_o _ _ (by omega)]; exact hc3 p hp
        have eI : prW (u1L r ((131 + 55 * l) + 52) (r ((131 + 55 * l) + 52))) fU fV (u1L c q (pC r F O m q)) = prW r fU fV (u1L c q (pC r F O m q)) := by rw [u1L_id]
        have z0 : sumN (pZ r F O m) 0 = 0 := rfl
        refine ⟨754, tTri, vp2 ix (by omega), 754, tTri, vp2 ix (by omega), rfl, rfl, (393, [(19, .int (nI 0)), (4, .int sm), (0, .ref 143), (1, .int (nI l)), (2, .int (nI m))], (S.1, u2 X 143 (nI 406 + nI 3 * nI q + nI 2).toNatClampNeg (pC r F O m q)), 100 - 0), rfl, ⟨⟨0, _, Nat.zero_le _, fun x hx => (b2 x hx).trans (hc x hx), Or.inr (Or.inr (Or.inr ⟨_, sm, r ((131 + 55 * l) + 52), b1.trans eI.symm, c3, ?_, rfl⟩))⟩, show 100 - 0 < 200 - m by omega⟩, congrArg (fun z => (S.1, u2 X 143 (nI 406 + nI 3 * nI q + nI 2).toNatClampNeg z)) eq, rfl, rfl, rfl, rfl, rfl, trivial⟩
        rcases fsm with ⟨s1, s2⟩ | ⟨t, -, t1, t2, t3, t4⟩
        · exact Or.inl ⟨s1, fun p hp => s2 p (Nat.zero_le p) hp, by rw [z0, Int64.add_zero], fun p hp => absurd hp (Nat.not_lt_zero p), fun p _ hp => cp p hp⟩
        · exact Or.inr ⟨t, t1, t2, fun p hp => t4 p (Nat.zero_le p) hp, t3, rfl, by rw [cp t t1, z0, Int64.add_zero], fun p hp => absurd hp (Nat.not_lt_zero p), fun p _ hp _ => cp p hp⟩
      · have him := lt_of_nI (by omega) hi q
        have eb : X 143 (50 + 4 * i + 3) = r (50 + 4 * i + 3) := by rw [hX, prW_o _ _ _ _ (by omega)]
        refine ⟨⟨Nat.le_of_ble_eq_true rfl, Nat.le_of_ble_eq_true rfl, Nat.le_of_ble_eq_true rfl⟩, e_share tTri (by omega) (by decide) (S.1, X) (And.intro (fun q => ?_) (fun q => ?_))⟩
        · have q : ¬ byP r i := fun z => q ((lg_cmp_eq _ _).mpr (eb.trans z))
          have xa : X 143 ((nI 406 + nI 3 * nI i) + nI 1).toNatClampNeg = pV r F m i := by rw [rd2 hX (nq' i 1) (by omega), prW_a _ _ _ _ (by omega), uV i him]
          have xu : X 143 (nI 406 + nI 3 * nI i).toNatClampNeg = pU r F m i := by rw [rd2 hX (nq i) (by omega), prW_u _ _ _ _ (by omega), uU i him]
          obtain ⟨b1, b2⟩ := st2 hX (nq' i 2) (by omega) (pG r F O m i)
          rw [prW_sc _ _ _ _ (by omega)] at b1
          have rd : u2 X 143 ((nI 406 + nI 3 * nI i) + nI 2).toNatClampNeg (pG r F O m i) 143 ((nI 406 + nI 3 * nI i) + nI 2).toNatClampNeg = pG r F O m i := by rw [rd2 b1 (nq' i 2) (by omega), prW_c _ _ _ _ (by omega), u1L_s]
          have g1 : ∀ p, p < i + 1 → u1L c i (pG r F O m i) p = C p := fun p hp => by
            by_cases z : p = i
            · subst z; rw [u1L_s, eC]; exact (if_neg q).symm
            · rw [u1L_o _ _ z]; exact hc1 p (by omega)
          have g2 : ∀ p, i + 1 ≤ p → p < m → u1L c i (pG r F O m i) p = B p := fun p h1 h2 => by rw [u1L_o _ _ (by omega)]; exact hc2 p (by omega) h2
          have g3 : ∀ p, m ≤ p → u1L c i (pG r F O m i) p = c0 p := fun p hp => by rw [u1L_o _ _ (by omega)]; exact hc3 p hp
          have t3 : lm - sumN (pG r F O m) (i + 1) = lf - pG r F O m i := by rw [← elf, l_ss]; rfl
          refine And.intro (fun q2 => ?_) (fun q2 => ?_)
          · have q2 : ¬ 0 < sw := (L_nlt _ _).mpr ((lg_cmp_le _ _).mp q2)
            have hv : cut lm (X 143 (nI 406 + nI 3 * nI i).toNatClampNeg) su = pG r F O m i := by rw [xu, ← elm, ← esu]; unfold pG; rw [if_neg q, esw, if_neg q2]
            exact ⟨754, tTri, vp2 (nq i) (by omega), ⟨Nat.le_of_ble_eq_true rfl, Nat.le_of_ble_eq_true rfl, Nat.le_of_ble_eq_true rfl⟩, e_mcutV hv _ ⟨754, tTri, vp2 (nq' i 2) (by omega), 754, tTri, vp2 (nq' i 2) (by omega), rfl, rfl, (272, [(19, .int (nI (i + 1))), (17, .long lm), (15, .long (lf - pG r F O m i)), (11, .long sw), (13, .long su), (3, .int mn), (4, .int sm), (0, .ref 143), (1, .int (nI l)), (2, .int (nI m))], (S.1, _), 200 - (i + 1)), rfl, ⟨⟨i + 1, _, him, fun x hx => (b2 x hx).trans (hc x hx), Or.inr (Or.inr (Or.inl ⟨_, mn, sm, _, b1, g1, g2, g3, fmn, fsm, t3, rfl⟩))⟩, show 200 - (i + 1) < 200 - i by omega⟩, rfl, congrArg (fun z => some (Value.int z)) (nI_1 i), rfl, congrArg (fun z => some (Value.long z)) (congrArg (lf - ·) rd), rfl, rfl, rfl, rfl, rfl, rfl, rfl, trivial⟩⟩
          · have q2 : 0 < sw := Int64.not_le.mp fun z => q2 ((lg_cmp_le _ _).mpr z)
            have hv : cut lm (X 143 ((nI 406 + nI 3 * nI i) + nI 1).toNatClampNeg) sw = pG r F O m i := by rw [xa, ← elm]; unfold pG; rw [if_neg q, esw, if_pos q2]
            exact ⟨754, tTri, vp2 (nq' i 1) (by omega), ⟨Nat.le_of_ble_eq_true rfl, Nat.le_of_ble_eq_true rfl, Nat.le_of_ble_eq_true rfl⟩, e_mcutV hv _ ⟨754, tTri, vp2 (nq' i 2) (by omega), 754, tTri, vp2 (nq' i 2) (by omega), rfl, rfl, (272, [(19, .int (nI (i + 1))), (17, .long lm), (15, .long (lf - pG r F O m i)), (11, .long sw), (13, .long su), (3, .int mn), (4, .int sm), (0, .ref 143), (1, .int (nI l)), (2, .int (nI m))], (S.1, _), 200 - (i + 1)), rfl, ⟨⟨i + 1, _, him, fun x hx => (b2 x hx).trans (hc x hx), Or.inr (Or.inr (Or.inl ⟨_, mn, sm, _, b1, g1, g2, g3, fmn, fsm, t3, rfl⟩))⟩, show 200 - (i + 1) < 200 - i by omega⟩, rfl, congrArg (fun z => some (Value.int z)) (nI_1 i), rfl, congrArg (fun z => some (Value.long z)) (congrArg (lf - ·) rd), rfl, rfl, rfl, rfl, rfl, rfl, rfl, trivial⟩⟩
        · have q : byP r i := eb.symm.trans ((lg_cmp_eq _ _).mp q)
          have g1 : ∀ p, p < i + 1 → c p = C p := fun p hp => by
            by_cases z : p = i
            · subst z; rw [hc2 p (Nat.le_refl p) him, eC, eB]; exact (if_pos q).trans (if_pos q).symm
            · exact hc1 p (by omega)
          have t3 : lm - sumN (pG r F O m) (i + 1) = lf := by
            rw [← elf]; show lm - (_ + pG r F O m i) = _
            rw [pG, if_pos q, Int64.add_zero]
          exact ⟨rfl, rfl, (272, [(19, .int (nI (i + 1))), (17, .long lm), (15, .long lf), (11, .long sw), (13, .long su), (3, .int mn), (4, .int sm), (0, .ref 143), (1, .int (nI l)), (2, .int (nI m))], (S.1, X), 200 - (i + 1)), rfl, ⟨⟨i + 1, X, him, hc, Or.inr (Or.inr (Or.inl ⟨c, mn, sm, lf, hX, g1, fun p h1 h2 => hc2 p (by omega) h2, hc3, fmn, fsm, t3, rfl⟩))⟩, show 200 - (i + 1) < 200 - i by omega⟩, rfl, congrArg (fun z => some (Value.int z)) (nI_1 i), rfl, rfl, rfl, rfl, rfl, rfl, rfl, rfl, rfl, trivial⟩
    · -- 393
      refine And.intro (fun q => ?_) (fun q => ?_)
      · have e : m = i := (le_of_nI (by omega) hi q).symm
        subst e
        refine ⟨rfl, h X (hX.trans ?_) hc⟩
        unfold paW
        rw [eF, eO]
        have eab : ab = r ((131 + 55 * l) + 52) + pX r F O m := by
          unfold pX
          rcases hS with ⟨-, s2, s3, -, -⟩ | ⟨t, t1, t2, t3, -, t4, -, -, -⟩
          · rw [if_pos s2]; exact s3
          · rw [if_neg (fun g => g t t1 t2), Int64.add_zero]; exact t4
        rw [← eab]
        refine prW_ext fun p hp => ⟨by rw [efU, eu0], by rw [efV, ea0], ?_⟩
        show c p = if p < m then pF r F O m p else r (406 + 3 * p + 2)
        by_cases pm : p < m
        · rw [if_pos pm]
          unfold pF
          rcases hS with ⟨-, s2, s3, s4, -⟩ | ⟨t, t1, t2, t3, -, t4, t5, t6, -⟩
          · rw [if_neg (s2 p pm)]; exact s4 p pm
          · by_cases z : p = t
            · subst z
              rw [if_pos t2, if_pos (show ∀ j, j < p → ¬ 0 < pU r F m j from t3)]; exact t5
            · rw [t6 p pm z]
              by_cases y : 0 < pU r F m p
              · rw [if_pos y, if_pos y, if_neg (fun g : ∀ j, j < p → ¬ 0 < pU r F m j => ?_), Int64.add_zero]
                rcases (show p < t ∨ t < p by omega) with x | x
                · exact t3 p x y
                · exact g t x t2
              · rw [if_neg y, if_neg y]
        · rw [if_neg pm, hc3 p (by omega), ec0]
      · have him := lt_of_nI (by omega) hi q
        have xc : X 143 ((nI 406 + nI 3 * nI i) + nI 2).toNatClampNeg = c i := by rw [rd2 hX (nq' i 2) (by omega), prW_c _ _ _ _ (by omega)]
        have xu : X 143 (nI 406 + nI 3 * nI i).toNatClampNeg = pU r F m i := by rw [rd2 hX (nq i) (by omega), prW_u _ _ _ _ (by omega), uU i him]
        have sz : sumN (pZ r F O m) (i + 1) = sumN (pZ r F O m) i + pZ r F O m i := rfl
        refine ⟨754, tTri, vp2 (nq' i 2) (by omega), 754, tTri, vp2 (nq i) (by omega), And.intro (fun q => ?_) (fun q => ?_)⟩
        · have qn : ¬ 0 < pU r F m i := by rw [L_nlt, ← xu]; exact (lg_cmp_le _ _).mp q
          have zi : pZ r F O m i = pC r F O m i := if_neg qn
          obtain ⟨b1, b2⟩ := st2 hX (nq' i 2) (by omega) 0
          rw [prW_sc _ _ _ _ (by omega)] at b1
          rcases hS with ⟨rfl, s2, s3, s4, s5⟩ | ⟨t, t1, t2, t3, rfl, t4, t5, t6, t7⟩
          · have ci := s5 i (Nat.le_refl i) him
            obtain ⟨d1, d2⟩ := st1 b1 (i := (131 + 55 * l) + 52) (by omega) (r ((131 + 55 * l) + 52) + sumN (pZ r F O m) (i + 1))
            rw [prW_so _ _ _ _ (by omega), u1L_2] at d1
            have ev : u2 X 143 ((nI 406 + nI 3 * nI i) + nI 2).toNatClampNeg 0 143 (nI ((131 + 55 * l) + 52)).toNatClampNeg + X 143 ((nI 406 + nI 3 * nI i) + nI 2).toNatClampNeg = r ((131 + 55 * l) + 52) + sumN (pZ r F O m) (i + 1) := by
              rw [rd1 b1 (by omega), prW_o _ _ _ _ (by omega), u1L_s, xc, ci, s3, sz, zi, Int64.add_assoc]
            refine ⟨754, tTri, vp2 (nq' i 2) (by omega), And.intro (fun q2 => absurd rfl q2) (fun _ => ⟨⟨Nat.le_of_ble_eq_true rfl, Nat.le_of_ble_eq_true rfl, Nat.le_of_ble_eq_true rfl⟩, e_latest l 52 _ ⟨754, tTri, v0 _ (by omega), 754, tTri, v0 _ (by omega), rfl, rfl, (393, [(19, .int (nI (i + 1))), (4, .int (-1)), (0, .ref 143), (1, .int (nI l)), (2, .int (nI m))], (S.1, u2 (u2 X 143 ((nI 406 + nI 3 * nI i) + nI 2).toNatClampNeg 0) 143 (nI ((131 + 55 * l) + 52)).toNatClampNeg (r ((131 + 55 * l) + 52) + sumN (pZ r F O m) (i + 1))), 100 - (i + 1)), rfl, ⟨⟨i + 1, _, him, fun x hx => (d2 x hx).trans ((b2 x hx).trans (hc x hx)), Or.inr (Or.inr (Or.inr ⟨_, -1, _, d1, fun p hp => ?_, Or.inl ⟨rfl, s2, rfl, fun p hp => ?_, fun p h1 h2 => ?_⟩, rfl⟩))⟩, show 100 - (i + 1) < 100 - i by omega⟩, congrArg (fun z => (S.1, u2 (u2 X 143 ((nI 406 + nI 3 * nI i) + nI 2).toNatClampNeg 0) 143 (nI ((131 + 55 * l) + 52)).toNatClampNeg z)) ev, congrArg (fun z => some (Value.int z)) (nI_1 i), rfl, rfl, rfl, rfl, trivial⟩⟩)⟩
            · rw [u1L_o _ _ (by omega)]; exact hc3 p hp
            · by_cases z : p = i
              · subst z; exact u1L_s _ _ _
              · rw [u1L_o _ _ z]; exact s4 p (by omega)
            · rw [u1L_o _ _ (by omega)]; exact s5 p (by omega) h2
          · have ti : i ≠ t := fun z => qn (by rw [z]; exact t2)
            have ci := t7 i (Nat.le_refl i) him ti
            have ix : nI 406 + nI 3 * nI t + nI 2 = nI (406 + 3 * t + 2) := nq' t 2
            obtain ⟨d1, d2⟩ := st2 b1 ix (by omega) (pC r F O m t + sumN (pZ r F O m) (i + 1))
            rw [prW_sc _ _ _ _ (by omega)] at d1
            have ev : u2 X 143 ((nI 406 + nI 3 * nI i) + nI 2).toNatClampNeg 0 143 (nI 406 + nI 3 * nI t + nI 2).toNatClampNeg + X 143 ((nI 406 + nI 3 * nI i) + nI 2).toNatClampNeg = pC r F O m t + sumN (pZ r F O m) (i + 1) := by
              rw [rd2 b1 ix (by omega), prW_c _ _ _ _ (by omega), u1L_o _ _ (fun z => ti z.symm), t5, xc, ci, sz, zi, Int64.add_assoc]
            refine ⟨754, tTri, vp2 (nq' i 2) (by omega), And.intro (fun _ => ⟨754, tTri, vp2 ix (by omega), 754, tTri, vp2 ix (by omega), rfl, rfl, (393, [(19, .int (nI (i + 1))), (4, .int (nI t)), (0, .ref 143), (1, .int (nI l)), (2, .int (nI m))], (S.1, u2 (u2 X 143 ((nI 406 + nI 3 * nI i) + nI 2).toNatClampNeg 0) 143 (nI 406 + nI 3 * nI t + nI 2).toNatClampNeg (pC r F O m t + sumN (pZ r F O m) (i + 1))), 100 - (i + 1)), rfl, ⟨⟨i + 1, _, him, fun x hx => (d2 x hx).trans ((b2 x hx).trans (hc x hx)), Or.inr (Or.inr (Or.inr ⟨_, nI t, ab, d1, fun p hp => ?_, Or.inr ⟨t, t1, t2, t3, rfl, t4, u1L_s _ _ _, fun p h1 h2 => ?_, fun p h1 h2 h3 => ?_⟩, rfl⟩))⟩, show 100 - (i + 1) < 100 - i by omega⟩, congrArg (fun z => (S.1, u2 (u2 X 143 ((nI 406 + nI 3 * nI i) + nI 2).toNatClampNeg 0) 143 (nI 406 + nI 3 * nI t + nI 2).toNatClampNeg z)) ev, congrArg (fun z => some (Value.int z)) (nI_1 i), rfl, rfl, rfl, rfl, trivial⟩) (fun q2 => absurd q2 (nI_ne (by omega)))⟩
            · rw [u1L_o _ _ (by omega), u1L_o _ _ (by omega)]; exact hc3 p hp
            · rw [u1L_o _ _ h2]
              by_cases z : p = i
              · subst z; rw [u1L_s, if_neg qn]
              · rw [u1L_o _ _ z]; exact t6 p (by omega) h2
            · rw [u1L_o _ _ h3, u1L_o _ _ (by omega)]; exact t7 p (by omega) h2 h3
        · have q : 0 < pU r F m i := by
            rw [← xu]
            exact Int64.not_le.mp fun z => q ((lg_cmp_le _ _).mpr z)
          have zi : pZ r F O m i = 0 := if_pos q
          refine ⟨rfl, rfl, (393, [(19, .int (nI (i + 1))), (4, .int sm), (0, .ref 143), (1, .int (nI l)), (2, .int (nI m))], (S.1, X), 100 - (i + 1)), rfl, ⟨⟨i + 1, X, him, hc, Or.inr (Or.inr (Or.inr ⟨c, sm, ab, hX, hc3, ?_, rfl⟩))⟩, show 100 - (i + 1) < 100 - i by omega⟩, rfl, congrArg (fun z => some (Value.int z)) (nI_1 i), rfl, rfl, rfl, rfl, trivial⟩
          rcases hS with ⟨-, s2, -, -, -⟩ | ⟨t, t1, t2, t3, t0, t4, t5, t6, t7⟩
          · exact absurd q (s2 i him)
          · refine Or.inr ⟨t, t1, t2, t3, t0, t4, by rw [sz, zi, Int64.add_zero]; exact t5, fun p h1 h2 => ?_, fun p h1 h2 h3 => t7 p (by omega) h2 h3⟩
            by_cases z : p = i
            · subst z; rw [if_pos q]; exact t7 p (Nat.le_refl p) him h2
            · exact t6 p (by omega) h2
  · have x0 : S.2 143 (nI 0).toNatClampNeg = lN (l + 1) := by rw [rd1 hW (by decide)]; exact r0
    have x1 : S.2 143 (nI 1).toNatClampNeg = lN m := by rw [rd1 hW (by decide)]; exact r1
    have n0 : (S.2 143 (nI 0).toNatClampNeg).toInt32 - 1 = nI l := by rw [x0, lN_i]; exact nI_pred l
    have n1 : (S.2 143 (nI 1).toNatClampNeg).toInt32 = nI m := by rw [x1, lN_i]
    have xF : S.2 143 (nI ((131 + 55 * l) + 15)).toNatClampNeg = F := by rw [rd1 hW (by omega)]; exact eF
    have xO : S.2 143 (nI ((131 + 55 * l) + 54)).toNatClampNeg = O := by rw [rd1 hW (by omega)]; exact eO
    exact ⟨754, tTri, v0 0 (by decide), 754, tTri, v0 1 (by decide), ⟨Nat.le_of_ble_eq_true rfl, Nat.le_of_ble_eq_true rfl, Nat.le_of_ble_eq_true rfl⟩, e_latest2 (x := 15) n0 rfl _ ⟨754, tTri, v0 _ (by omega), ⟨Nat.le_of_ble_eq_true rfl, Nat.le_of_ble_eq_true rfl, Nat.le_of_ble_eq_true rfl⟩, e_latest2 (x := 54) n0 rfl _ ⟨754, tTri, v0 _ (by omega), rfl, rfl, (54, [(17, .int (nI 0)), (9, .long F), (0, .ref 143), (1, .int (nI l)), (2, .int (nI m)), (3, .int (-1)), (4, .int (-1)), (5, .long F), (11, .long 0), (13, .long 0), (15, .long O)], (S.1, S.2), 400 - 0), rfl, ⟨0, S.2, Nat.zero_le _, fun _ _ => rfl, Or.inl ⟨u0, F, hW.trans r00.symm, fun p hp => absurd hp (Nat.not_lt_zero p), fun _ _ => rfl, Int64.sub_zero F, rfl⟩⟩, rfl, rfl, congrArg (fun z => some (Value.long z)) xF, rfl, congrArg (fun z => some (Value.int z)) n0, congrArg (fun z => some (Value.int z)) n1, rfl, rfl, congrArg (fun z => some (Value.long z)) xF, rfl, rfl, congrArg (fun z => some (Value.long z)) xO, trivial⟩⟩⟩
