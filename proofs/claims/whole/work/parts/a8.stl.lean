/-! ===== a plan settles: within a thousand rounds or two ===== -/
theorem natS_1e {b v : Nat} : ∀ {n : Nat}, natS (fun d => uW d * (if b = d then v else 0)) n = if b < n then uW b * v else 0
  | 0 => by rw [if_neg (by omega)]; rfl
  | n + 1 => by
    show natS (fun d => uW d * (if b = d then v else 0)) n + uW n * (if b = n then v else 0) = _
    rw [natS_1e (n := n)]
    by_cases h : b = n
    · subst h
      rw [if_neg (by omega), if_pos rfl, if_pos (by omega)]; omega
    · rw [if_neg h, Nat.mul_zero]
      by_cases k : b < n
      · rw [if_pos k, if_pos (by omega)]; rfl
      · rw [if_neg k, if_neg (by omega)]
theorem wgt_s {r s b : Nat → Nat} {nn m : Nat} {x : Nat → Nat} (k : Nat) : wgt m (nrnd r s b nn x (k + 1)) = wgt m (nrnd r s b nn x k) + if b k < m then uW (b k) * nbk (r k) (s k) (x k) else 0 := by
  rw [← natS_1e]
  unfold wgt
  rw [← natS_a]
  exact natS_e (fun d _ => Nat.mul_add _ _ _)
theorem wgt_rd {r s b : Nat → Nat} {nn m : Nat} {x y : Nat → Nat} (h : ∀ d, x d ≤ y d) : ∀ k, wgt m (nrnd r s b nn y k) + wgt m (nrnd r s b nn x 0) + natS (fun e => 1000 * nbk (r e) (s e) (x e)) k ≤ wgt m (nrnd r s b nn x k) + wgt m (nrnd r s b nn y 0) + natS (fun e => 1000 * nbk (r e) (s e) (y e)) k
  | 0 => by show _ + _ + 0 ≤ _ + _ + 0; omega
  | k + 1 => by
    have ih := wgt_rd (r := r) (s := s) (b := b) (nn := nn) (m := m) h k
    rw [wgt_s, wgt_s]
    have mo := nbk_mono (r := r k) (s := s k) (h k)
    have ul := uW_le (b k)
    show _ + _ + (natS (fun e => 1000 * nbk (r e) (s e) (x e)) k + 1000 * nbk (r k) (s k) (x k)) ≤ _ + _ + (natS (fun e => 1000 * nbk (r e) (s e) (y e)) k + 1000 * nbk (r k) (s k) (y k))
    by_cases c : b k < m
    · rw [if_pos c, if_pos c]
      have p : uW (b k) * nbk (r k) (s k) (y k) + 1000 * nbk (r k) (s k) (x k) ≤ uW (b k) * nbk (r k) (s k) (x k) + 1000 * nbk (r k) (s k) (y k) := by
        obtain ⟨z, hz⟩ : ∃ z, nbk (r k) (s k) (y k) = nbk (r k) (s k) (x k) + z := ⟨_, (Nat.add_sub_cancel' mo).symm⟩
        rw [hz, Nat.mul_add, Nat.mul_add]
        have := Nat.mul_le_mul_right z ul
        omega
      omega
    · rw [if_neg c, if_neg c]; omega
theorem wgt_up {r s b : Nat → Nat} {nn m : Nat} {x : Nat → Nat} (hr : ∀ e, r e ≤ 50) (hs : ∀ e, s e ≤ 90) (hm0 : 0 < m) (hm : m ≤ 5) : 20 * wgt m (nrnd r s b nn x m) ≤ 19 * wgt m x + 20000 * nn := by
  obtain ⟨q, rfl⟩ : ∃ q, m = q + 1 := ⟨m - 1, by omega⟩
  have a := wgt_rnd (r := r) (s := s) (b := b) (nn := nn) (m := q + 1) (x := x) (q + 1)
  have c := wgt_0 (r := r) (s := s) (b := b) (nn := nn) (x := x) q
  have d : natS (fun e => 20 * (uW (e + 1) * (x e - nlo (r e) (x e)) + 1000 * nbk (r e) (s e) (x e))) (q + 1) ≤ natS (fun e => 19 * (uW e * x e)) (q + 1) := natS_c (fun e he => con1 (hr e) (hs e) (by omega))
  rw [natS_m, natS_m, natS_a] at d
  have f : natS (fun e => uW (e + 1) * (x e - nlo (r e) (x e))) (q + 1) = natS (fun e => uW (e + 1) * (x e - nlo (r e) (x e))) q + uW (q + 1) * (x q - nlo (r q) (x q)) := rfl
  have g : wgt (q + 1) x = natS (fun e => uW e * x e) (q + 1) := rfl
  omega
theorem natS_k {c : Nat} : ∀ {n : Nat}, natS (fun _ => c) n = n * c
  | 0 => by simp [natS]
  | n + 1 => by
    show natS (fun _ => c) n + c = (n + 1) * c
    rw [natS_k, Nat.add_mul, Nat.one_mul]
theorem wgt_dn {r s b : Nat → Nat} {nn m : Nat} {x y : Nat → Nat} (hr : ∀ e, r e ≤ 50) (hs : ∀ e, s e ≤ 90) (hm0 : 0 < m) (hm : m ≤ 5) (h : ∀ d, x d ≤ y d) : 20 * wgt m (nrnd r s b nn y m) + 19 * wgt m x ≤ 20 * wgt m (nrnd r s b nn x m) + 19 * wgt m y + 200000 := by
  obtain ⟨q, rfl⟩ : ∃ q, m = q + 1 := ⟨m - 1, by omega⟩
  have a := wgt_rd (r := r) (s := s) (b := b) (nn := nn) (m := q + 1) h (q + 1)
  have c1 := wgt_0 (r := r) (s := s) (b := b) (nn := nn) (x := x) q
  have c2 := wgt_0 (r := r) (s := s) (b := b) (nn := nn) (x := y) q
  have d : natS (fun e => (20 * (uW (e + 1) * (y e - nlo (r e) (y e)) + 1000 * nbk (r e) (s e) (y e)) + 19 * (uW e * x e))) (q + 1) ≤ natS (fun e => (20 * (uW (e + 1) * (x e - nlo (r e) (x e)) + 1000 * nbk (r e) (s e) (x e)) + 19 * (uW e * y e) + 40000)) (q + 1) := natS_c (fun e he => con2 (hr e) (hs e) (by omega) (h e))
  rw [natS_a, natS_a, natS_a, natS_m, natS_m, natS_m, natS_m, natS_a, natS_a, natS_k] at d
  have f1 : natS (fun e => uW (e + 1) * (x e - nlo (r e) (x e))) (q + 1) = natS (fun e => uW (e + 1) * (x e - nlo (r e) (x e))) q + uW (q + 1) * (x q - nlo (r q) (x q)) := rfl
  have f2 : natS (fun e => uW (e + 1) * (y e - nlo (r e) (y e))) (q + 1) = natS (fun e => uW (e + 1) * (y e - nlo (r e) (y e))) q + uW (q + 1) * (y q - nlo (r q) (y q)) := rfl
  have g1 : wgt (q + 1) x = natS (fun e => uW e * x e) (q + 1) := rfl
  have g2 : wgt (q + 1) y = natS (fun e => uW e * y e) (q + 1) := rfl
  have p := Nat.mul_le_mul_left (uW (q + 1)) (pas_mono (hr q) (h q))
  omega
theorem wgt_mono {m : Nat} {x y : Nat → Nat} (h : ∀ d, d < m → x d ≤ y d) : wgt m x ≤ wgt m y := natS_c (fun d hd => Nat.mul_le_mul_left _ (h d hd))
theorem uW_ge {d : Nat} (h : d < 5) : 475 ≤ uW d := by
  rcases (show d = 0 ∨ d = 1 ∨ d = 2 ∨ d = 3 ∨ d = 4 by omega) with rfl | rfl | rfl | rfl | rfl <;> decide
theorem wgt_lt : ∀ {m : Nat} {x y : Nat → Nat}, m ≤ 5 → (∀ d, d < m → x d ≤ y d) → (∃ d, d < m ∧ y d ≠ x d) → wgt m x + 475 ≤ wgt m y
  | 0, _, _, _, _, h => by obtain ⟨d, hd, -⟩ := h; omega
  | m + 1, x, y, hm, h, hd => by
    have a := Nat.mul_le_mul_left (uW m) (h m (by omega))
    show wgt m x + uW m * x m + 475 ≤ wgt m y + uW m * y m
    by_cases e : y m = x m
    · have ih := wgt_lt (m := m) (x := x) (y := y) (by omega) (fun d hd => h d (by omega)) (by
        obtain ⟨d, d1, d2⟩ := hd
        rcases (show d < m ∨ d = m by omega) with z | rfl
        · exact ⟨d, z, d2⟩
        · exact absurd e d2)
      omega
    · have ih := wgt_mono (m := m) (x := x) (y := y) (fun d hd => h d (by omega))
      have hx := h m (by omega)
      have b : uW m * (x m + 1) ≤ uW m * y m := Nat.mul_le_mul_left _ (by omega)
      rw [Nat.mul_add, Nat.mul_one] at b
      have := uW_ge (d := m) (by omega)
      omega
theorem nfl_up {r s b : Nat → Nat} {nn m : Nat} (hr : ∀ e, r e ≤ 50) : ∀ t d, nfl r s b nn m t d ≤ nfl r s b nn m (t + 1) d
  | 0, _ => Nat.zero_le _
  | t + 1, d => nrnd_mono hr (nfl_up hr t) m d
theorem nfl_bd {r s b : Nat → Nat} {nn m : Nat} (hr : ∀ e, r e ≤ 50) (hs : ∀ e, s e ≤ 90) (hm0 : 0 < m) (hm : m ≤ 5) : ∀ t, wgt m (nfl r s b nn m t) ≤ 20000 * nn
  | 0 => by
    have : wgt m (nfl r s b nn m 0) = 0 := by
      show natS (fun d => uW d * 0) m = 0
      rw [natS_e (g := fun _ => 0) (fun _ _ => Nat.mul_zero _), natS_k, Nat.mul_zero]
    omega
  | t + 1 => by
    have a := wgt_up (r := r) (s := s) (b := b) (nn := nn) (m := m) (x := nfl r s b nn m t) hr hs hm0 hm
    have ih := nfl_bd (r := r) (s := s) (b := b) (nn := nn) (m := m) hr hs hm0 hm t
    show wgt m (nrnd r s b nn (nfl r s b nn m t) m) ≤ _
    omega
/-- a sequence that falls, and falls fast while it is large -/
theorem falls {D : Nat → Nat} {T : Nat} (h1 : ∀ t, t < T → D (t + 1) + 475 ≤ D t) (h2 : ∀ t, t < T → 20 * D (t + 1) ≤ 19 * D t + 200000) : ∀ (j A : Nat), A = 400000 * 2 ^ j → ∀ t, t ≤ T → D t ≤ A → T - t ≤ 850 + 40 * j := by
  have mono : ∀ i t, t + i ≤ T → D (t + i) + 475 * i ≤ D t := by
    intro i
    induction i with
    | zero => intro t _; show D t + 475 * 0 ≤ D t; omega
    | succ i ih =>
      intro t ht
      have a := ih t (by omega)
      have c := h1 (t + i) (by omega)
      rw [show t + i + 1 = t + (i + 1) by omega] at c
      revert a c
      generalize D (t + i) = p
      generalize D (t + (i + 1)) = q
      intro a c
      rw [Nat.mul_succ, Nat.add_comm (475 * i) 475, ← Nat.add_assoc]
      exact Nat.le_trans (Nat.add_le_add_right c _) a
  intro j
  induction j with
  | zero =>
    intro A hA t ht hD
    have hA : A = 400000 := by rw [hA]
    have := mono (T - t) t (by omega)
    omega
  | succ j ih =>
    intro A hA t ht hD
    rcases Nat.lt_or_ge (T - t) 41 with z | z
    · omega
    · have pw : A = 2 * (400000 * 2 ^ j) := by rw [hA, Nat.pow_succ]; omega
      have p1 : 1 ≤ 2 ^ j := Nat.one_le_two_pow
      generalize hB : 400000 * 2 ^ j = B at pw ih
      have B4 : 400000 ≤ B := by omega
      have key : D (t + 40) ≤ B := by
        rcases Nat.lt_or_ge B (D (t + 40)) with y | y
        · have step : ∀ i, i ≤ 40 → 40 * D (t + i) + i * B ≤ 40 * D t := by
            intro i
            induction i with
            | zero => intro _; show 40 * D t + 0 * B ≤ _; omega
            | succ i ihi =>
              intro hi
              have a := ihi (by omega)
              have c := h2 (t + i) (by omega)
              have e := mono (40 - i) (t + i) (by omega)
              rw [show t + i + (40 - i) = t + 40 by omega] at e
              rw [show t + i + 1 = t + (i + 1) by omega] at c
              rw [Nat.add_mul, Nat.one_mul]
              omega
          have := step 40 (Nat.le_refl _)
          omega
        · exact y
      have := ih B rfl (t + 40) (by omega) key
      omega
theorem settles {r s b : Nat → Nat} {nn m : Nat} (hr : ∀ e, r e ≤ 50) (hs : ∀ e, s e ≤ 90) (hm0 : 0 < m) (hm : m ≤ 5) (hn : nn ≤ 10000000000) : ∃ T, T < 1000000 ∧ (∀ t, t < T → ∃ d, d < m ∧ nfl r s b nn m (t + 1) d ≠ nfl r s b nn m t d) ∧ ∀ d, d < m → nfl r s b nn m (T + 1) d = nfl r s b nn m T d := by
  have up := nfl_up (r := r) (s := s) (b := b) (nn := nn) (m := m) hr
  have bd := nfl_bd (r := r) (s := s) (b := b) (nn := nn) (m := m) hr hs hm0 hm
  have ex : ∃ T, ∀ d, d < m → nfl r s b nn m (T + 1) d = nfl r s b nn m T d := by
    refine Classical.byContradiction (fun hno => ?_)
    have ne : ∀ t, ∃ d, d < m ∧ nfl r s b nn m (t + 1) d ≠ nfl r s b nn m t d := fun t => by
      refine Classical.byContradiction (fun h => hno ⟨t, fun d hd => ?_⟩)
      exact Classical.byContradiction (fun h2 => h ⟨d, hd, h2⟩)
    have gr : ∀ t, t ≤ wgt m (nfl r s b nn m t) := by
      intro t
      induction t with
      | zero => exact Nat.zero_le _
      | succ t ih =>
        have := wgt_lt hm (fun d _ => up t d) (ne t)
        omega
    have := gr (20000 * nn + 1)
    have := bd (20000 * nn + 1)
    omega
  obtain ⟨T, h1, h2⟩ := pk_least _ ex
  have ne : ∀ t, t < T → ∃ d, d < m ∧ nfl r s b nn m (t + 1) d ≠ nfl r s b nn m t d := fun t ht => by
    refine Classical.byContradiction (fun h => h2 t ht (fun d hd => ?_))
    exact Classical.byContradiction (fun h3 => h ⟨d, hd, h3⟩)
  refine ⟨T, ?_, ne, h1⟩
  have mon : ∀ i t d, nfl r s b nn m t d ≤ nfl r s b nn m (t + i) d := by
    intro i
    induction i with
    | zero => intro t d; exact Nat.le_refl _
    | succ i ih => intro t d; exact Nat.le_trans (ih t d) (up (t + i) d)
  have le : ∀ t, t ≤ T → ∀ d, nfl r s b nn m t d ≤ nfl r s b nn m T d := fun t ht d => by
    have := mon (T - t) t d
    rw [show t + (T - t) = T by omega] at this
    exact this
  have wT : wgt m (nrnd r s b nn (nfl r s b nn m T) m) = wgt m (nfl r s b nn m T) := natS_e (fun d hd => by show uW d * nfl r s b nn m (T + 1) d = _; rw [h1 d hd])
  have f := falls (D := fun t => wgt m (nfl r s b nn m T) - wgt m (nfl r s b nn m t)) (T := T) (fun t ht => by
    have a := wgt_lt hm (fun d _ => up t d) (ne t ht)
    have c := wgt_mono (m := m) (fun d _ => le (t + 1) ht d)
    show wgt m (nfl r s b nn m T) - wgt m (nfl r s b nn m (t + 1)) + 475 ≤ wgt m (nfl r s b nn m T) - wgt m (nfl r s b nn m t)
    omega) (fun t ht => by
    have a := wgt_dn (r := r) (s := s) (b := b) (nn := nn) hr hs hm0 hm (fun d => le t (by omega) d)
    rw [wT] at a
    have c := wgt_mono (m := m) (fun d _ => le (t + 1) ht d)
    have e := wgt_mono (m := m) (fun d _ => le t (by omega) d)
    have g : wgt m (nfl r s b nn m (t + 1)) = wgt m (nrnd r s b nn (nfl r s b nn m t) m) := rfl
    show 20 * (wgt m (nfl r s b nn m T) - wgt m (nfl r s b nn m (t + 1))) ≤ 19 * (wgt m (nfl r s b nn m T) - wgt m (nfl r s b nn m t)) + 200000
    omega) 29 _ rfl 0 (Nat.zero_le _) (by
    have := bd T
    show wgt m (nfl r s b nn m T) - wgt m (nfl r s b nn m 0) ≤ 400000 * 2 ^ 29
    omega)
  omega
