/-! ===== a plan settles ===== -/
def nlo (r x : Nat) : Nat := x * r / 100
def nbk (r s x : Nat) : Nat := nlo r x * s / 100
def nrnd (r s b : Nat → Nat) (nn : Nat) (x : Nat → Nat) : Nat → Nat → Nat
  | 0, d => if d = 0 then nn else x (d - 1) - nlo (r (d - 1)) (x (d - 1))
  | e + 1, d => nrnd r s b nn x e d + if b e = d then nbk (r e) (s e) (x e) else 0
def nfl (r s b : Nat → Nat) (nn m : Nat) : Nat → Nat → Nat
  | 0 => fun _ => 0
  | t + 1 => fun d => nrnd r s b nn (nfl r s b nn m t) m d
def uW (d : Nat) : Nat := match d with
  | 0 => 1000
  | 1 => 924
  | 2 => 855
  | 3 => 724
  | 4 => 475
  | _ => 0
theorem uW_le (d : Nat) : uW d ≤ 1000 := by
  rcases (show d = 0 ∨ d = 1 ∨ d = 2 ∨ d = 3 ∨ d = 4 ∨ 5 ≤ d by omega) with rfl | rfl | rfl | rfl | rfl | h
  · decide
  · decide
  · decide
  · decide
  · decide
  · obtain ⟨k, rfl⟩ : ∃ k, d = k + 5 := ⟨d - 5, by omega⟩
    exact Nat.zero_le _
theorem natS_c {f g : Nat → Nat} : ∀ {n : Nat}, (∀ i, i < n → f i ≤ g i) → natS f n ≤ natS g n
  | 0, _ => Nat.le_refl _
  | n + 1, h => Nat.add_le_add (natS_c (fun i hi => h i (by omega))) (h n (by omega))
theorem natS_a {f g : Nat → Nat} : ∀ {n : Nat}, natS (fun i => f i + g i) n = natS f n + natS g n
  | 0 => rfl
  | n + 1 => by
    show natS (fun i => f i + g i) n + (f n + g n) = natS f n + f n + (natS g n + g n)
    rw [natS_a]; omega
theorem natS_e {f g : Nat → Nat} : ∀ {n : Nat}, (∀ i, i < n → f i = g i) → natS f n = natS g n
  | 0, _ => rfl
  | n + 1, h => by
    show natS f n + f n = natS g n + g n
    rw [natS_e (fun i hi => h i (by omega)), h n (by omega)]
theorem natS_m {f : Nat → Nat} {c : Nat} : ∀ {n : Nat}, natS (fun i => c * f i) n = c * natS f n
  | 0 => rfl
  | n + 1 => by
    show natS (fun i => c * f i) n + c * f n = c * (natS f n + f n)
    rw [natS_m, Nat.mul_add]
theorem natS_1 {b v : Nat} : ∀ {n : Nat}, natS (fun d => uW d * (if b = d then v else 0)) n ≤ if b < n then 1000 * v else 0
  | 0 => Nat.zero_le _
  | n + 1 => by
    have ih := natS_1 (b := b) (v := v) (n := n)
    show natS (fun d => uW d * (if b = d then v else 0)) n + uW n * (if b = n then v else 0) ≤ _
    by_cases h : b = n
    · subst h
      rw [if_neg (by omega)] at ih
      rw [if_pos rfl, if_pos (by omega)]
      have := Nat.mul_le_mul_right v (uW_le b)
      omega
    · rw [if_neg h, Nat.mul_zero]
      by_cases k : b < n
      · rw [if_pos k] at ih; rw [if_pos (by omega)]; omega
      · rw [if_neg k] at ih; rw [if_neg (by omega)]; omega
theorem nlo_mono {r x y : Nat} (h : x ≤ y) : nlo r x ≤ nlo r y := Nat.div_le_div_right (Nat.mul_le_mul_right r h)
theorem nbk_mono {r s x y : Nat} (h : x ≤ y) : nbk r s x ≤ nbk r s y := Nat.div_le_div_right (Nat.mul_le_mul_right s (nlo_mono h))
theorem nlo_half {r x : Nat} (h : r ≤ 50) : 2 * nlo r x ≤ x := by
  have h1 : x * r ≤ x * 50 := Nat.mul_le_mul_left x h
  unfold nlo
  omega
theorem nbk_le {r s x : Nat} (h : s ≤ 90) : 10 * nbk r s x ≤ 9 * nlo r x := by
  have h1 : nlo r x * s ≤ nlo r x * 90 := Nat.mul_le_mul_left _ h
  unfold nbk
  omega
/-- how far losses of two flows can lie apart -/
theorem nlo_d {r x y : Nat} (h : r ≤ 50) (hxy : x ≤ y) : 100 * (nlo r y - nlo r x) ≤ 50 * (y - x) + 99 := by
  have h1 : (y - x) * r ≤ (y - x) * 50 := Nat.mul_le_mul_left _ h
  have h2 : (y - x) * r = y * r - x * r := Nat.sub_mul _ _ _
  have h3 : x * r ≤ y * r := Nat.mul_le_mul_right r hxy
  unfold nlo
  omega
theorem nbk_d {r s x y : Nat} (h : s ≤ 90) (hxy : x ≤ y) : 100 * (nbk r s y - nbk r s x) ≤ 90 * (nlo r y - nlo r x) + 99 := by
  have h1 : (nlo r y - nlo r x) * s ≤ (nlo r y - nlo r x) * 90 := Nat.mul_le_mul_left _ h
  have h2 : (nlo r y - nlo r x) * s = nlo r y * s - nlo r x * s := Nat.sub_mul _ _ _
  have h3 : nlo r x * s ≤ nlo r y * s := Nat.mul_le_mul_right s (nlo_mono hxy)
  unfold nbk
  omega
theorem pas_mono {r x y : Nat} (h : r ≤ 50) (hxy : x ≤ y) : x - nlo r x ≤ y - nlo r y := by
  have := nlo_d h hxy
  have a := nlo_half (x := x) h
  have b := nlo_half (x := y) h
  have c := nlo_mono (r := r) hxy
  have h1 : (y - x) * r ≤ (y - x) * 100 := Nat.mul_le_mul_left _ (by omega)
  have h2 : (y - x) * r = y * r - x * r := Nat.sub_mul _ _ _
  have h3 : x * r ≤ y * r := Nat.mul_le_mul_right r hxy
  unfold nlo at *
  omega
theorem nrnd_mono {r s b : Nat → Nat} {nn : Nat} {x y : Nat → Nat} (hr : ∀ e, r e ≤ 50) (h : ∀ d, x d ≤ y d) : ∀ k d, nrnd r s b nn x k d ≤ nrnd r s b nn y k d := by
  intro k
  induction k with
  | zero =>
    intro d
    show (if d = 0 then nn else _) ≤ (if d = 0 then nn else _)
    by_cases e : d = 0
    · rw [if_pos e, if_pos e]; exact Nat.le_refl _
    · rw [if_neg e, if_neg e]; exact pas_mono (hr _) (h _)
  | succ k ih =>
    intro d
    show nrnd r s b nn x k d + (if b k = d then _ else 0) ≤ nrnd r s b nn y k d + (if b k = d then _ else 0)
    have := ih d
    by_cases e : b k = d
    · rw [if_pos e, if_pos e]; have := nbk_mono (r := r k) (s := s k) (h k); omega
    · rw [if_neg e, if_neg e]; omega
/-- the weight of flows -/
def wgt (m : Nat) (x : Nat → Nat) : Nat := natS (fun d => uW d * x d) m
theorem wgt_rnd {r s b : Nat → Nat} {nn m : Nat} {x : Nat → Nat} : ∀ k, wgt m (nrnd r s b nn x k) ≤ wgt m (nrnd r s b nn x 0) + natS (fun e => 1000 * nbk (r e) (s e) (x e)) k
  | 0 => Nat.le_refl _
  | k + 1 => by
    have ih := wgt_rnd (r := r) (s := s) (b := b) (nn := nn) (m := m) (x := x) k
    have e : wgt m (nrnd r s b nn x (k + 1)) = wgt m (nrnd r s b nn x k) + natS (fun d => uW d * (if b k = d then nbk (r k) (s k) (x k) else 0)) m := by
      unfold wgt
      rw [← natS_a]
      exact natS_e (fun d _ => Nat.mul_add _ _ _)
    have u := natS_1 (b := b k) (v := nbk (r k) (s k) (x k)) (n := m)
    show _ ≤ _ + (natS (fun e => 1000 * nbk (r e) (s e) (x e)) k + 1000 * nbk (r k) (s k) (x k))
    by_cases h : b k < m
    · rw [if_pos h] at u; omega
    · rw [if_neg h] at u; omega
theorem wgt_0 {r s b : Nat → Nat} {nn : Nat} {x : Nat → Nat} : ∀ m, wgt (m + 1) (nrnd r s b nn x 0) = 1000 * nn + natS (fun e => uW (e + 1) * (x e - nlo (r e) (x e))) m
  | 0 => by
    show 0 + uW 0 * (if 0 = 0 then nn else _) = 1000 * nn + 0
    rw [if_pos rfl]
    show 0 + 1000 * nn = _
    omega
  | m + 1 => by
    have ih := wgt_0 (r := r) (s := s) (b := b) (nn := nn) (x := x) m
    show wgt (m + 1) (nrnd r s b nn x 0) + uW (m + 1) * (if m + 1 = 0 then nn else x (m + 1 - 1) - nlo (r (m + 1 - 1)) (x (m + 1 - 1))) = 1000 * nn + (natS (fun e => uW (e + 1) * (x e - nlo (r e) (x e))) m + uW (m + 1) * (x m - nlo (r m) (x m)))
    rw [ih, if_neg (by omega), Nat.add_sub_cancel]
    omega
theorem con1 {r s x e : Nat} (hr : r ≤ 50) (hs : s ≤ 90) (he : e < 5) : 20 * (uW (e + 1) * (x - nlo r x) + 1000 * nbk r s x) ≤ 19 * (uW e * x) := by
  have a := nlo_half (x := x) hr
  have b := nbk_le (r := r) (x := x) hs
  rcases (show e = 0 ∨ e = 1 ∨ e = 2 ∨ e = 3 ∨ e = 4 by omega) with rfl | rfl | rfl | rfl | rfl
  · show 20 * (924 * (x - nlo r x) + 1000 * nbk r s x) ≤ 19 * (1000 * x); omega
  · show 20 * (855 * (x - nlo r x) + 1000 * nbk r s x) ≤ 19 * (924 * x); omega
  · show 20 * (724 * (x - nlo r x) + 1000 * nbk r s x) ≤ 19 * (855 * x); omega
  · show 20 * (475 * (x - nlo r x) + 1000 * nbk r s x) ≤ 19 * (724 * x); omega
  · show 20 * (0 * (x - nlo r x) + 1000 * nbk r s x) ≤ 19 * (475 * x); omega
theorem con2 {r s x y e : Nat} (hr : r ≤ 50) (hs : s ≤ 90) (he : e < 5) (h : x ≤ y) : 20 * (uW (e + 1) * (y - nlo r y) + 1000 * nbk r s y) + 19 * (uW e * x) ≤ 20 * (uW (e + 1) * (x - nlo r x) + 1000 * nbk r s x) + 19 * (uW e * y) + 40000 := by
  have a := nlo_half (x := x) hr
  have b := nlo_half (x := y) hr
  have c := nlo_d hr h
  have d := nbk_d (r := r) hs h
  have f := nlo_mono (r := r) h
  have g := nbk_mono (r := r) (s := s) h
  rcases (show e = 0 ∨ e = 1 ∨ e = 2 ∨ e = 3 ∨ e = 4 by omega) with rfl | rfl | rfl | rfl | rfl
  · show 20 * (924 * (y - nlo r y) + 1000 * nbk r s y) + 19 * (1000 * x) ≤ 20 * (924 * (x - nlo r x) + 1000 * nbk r s x) + 19 * (1000 * y) + 40000; omega
  · show 20 * (855 * (y - nlo r y) + 1000 * nbk r s y) + 19 * (924 * x) ≤ 20 * (855 * (x - nlo r x) + 1000 * nbk r s x) + 19 * (924 * y) + 40000; omega
  · show 20 * (724 * (y - nlo r y) + 1000 * nbk r s y) + 19 * (855 * x) ≤ 20 * (724 * (x - nlo r x) + 1000 * nbk r s x) + 19 * (855 * y) + 40000; omega
  · show 20 * (475 * (y - nlo r y) + 1000 * nbk r s y) + 19 * (724 * x) ≤ 20 * (475 * (x - nlo r x) + 1000 * nbk r s x) + 19 * (724 * y) + 40000; omega
  · show 20 * (0 * (y - nlo r y) + 1000 * nbk r s y) + 19 * (475 * x) ≤ 20 * (0 * (x - nlo r x) + 1000 * nbk r s x) + 19 * (475 * y) + 40000; omega
