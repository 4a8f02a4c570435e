/-! ===== plan: the class ===== -/
theorem rnd_nat {rt sh : Nat → Int64} {bt : Nat → Int32} {r s b : Nat → Nat} {nn m : Nat} {x : Nat → Int64} {y : Nat → Nat} (hm : m ≤ 5) (h1 : ∀ e, e < m → rt e = lN (r e) ∧ r e ≤ 50) (h2 : ∀ e, e < m → (bt e = nI (b e) ∧ b e ≤ 4 ∧ sh e = lN (s e) ∧ s e ≤ 90) ∨ (bt e = -1 ∧ 5 ≤ b e)) (hx : ∀ d, d < m → x d = lN (y d) ∧ y d ≤ 10000000000000) : ∀ k d, k ≤ m → d < m → rnd rt sh bt (lN nn) x k d = lN (nrnd r s b nn y k d) := by
  have lo : ∀ e, e < m → x e * rt e / 100 = lN (nlo (r e) (y e)) ∧ nlo (r e) (y e) ≤ y e := fun e he => by
    obtain ⟨a, c⟩ := hx e he
    obtain ⟨p, q⟩ := h1 e he
    have : y e * r e ≤ y e * 50 := Nat.mul_le_mul_left _ q
    have h := nlo_half (x := y e) q
    refine ⟨?_, by omega⟩
    rw [a, p, lN_mul, show (100 : Int64) = lN 100 from rfl, pk_lDiv (by omega) (by decide) (by decide)]
    rfl
  intro k
  induction k with
  | zero =>
    intro d _ hd
    show (if d = 0 then lN nn else x (d - 1) - x (d - 1) * rt (d - 1) / 100) = lN (if d = 0 then nn else y (d - 1) - nlo (r (d - 1)) (y (d - 1)))
    by_cases e : d = 0
    · rw [if_pos e, if_pos e]
    · rw [if_neg e, if_neg e, (lo (d - 1) (by omega)).1, (hx (d - 1) (by omega)).1, lN_sub (lo (d - 1) (by omega)).2]
  | succ e ih =>
    intro d he hd
    show rnd rt sh bt (lN nn) x e d + (if bt e = nI d then x e * rt e / 100 * sh e / 100 else 0) = lN (nrnd r s b nn y e d + if b e = d then nbk (r e) (s e) (y e) else 0)
    rw [ih d (by omega) hd]
    rcases h2 e (by omega) with ⟨p1, p2, p3, p4⟩ | ⟨p1, p2⟩
    · by_cases z : b e = d
      · rw [if_pos (by rw [p1, z]), if_pos z, (lo e (by omega)).1, p3, lN_mul]
        have q := (lo e (by omega)).2
        have q2 := (hx e (by omega)).2
        have : nlo (r e) (y e) * s e ≤ nlo (r e) (y e) * 90 := Nat.mul_le_mul_left _ p4
        rw [show (100 : Int64) = lN 100 from rfl, pk_lDiv (by omega) (by decide) (by decide), lN_add]
        rfl
      · rw [if_neg (fun q => z ((nI_eq (by omega) (by omega)).mp (p1.symm.trans q))), if_neg z]
        exact Int64.add_zero _
    · rw [if_neg (fun q => nI_ne (by omega) (q.symm.trans p1)), if_neg (by omega)]
      exact Int64.add_zero _
theorem wgt_d {m : Nat} {x : Nat → Nat} : ∀ {d : Nat}, d < m → uW d * x d ≤ wgt m x := by
  intro d hd
  induction m with
  | zero => omega
  | succ m ih =>
    show uW d * x d ≤ wgt m x + uW m * x m
    rcases (show d < m ∨ d = m by omega) with z | rfl
    · have := ih z; omega
    · omega
theorem flw_nat {rt sh : Nat → Int64} {bt : Nat → Int32} {r s b : Nat → Nat} {nn m : Nat} (hm0 : 0 < m) (hm : m ≤ 5) (hn : nn ≤ 10000000000) (h1 : ∀ e, e < m → rt e = lN (r e)) (hr : ∀ e, r e ≤ 50) (hs : ∀ e, s e ≤ 90) (h2 : ∀ e, e < m → (bt e = nI (b e) ∧ b e ≤ 4 ∧ sh e = lN (s e)) ∨ (bt e = -1 ∧ 5 ≤ b e)) : ∀ t d, d < m → flw rt sh bt (lN nn) m t d = lN (nfl r s b nn m t d) ∧ nfl r s b nn m t d ≤ 10000000000000 := by
  intro t
  induction t with
  | zero => intro d _; exact ⟨rfl, Nat.zero_le _⟩
  | succ t ih =>
    intro d hd
    refine ⟨rnd_nat hm (fun e he => ⟨h1 e he, hr e⟩) (fun e he => (h2 e he).imp (fun ⟨a, b, c⟩ => ⟨a, b, c, hs e⟩) id) ih m d (Nat.le_refl _) hd, ?_⟩
    have a := nfl_bd (r := r) (s := s) (b := b) (nn := nn) (m := m) hr hs hm0 hm (t + 1)
    have c := wgt_d (x := nfl r s b nn m (t + 1)) hd
    have e := Nat.mul_le_mul_right (nfl r s b nn m (t + 1) d) (uW_ge (d := d) (by omega))
    omega
def rtW (w : Nat → Int64) (e : Nat) : Int64 := w (5 + 9 * e + 2)
def shW (w : Nat → Int64) (e : Nat) : Int64 := w (5 + 9 * e + 8)
def btW (w : Nat → Int64) (e : Nat) : Int32 := (w (5 + 9 * e + 7)).toInt32
theorem plan_T {w : Nat → Int64} {n m k : Nat} (hf : WFt w n m) (hn0 : 0 < n) (hk : k ≤ 10000) : ∃ T, T < 1000000 ∧ stl (rtW w) (shW w) (btW w) (lN k * 1000000) n T := by
  have n5 := hf.1
  have d := hf.2.2.2.2.2.1
  have h1 : ∀ e, e < n → rtW w e = lN (if e < n then cnt w (5 + 9 * e + 2) else 0) := fun e he => by
    obtain ⟨-, -, ⟨v, v5, ev⟩, -⟩ := d e he
    unfold rtW cnt
    rw [if_pos he, ev, lN_clamp (by omega)]
  have hr : ∀ e, (if e < n then cnt w (5 + 9 * e + 2) else 0) ≤ 50 := fun e => by
    by_cases he : e < n
    · obtain ⟨-, -, ⟨v, v5, ev⟩, -⟩ := d e he
      unfold cnt
      rw [if_pos he, ev, lN_clamp (by omega)]; exact v5
    · rw [if_neg he]; exact Nat.zero_le _
  have hb : ∀ e, e < n → ∃ b s, s ≤ 90 ∧ ((btW w e = nI b ∧ b ≤ 4 ∧ shW w e = lN s) ∨ (btW w e = -1 ∧ 5 ≤ b)) := fun e he => by
    obtain ⟨-, -, -, -, -, z⟩ := d e he
    unfold btW shW
    rcases z with ⟨z1, z2⟩ | ⟨b, s, b1, s1, s2, z1, z2⟩
    · exact ⟨9, 0, by omega, Or.inr ⟨by rw [z1]; decide, by omega⟩⟩
    · exact ⟨b, s, s2, Or.inl ⟨by rw [z1, lN_i], by omega, z2⟩⟩
  obtain ⟨B, hB⟩ : ∃ B : Nat → Nat × Nat, ∀ e, (B e).2 ≤ 90 ∧ (e < n → (btW w e = nI (B e).1 ∧ (B e).1 ≤ 4 ∧ shW w e = lN (B e).2) ∨ (btW w e = -1 ∧ 5 ≤ (B e).1)) := by
    have : ∀ e, ∃ q : Nat × Nat, q.2 ≤ 90 ∧ (e < n → (btW w e = nI q.1 ∧ q.1 ≤ 4 ∧ shW w e = lN q.2) ∨ (btW w e = -1 ∧ 5 ≤ q.1)) := fun e => by
      by_cases he : e < n
      · obtain ⟨b, s, s9, z⟩ := hb e he
        exact ⟨(b, s), s9, fun _ => z⟩
      · exact ⟨(0, 0), by decide, fun q => absurd q he⟩
    exact ⟨fun e => Classical.choose (this e), fun e => Classical.choose_spec (this e)⟩
  have nn : lN k * 1000000 = lN (k * 1000000) := lN_mul k 1000000
  obtain ⟨T, t1, t2, t3⟩ := settles (r := fun e => if e < n then cnt w (5 + 9 * e + 2) else 0) (s := fun e => (B e).2) (b := fun e => (B e).1) (nn := k * 1000000) (m := n) hr (fun e => (hB e).1) hn0 n5 (by omega)
  have fl := flw_nat (rt := rtW w) (sh := shW w) (bt := btW w) (r := fun e => if e < n then cnt w (5 + 9 * e + 2) else 0) (s := fun e => (B e).2) (b := fun e => (B e).1) (nn := k * 1000000) (m := n) hn0 n5 (by omega) h1 hr (fun e => (hB e).1) (fun e he => (hB e).2 he)
  refine ⟨T, t1, fun t ht => ?_, fun d hd => ?_⟩
  · obtain ⟨d, hd, ne⟩ := t2 t ht
    refine ⟨d, hd, fun q => ne ?_⟩
    rw [nn, (fl (t + 1) d hd).1, (fl t d hd).1] at q
    have a := (fl (t + 1) d hd).2
    have c := (fl t d hd).2
    exact (pk_lEQ (by omega) (by omega)).mp q
  · rw [nn, (fl (T + 1) d hd).1, (fl T d hd).1, t3 d hd]
def plV (w : Nat → Int64) (n k T j : Nat) : Int64 := if j < 5 then flw (rtW w) (shW w) (btW w) (lN k * 1000000) n T j else if j = 5 then flw (rtW w) (shW w) (btW w) (lN k * 1000000) n T (n - 1) - flw (rtW w) (shW w) (btW w) (lN k * 1000000) n T (n - 1) * rtW w (n - 1) / 100 else lN T
set_option maxHeartbeats 1000000 in
theorem e_cPlan {S : Mem} {tp : Nat} {sg : Nat → Int32} {fp : Int32} {r : Nat → Int32} {w : Nat → Int64} {H : HL} {n m : Nat} (hI : CI S tp sg fp r w H) (hf : WFt w n m) (hn0 : 0 < n) (x y : Int32) {Qr : QR} {Qx : QX} (hA : ¬ (inR x 0 10000 ∧ inR y 0 6) → Qx "java/lang/IllegalArgumentException" (refC S 1)) (hE : ∀ k j, k ≤ 10000 → x = nI k → j ≤ 6 → y = nI j → j < 5 → n ≤ j → Qx "java/util/NoSuchElementException" (refC S 0))
    (h1 : ∀ k j T, k ≤ 10000 → x = nI k → j ≤ 6 → y = nI j → (j < 5 → j < n) → T < 1000000 → stl (rtW w) (shW w) (btW w) (lN k * 1000000) n T → ∀ S', CI S' tp sg fp r w H → FM S S' → Qr (some (.long (plV w n k T j))) S') : vsp 156 9 (sX9_plan 156) [.ref 0, .int x, .int y] S Qr Qx := by
  obtain ⟨ns, hD⟩ := hI.desk hf
  have n5 := hf.1
  have tL : tyN 156 123 = (0, 5, 0, 0) := rfl
  have tF : tyN 156 124 = (1, 5, 0, 0) := rfl
  refine ⟨tP, runG rfl 120 ⟨⟨Nat.le_of_ble_eq_true rfl, Nat.le_of_ble_eq_true rfl, Nat.le_of_ble_eq_true rfl⟩, e_needW x 0 10000 (by decide) (by decide) S (fun k _ k2 ex => ⟨⟨Nat.le_of_ble_eq_true rfl, Nat.le_of_ble_eq_true rfl, Nat.le_of_ble_eq_true rfl⟩, e_needW y 0 6 (by decide) (by decide) S (fun j _ j2 ey => ?_) (fun q => hA (fun z => q z.2))⟩) (fun q => hA (fun z => q z.1))⟩⟩
  obtain ⟨T, T6, hT⟩ := plan_T hf hn0 k2
  -- the tables of the class are those of the row
  have eR : ∀ e, e < n → rtS S e = rtW w e := fun e he => (hD.2.2.2.1 e he).1.2.2.1
  have eS : ∀ e, e < n → shS S e = shW w e := fun e he => (hD.2.2.2.1 e he).1.2.2.2.2.2.2
  have eB : ∀ e, e < n → btS S e = btW w e := fun e he => l_i (hD.2.2.2.1 e he).1.2.2.2.2.2.1
  have nn : x.toInt64 * 1000000 = lN k * 1000000 := by rw [ex, nI_l (by omega)]
  have fc : ∀ t d, d < n → flw (rtS S) (shS S) (btS S) (x.toInt64 * 1000000) n t d = flw (rtW w) (shW w) (btW w) (lN k * 1000000) n t d := fun t d hd => by rw [nn]; exact flw_congr eR eS eB t d hd
  have okb : okB S n := fun e he => by
    have b := hf.2.2.2.2.2.1 e he
    have e6 : S.1 (4 + 17 * e) 6 = btW w e := eB e he
    rcases b.2.2.2.2.2 with ⟨z1, z2⟩ | ⟨b', s', b1, -, -, z1, z2⟩
    · left
      rw [e6]; unfold btW; rw [z1]; decide
    · right
      exact ⟨b', b1, by rw [e6]; unfold btW; rw [z1, lN_i]⟩
  have go : ∀ rc, (j < 5 → j < n) → wpH 156 pX9_plan (kX9_plan 156) hd0 [] none 3 (some .long) Qr Qx [] 60 (jmp 28 pX9_plan) rc [(0, .ref 0), (1, .int x), (2, .int y)] [] S := by
    intro rc hj
    refine ⟨tP, tP, ⟨Nat.zero_le _, Nat.le_of_ble_eq_true rfl, Nat.le_of_ble_eq_true rfl⟩, e_settle (T := T) hn0 n5 x S hD.1.1 okb ⟨fun t ht => ?_, fun d hd => ?_⟩ T6 (fun X x1 x2 => ?_)⟩
    · obtain ⟨d, hd, ne⟩ := hT.1 t ht
      refine ⟨d, hd, ?_⟩
      rw [fc _ d hd, fc _ d hd]; exact ne
    · rw [fc _ d hd, fc _ d hd]; exact hT.2 d hd
    · have fr : ∀ c, c ≠ 123 → u2 S.1 123 2 (nI T) c = S.1 c := fun c hc => u2_other _ _ _ hc
      have hC : CI (u2 S.1 123 2 (nI T), X) tp sg fp r w H := by
        obtain ⟨a, b, ⟨c1, c2, c3⟩, -, e⟩ := hI
        refine ⟨by show u2 S.1 123 2 (nI T) 0 0 = fp; rw [fr 0 (by decide)]; exact a, fun i hi => by show u2 S.1 123 2 (nI T) 0 (1 + i) = _; rw [fr 0 (by decide)]; exact b i hi, ⟨by show u2 S.1 123 2 (nI T) 121 1 = _; rw [fr 121 (by decide)]; exact c1, c2, fun i hi => by show u2 S.1 123 2 (nI T) 122 i = _; rw [fr 122 (by decide)]; exact c3 i hi⟩, ⟨n, m, ns, hD.same (sameDesk_of hD.1.2.1 hD.1.2.2.2.1 (fun c p q => ⟨fr c (by omega), x2 c (by omega) (by omega)⟩))⟩, e.move (fr 101 (by decide)) (fun c p q => x2 c (by omega) (by omega))⟩
      have hM : FM S (u2 S.1 123 2 (nI T), X) := fun c hc => ⟨fr c (by omega), x2 c (by omega) (by omega)⟩
      have xf : ∀ d, d < n → X 124 d = flw (rtW w) (shW w) (btW w) (lN k * 1000000) n T d := fun d hd => (x1 d hd).trans (fc T d hd)
      have g := h1 k j T k2 ex j2 ey hj T6 hT _ hC hM
      refine ⟨fun q => ?_, fun q5 => ⟨fun q => ?_, fun q6 => ?_⟩⟩
      · have j5 : j = 5 := (nI_eq (b := 5) (by omega) (by decide)).mp (ey.symm.trans q)
        subst j5
        obtain ⟨n', rfl⟩ : ∃ n', n = n' + 1 := ⟨n - 1, by omega⟩
        refine ⟨tP, tP, ⟨Nat.zero_le _, Nat.le_of_ble_eq_true rfl, Nat.le_of_ble_eq_true rfl⟩, e_passing (m := n') (by omega) _ (by show u2 S.1 123 2 (nI T) 1 2 = _; rw [fr 1 (by decide)]; exact hD.1.1) ⟨rfl, ?_⟩⟩
        have er : rtS (u2 S.1 123 2 (nI T), X) n' = rtW w n' := by
          unfold rtS
          rw [show (u2 S.1 123 2 (nI T), X).1 (4 + 17 * n') = S.1 (4 + 17 * n') from fr _ (by omega)]
          exact eR n' (by omega)
        show Qr (some (.long (X 124 n' - X 124 n' * rtS (u2 S.1 123 2 (nI T), X) n' / 100))) _
        rw [er, xf n' (by omega)]
        unfold plV at g
        rw [if_neg (by decide), if_pos rfl, Nat.add_sub_cancel] at g
        exact g
      · have j6 : j = 6 := (nI_eq (b := 6) (by omega) (by decide)).mp (ey.symm.trans q)
        subst j6
        refine ⟨tP, tL, rfl, ?_⟩
        show Qr (some (.long (u2 S.1 123 2 (nI T) 123 2).toInt64)) _
        rw [u2_s, nI_l (by omega)]
        unfold plV at g
        rw [if_neg (by decide), if_neg (by decide)] at g
        exact g
      · have j4 : j < 5 := by
          rcases (show j < 5 ∨ j = 5 ∨ j = 6 by omega) with z | rfl | rfl
          · exact z
          · exact absurd ey q5
          · exact absurd ey q6
        refine ⟨tP, tL, 5, tF, by rw [ey]; exact vp_nI j4, rfl, ?_⟩
        show Qr (some (.long (X 124 y.toNatClampNeg))) _
        rw [ey, nI_clamp (by omega), xf j (hj j4)]
        unfold plV at g
        rw [if_pos j4] at g
        exact g
  refine And.intro (fun q => go _ (fun z => ?_)) (fun q => ⟨⟨Nat.le_of_ble_eq_true rfl, Nat.le_of_ble_eq_true rfl, Nat.le_of_ble_eq_true rfl⟩, e_needDepartment y S hD.1.1 n5 (fun d hd e => go _ (fun _ => ?_)) (fun z => ?_)⟩)
  · have q : nI 5 ≤ y := q
    rw [ey] at q
    have := (nI_leI (by decide) (by omega)).mp q
    omega
  · have := (nI_eq (by omega) (by omega)).mp (ey.symm.trans e)
    omega
  · have q : ¬ nI 5 ≤ y := q
    rw [ey] at q
    have j4 : j < 5 := by
      rcases Nat.lt_or_ge j 5 with u | u
      · exact u
      · exact absurd (nI_le u (by omega)) q
    refine hE k j k2 ex j2 ey j4 ?_
    rcases Nat.lt_or_ge j n with u | u
    · exact absurd ⟨j, u, ey⟩ z
    · exact u
