/-! ===== the other acts keep what holds of a row ===== -/
/-- a change at places that are neither told nor in the store -/
theorem WN.chg {w v : Nat → Int64} {t n m : Nat} (h : WN w t n m) (e : ∀ i, (i < 66 ∧ i ≠ 4) ∨ 418 ≤ i → v i = w i) (h4 : rg v 4 10000) (hE : ∀ d, d < n → WFe v d (t + 1) ∧ cen0 v d) (hU : unI v n ≤ unI w n + 10000) (hC : ceI v n ≤ ceI w n + 100000000) : WN v (t + 1) n m := by
  obtain ⟨a, b, c, d, -, -, g, i, j⟩ := h
  have m4 := a.2.1
  refine ⟨a.row (fun i x _ y => e i (by omega)), b.row m4 (fun i _ _ => e i (by omega)), c, rg_e (d.le (by omega)) (e 3 (by omega)), h4, hE, fun p hp => ?_, by omega, by omega⟩
  obtain ⟨k, g1, g2, g3, g4, g5⟩ := g p hp
  refine ⟨k, g1, (e _ (by omega)).trans g2, fun z => g3 ((e 2 (by omega)).symm.trans z), fun i hi => ?_, fun i x y => ?_⟩
  · obtain ⟨x1, x2, x3, x4⟩ := g4 i hi
    unfold lyO
    rw [e _ (by omega), e (420 + 83 * p + 2 * i) (by omega)]
    exact ⟨x1, by omega, by omega, by omega⟩
  · rw [e _ (by omega), e (420 + 83 * p + 2 * i) (by omega)]
    exact g5 i x y
theorem WFe.chg {w v : Nat → Int64} {d t : Nat} (h : WFe w d t) (e : ∀ i, 66 ≤ i → i < 418 → v i = w i) (hd : d < 5) : WFe v d (t + 1) := by
  obtain ⟨⟨f1, f2, f3, f4, f5⟩, ⟨f6, f7, f8⟩, f9, f10, f11, f12, f13, f14⟩ := h.up (Nat.le_succ t)
  exact ⟨⟨(e _ (by omega) (by omega)).trans f1, fun j x y => rg_e (f2 j x y) (e _ (by omega) (by omega)), rg_e f3 (e _ (by omega) (by omega)), rg_e f4 (e _ (by omega) (by omega)), rg_e f5 (e _ (by omega) (by omega))⟩, ⟨rg_e f6 (e _ (by omega) (by omega)), rg_e f7 (e _ (by omega) (by omega)), fun j x => rg_e (f8 j x) (e _ (by omega) (by omega))⟩, rg_e f9 (e _ (by omega) (by omega)), rg_e f10 (e _ (by omega) (by omega)), rg_e f11 (e _ (by omega) (by omega)), rg_e f12 (e _ (by omega) (by omega)), rg_e f13 (e _ (by omega) (by omega)), rg_e f14 (e _ (by omega) (by omega))⟩
theorem unI_e {w v : Nat → Int64} {n : Nat} (h : ∀ d, d < n → v (101 + 6 * d) = w (101 + 6 * d)) : unI v n = unI w n + ((v 4).toInt - (w 4).toInt) := by
  unfold unI
  rw [iS_c (g := opI w) (fun d hd => by unfold opI; rw [h d hd])]
  omega
theorem start_WI {w : Nat → Int64} {t n m s k : Nat} (h : WN w t n m) (hs : w 4 = lN s) (hk : k ≤ 10000) (hsk : s + k ≤ 10000) : WI (u1L w 4 (lN (s + k))) (t + 1) := by
  have n5 := h.1.1
  have o : ∀ i, i ≠ 4 → u1L w 4 (lN (s + k)) i = w i := fun i hi => u1L_o _ _ hi
  have e4 : (u1L w 4 (lN (s + k)) 4).toInt = ((s + k : Nat) : Int) := by rw [u1L_s, lN_toInt (by omega)]
  have e4' : (w 4).toInt = (s : Int) := by rw [hs, lN_toInt (by omega)]
  refine ⟨n, m, h.chg (fun i hi => o i (by omega)) ⟨s + k, hsk, u1L_s _ _ _⟩ (fun d hd => ⟨(h.2.2.2.2.2.1 d hd).1.chg (fun i x y => o i (by omega)) (by omega), cen0_e (h.2.2.2.2.2.1 d hd).2 (fun i hi => o i (by omega))⟩) ?_ ?_⟩
  · rw [unI_e (fun d hd => o _ (by omega)), e4, e4', Int.natCast_add]; omega
  · rw [show ceI (u1L w 4 (lN (s + k))) n = ceI w n from iS_c (fun d hd => inC_e (fun i hi => o i (by omega)))]; omega
theorem iS_1 {f g : Nat → Int} {d : Nat} {c : Int} (hd : g d = f d + c) (ho : ∀ i, i ≠ d → g i = f i) : ∀ n, iS g n = iS f n + (if d < n then c else 0)
  | 0 => by rw [if_neg (by omega)]; rfl
  | n + 1 => by
    show iS g n + g n = iS f n + f n + _
    rw [iS_1 hd ho n]
    by_cases z : n = d
    · subst z; rw [hd, if_neg (by omega), if_pos (by omega)]; omega
    · rw [ho n z]
      by_cases y : d < n
      · rw [if_pos y, if_pos (by omega)]; omega
      · rw [if_neg y, if_neg (by omega)]; omega
theorem spend_WI {w : Nat → Int64} {t n m d k v c : Nat} (h : WN w t n m) (hd : d < n) (k1 : 1 ≤ k) (k4 : k < 4) (hv : w (66 + 7 * d + k) = lN v) (hc : v + c ≤ 100000000) : WI (u1L w (66 + 7 * d + k) (lN (v + c))) (t + 1) := by
  have n5 := h.1.1
  obtain ⟨x, hx⟩ : ∃ x, x = u1L w (66 + 7 * d + k) (lN (v + c)) := ⟨_, rfl⟩
  rw [← hx]
  have o : ∀ i, i ≠ 66 + 7 * d + k → x i = w i := fun i hi => by rw [hx]; exact u1L_o _ _ hi
  have s : x (66 + 7 * d + k) = lN (v + c) := by rw [hx]; exact u1L_s _ _ _
  have si : (x (66 + 7 * d + k)).toInt = ((v + c : Nat) : Int) := by rw [s, lN_toInt (by omega)]
  have sv : (w (66 + 7 * d + k)).toInt = (v : Int) := by rw [hv, lN_toInt (by omega)]
  refine ⟨n, m, h.chg (fun i hi => o i (by omega)) (rg_e h.2.2.2.2.1 (o 4 (by omega))) (fun e he => ?_) ?_ ?_⟩
  · obtain ⟨a, b⟩ := h.2.2.2.2.2.1 e he
    by_cases z : e = d
    · subst z
      obtain ⟨⟨f1, f2, f3, f4, f5⟩, ⟨f6, f7, f8⟩, f9, f10, f11, f12, f13, f14⟩ := a.up (Nat.le_succ t)
      refine ⟨⟨⟨(o _ (by omega)).trans f1, fun j y z => ?_, rg_e f3 (o _ (by omega)), rg_e f4 (o _ (by omega)), rg_e f5 (o _ (by omega))⟩, ⟨rg_e f6 (o _ (by omega)), rg_e f7 (o _ (by omega)), fun j x => rg_e (f8 j x) (o _ (by omega))⟩, rg_e f9 (o _ (by omega)), rg_e f10 (o _ (by omega)), rg_e f11 (o _ (by omega)), rg_e f12 (o _ (by omega)), rg_e f13 (o _ (by omega)), rg_e f14 (o _ (by omega))⟩, fun j hj => by rw [o _ (by omega)]; exact b.1 j hj, fun j y z => ?_⟩
      · by_cases q : j = k
        · subst q; exact ⟨v + c, hc, s⟩
        · exact rg_e (f2 j y z) (o _ (by omega))
      · by_cases q : j = k
        · subst q; rw [si]; omega
        · rw [o _ (by omega)]; exact b.2 j y z
    · obtain ⟨⟨f1, f2, f3, f4, f5⟩, ⟨f6, f7, f8⟩, f9, f10, f11, f12, f13, f14⟩ := a.up (Nat.le_succ t)
      exact ⟨⟨⟨(o _ (by omega)).trans f1, fun j y z => rg_e (f2 j y z) (o _ (by omega)), rg_e f3 (o _ (by omega)), rg_e f4 (o _ (by omega)), rg_e f5 (o _ (by omega))⟩, ⟨rg_e f6 (o _ (by omega)), rg_e f7 (o _ (by omega)), fun j x => rg_e (f8 j x) (o _ (by omega))⟩, rg_e f9 (o _ (by omega)), rg_e f10 (o _ (by omega)), rg_e f11 (o _ (by omega)), rg_e f12 (o _ (by omega)), rg_e f13 (o _ (by omega)), rg_e f14 (o _ (by omega))⟩, cen0_e b (fun i hi => o i (by omega))⟩
  · rw [unI_e (fun e he => o _ (by omega)), o 4 (by omega)]; omega
  · have e1 : inC x d = inC w d + (c : Int) := by
      unfold inC
      rcases (show k = 1 ∨ k = 2 ∨ k = 3 by omega) with rfl | rfl | rfl
      · rw [si, sv, o (103 + 6 * d + 0) (by omega), o (103 + 6 * d + 1) (by omega), o (103 + 6 * d + 2) (by omega), o (103 + 6 * d + 3) (by omega), o (66 + 7 * d + 2) (by omega), o (66 + 7 * d + 3) (by omega), Int.natCast_add]; omega
      · rw [si, sv, o (103 + 6 * d + 0) (by omega), o (103 + 6 * d + 1) (by omega), o (103 + 6 * d + 2) (by omega), o (103 + 6 * d + 3) (by omega), o (66 + 7 * d + 1) (by omega), o (66 + 7 * d + 3) (by omega), Int.natCast_add]; omega
      · rw [si, sv, o (103 + 6 * d + 0) (by omega), o (103 + 6 * d + 1) (by omega), o (103 + 6 * d + 2) (by omega), o (103 + 6 * d + 3) (by omega), o (66 + 7 * d + 1) (by omega), o (66 + 7 * d + 2) (by omega), Int.natCast_add]; omega
    have := iS_1 (f := inC w) (g := fun e => if e < 5 then inC x e else inC w e) (d := d) (c := c) (by show (if d < 5 then inC x d else inC w d) = _; rw [if_pos (by omega)]; exact e1) (fun i hi => by
      show (if i < 5 then inC x i else inC w i) = _
      by_cases z : i < 5
      · rw [if_pos z]; exact inC_e (fun j hj => o j (by omega))
      · rw [if_neg z]) n
    have e2 : ceI x n = iS (fun e => if e < 5 then inC x e else inC w e) n := iS_c (fun e he => (if_pos (by omega)).symm)
    rw [e2, this, if_pos hd]
    unfold ceI
    omega
/-- a change of what is lost, left -/
theorem set_WI {w x : Nat → Int64} {t n m d : Nat} (h : WN w t n m) (hd : d < n) (o : ∀ i, i ≠ 70 + 7 * d → i ≠ 71 + 7 * d → i ≠ 72 + 7 * d → x i = w i) (h1 : rg x (70 + 7 * d) 50000) (h2 : rg x (71 + 7 * d) 50000) (h3 : rg x (72 + 7 * d) 100) : WI x (t + 1) := by
  have n5 := h.1.1
  refine ⟨n, m, h.chg (fun i hi => o i (by omega) (by omega) (by omega)) (rg_e h.2.2.2.2.1 (o 4 (by omega) (by omega) (by omega))) (fun e he => ?_) ?_ ?_⟩
  · obtain ⟨a, b⟩ := h.2.2.2.2.2.1 e he
    obtain ⟨⟨f1, f2, f3, f4, f5⟩, ⟨f6, f7, f8⟩, f9, f10, f11, f12, f13, f14⟩ := a.up (Nat.le_succ t)
    have q : ∀ i, i ≠ 70 + 7 * d → i ≠ 71 + 7 * d → i ≠ 72 + 7 * d → ∀ B, rg w i B → rg x i B := fun i y1 y2 y3 B g => rg_e g (o i y1 y2 y3)
    refine ⟨⟨⟨(o _ (by omega) (by omega) (by omega)).trans f1, fun j y z => q _ (by omega) (by omega) (by omega) _ (f2 j y z), ?_, ?_, ?_⟩, ⟨q _ (by omega) (by omega) (by omega) _ f6, q _ (by omega) (by omega) (by omega) _ f7, fun j y => q _ (by omega) (by omega) (by omega) _ (f8 j y)⟩, q _ (by omega) (by omega) (by omega) _ f9, q _ (by omega) (by omega) (by omega) _ f10, q _ (by omega) (by omega) (by omega) _ f11, q _ (by omega) (by omega) (by omega) _ f12, q _ (by omega) (by omega) (by omega) _ f13, q _ (by omega) (by omega) (by omega) _ f14⟩, cen0_e b (fun i hi => o i (by omega) (by omega) (by omega))⟩
    · by_cases z : e = d
      · subst z; exact h1
      · exact q _ (by omega) (by omega) (by omega) _ f3
    · by_cases z : e = d
      · subst z; exact h2
      · exact q _ (by omega) (by omega) (by omega) _ f4
    · by_cases z : e = d
      · subst z; exact h3
      · exact q _ (by omega) (by omega) (by omega) _ f5
  · rw [unI_e (fun e he => o _ (by omega) (by omega) (by omega)), o 4 (by omega) (by omega) (by omega)]; omega
  · rw [show ceI x n = ceI w n from iS_c (fun e he => inC_e (fun i hi => o i (by omega) (by omega) (by omega)))]; omega
theorem lost_WI {w : Nat → Int64} {t n m d k : Nat} (h : WN w t n m) (hd : d < n) (hk : k ≤ 50000) : WI (u1L w (70 + 7 * d) (lN k)) (t + 1) := by
  obtain ⟨⟨-, -, -, f4, f5⟩, -⟩ := (h.2.2.2.2.2.1 d hd).1
  exact set_WI h hd (fun i a b c => u1L_o _ _ a) ⟨k, hk, u1L_s _ _ _⟩ (rg_e f4 (u1L_o _ _ (by omega))) (rg_e f5 (u1L_o _ _ (by omega)))
theorem left_WI {w : Nat → Int64} {t n m d k j : Nat} (h : WN w t n m) (hd : d < n) (hk : k ≤ 50000) (hj : j ≤ 100) : WI (u1L (u1L w (71 + 7 * d) (lN k)) (72 + 7 * d) (lN j)) (t + 1) := by
  obtain ⟨⟨-, -, f3, -, -⟩, -⟩ := (h.2.2.2.2.2.1 d hd).1
  exact set_WI h hd (fun i a b c => (u1L_o _ _ c).trans (u1L_o _ _ b)) (rg_e f3 ((u1L_o _ _ (by omega)).trans (u1L_o _ _ (by omega)))) ⟨k, hk, (u1L_o _ _ (by omega)).trans (u1L_s _ _ _)⟩ ⟨j, hj, u1L_s _ _ _⟩
/-! ===== sell ===== -/
theorem cnt_I {w : Nat → Int64} {i : Nat} (h : 0 ≤ (w i).toInt) : w i = lN (cnt w i) ∧ ((cnt w i : Nat) : Int) = (w i).toInt := by
  have e : w i = lN (w i).toInt.toNat := Int64.toInt_inj.mp (by
    have b := i64_le (w i)
    rw [lN_I (by omega)]; omega)
  have c : cnt w i = (w i).toInt.toNat := rfl
  rw [c]
  exact ⟨e, by omega⟩
theorem stO_of {w : Nat → Int64} {U I : Int} {t p : Nat} (ht : t ≤ 512) (hU : 0 ≤ U) (hI : 0 ≤ I) (h : WL w U I t p) : ∃ k, stO w p k := by
  obtain ⟨k, a, b, -, d, e⟩ := h
  refine ⟨k, a, b, fun i hi => ?_, e⟩
  obtain ⟨x1, x2, x3, x4⟩ := d i hi
  obtain ⟨c1, c2⟩ := cnt_I (w := w) (i := 419 + 83 * p + 2 * i) (by omega)
  have c2 : ((lU w p i : Nat) : Int) = (w (419 + 83 * p + 2 * i)).toInt := c2
  have ct : (lN (lU w p i)).toInt = ((lU w p i : Nat) : Int) := lN_I (by omega)
  have tb : (t : Int) ≤ 512 := by omega
  have y1 : (lC w p i).toInt * ((lU w p i : Nat) : Int) ≤ 1536000000000 * 5120000 := by
    rcases Int.lt_or_le (lC w p i).toInt 0 with g | g
    · have : (lC w p i).toInt * ((lU w p i : Nat) : Int) ≤ 0 := Int.mul_nonpos_of_nonpos_of_nonneg (by omega) (by omega)
      omega
    · exact Int.mul_le_mul (by show (w (420 + 83 * p + 2 * i)).toInt ≤ _; omega) (by omega) (by omega) (by decide)
  have y2 : -(lC w p i).toInt * ((lU w p i : Nat) : Int) ≤ 1536000000000 * 5120000 := by
    rcases Int.lt_or_le (lC w p i).toInt 0 with g | g
    · exact Int.mul_le_mul (by show -(w (420 + 83 * p + 2 * i)).toInt ≤ _; omega) (by omega) (by omega) (by decide)
    · have : -(lC w p i).toInt * ((lU w p i : Nat) : Int) ≤ 0 := Int.mul_nonpos_of_nonpos_of_nonneg (by omega) (by omega)
      omega
  obtain ⟨q, hq, -, -, qe⟩ := cutS (A := lC w p i) rfl ct ct (by omega) (Int.le_refl _) (by omega) (by omega) (by omega)
  exact ⟨c1, Int64.toInt_inj.mp (hq.trans (qe rfl)), by omega, by omega⟩
theorem sell_WI {w : Nat → Int64} {t n m p k u g : Nat} (h : WN w t n m) (ht : t ≤ 512) (hp : p < m) (hO : stO w p k) (hs : slR w p k u g) : WI (slW w p k u g) (t + 1) := by
  obtain ⟨a, b, c, d, e4, f, gg, i, j⟩ := h
  have n5 := a.1
  have m4 := a.2.1
  have o : ∀ i, i ≠ 751 → i < 418 + 83 * p ∨ 501 + 83 * p ≤ i → slW w p k u g i = w i := fun i a b => by
    unfold slW
    rw [if_neg (by omega), if_neg a, if_neg (by omega)]
  have eU : unI (slW w p k u g) n = unI w n := by
    rw [unI_e (fun d hd => o _ (by omega) (by omega)), o 4 (by omega) (by omega)]; omega
  have eC : ceI (slW w p k u g) n = ceI w n := iS_c (fun d hd => inC_e (fun i hi => o i (by omega) (by omega)))
  have g1 : g ≤ k := hs.1
  have k40 : k ≤ 40 := hO.1
  refine ⟨n, m, a.row (fun i x _ _ => o i (by omega) (by omega)), b.row m4 (fun i _ _ => o i (by omega) (by omega)), c, rg_e (d.le (by omega)) (o 3 (by omega) (by omega)), rg_e e4 (o 4 (by omega) (by omega)), fun d hd => ⟨(f d hd).1.chg (fun i x y => o i (by omega) (by omega)) (by omega), cen0_e (f d hd).2 (fun i hi => o i (by omega) (by omega))⟩, fun q hq => ?_, by rw [eU]; omega, by rw [eC]; omega⟩
  rw [eU, eC]
  obtain ⟨k', g1', g2, g3, g4, g5⟩ := gg q hq
  by_cases z : q = p
  · subst z
    have ek : k' = k := (lN_eq (by omega) (by omega)).mp (g2.symm.trans hO.2.1)
    subst ek
    refine ⟨k' - g, by omega, ?_, fun z => ?_, fun i hi => ?_, fun i x y => ?_⟩
    · show (if _ then _ else _) = _
      rw [if_pos rfl]
    · rw [o 2 (by omega) (by omega)] at z
      have := g3 z; omega
    · obtain ⟨l1, l2⟩ := slW_l (w := w) (p := q) (u := u) (g := g) (by omega) hi k40
      unfold lyO
      rw [l1, l2]
      obtain ⟨x1, x2, x3, x4⟩ := g4 (i + g) (by omega)
      by_cases y : i = 0
      · subst y
        rw [if_pos rfl, if_pos rfl]
        rw [Nat.zero_add] at x1 x2 x3 x4
        obtain ⟨q1, q2⟩ := slP_le hO hs (by omega)
        obtain ⟨c1, c2⟩ := cnt_I (w := w) (i := 419 + 83 * q + 2 * g) (by omega)
        have c2 : ((lU w q g : Nat) : Int) = (w (419 + 83 * q + 2 * g)).toInt := c2
        have un0 : 0 ≤ unI w n := by
          unfold unI
          have := (rgI e4 (by decide)).1
          have := iS_0 (f := opI w) (n := n) (fun d hd => by unfold opI; exact (rgI (f d hd).1.2.1.1 (by decide)).1)
          omega
        have ce0 : 0 ≤ ceI w n := iS_0 (fun d hd => inC_0 (f d hd).2)
        have tb : (t : Int) ≤ 512 := by omega
        have hlt : (lN (lU w q g - (u - natS (lU w q) g))).toInt = ((lU w q g - (u - natS (lU w q) g) : Nat) : Int) := lN_I (by omega)
        have hcx : (lN (lU w q g)).toInt = ((lU w q g : Nat) : Int) := lN_I (by omega)
        have hcu : (lN (u - natS (lU w q) g)).toInt = ((u - natS (lU w q) g : Nat) : Int) := lN_I (by omega)
        have y1 : (lC w q g).toInt * ((lU w q g : Nat) : Int) ≤ 1536000000000 * 5120000 := by
          rcases Int.lt_or_le (lC w q g).toInt 0 with y | y
          · have : (lC w q g).toInt * ((lU w q g : Nat) : Int) ≤ 0 := Int.mul_nonpos_of_nonpos_of_nonneg (Int.le_of_lt y) (Int.natCast_nonneg _)
            exact Int.le_trans this (by decide)
          · exact Int.mul_le_mul (by show (w (420 + 83 * q + 2 * g)).toInt ≤ _; omega) (by omega) (by omega) (by decide)
        have y2 : -(lC w q g).toInt * ((lU w q g : Nat) : Int) ≤ 1536000000000 * 5120000 := by
          rcases Int.lt_or_le (lC w q g).toInt 0 with y | y
          · exact Int.mul_le_mul (by show -(w (420 + 83 * q + 2 * g)).toInt ≤ _; omega) (by omega) (by omega) (by decide)
          · have : -(lC w q g).toInt * ((lU w q g : Nat) : Int) ≤ 0 := Int.mul_nonpos_of_nonpos_of_nonneg (by omega) (Int.natCast_nonneg _)
            exact Int.le_trans this (by decide)
        obtain ⟨x, hx, xp, xn, -⟩ := cutS (A := lC w q g) rfl hcu hcx (by omega) (by omega) (by omega) (by omega) (by omega)
        rw [q2] at hx
        have lb := i64_le (lC w q g)
        have ls : (lC w q g - slP w q k' u g).toInt = (lC w q g).toInt - x := by
          refine g_sub rfl hx ?_
          rcases Int.lt_or_le (lC w q g).toInt 0 with y | y
          · have := xn (by omega); omega
          · have := xp y; omega
        have lw : (lC w q g).toInt = (w (420 + 83 * q + 2 * g)).toInt := rfl
        rw [hlt, ls, lw]
        rw [lw] at xp xn
        refine ⟨by omega, by omega, ?_, ?_⟩
        · rcases Int.lt_or_le (w (420 + 83 * q + 2 * g)).toInt 0 with y | y
          · have := xn (by omega); omega
          · have := xp y; omega
        · rcases Int.lt_or_le (w (420 + 83 * q + 2 * g)).toInt 0 with y | y
          · have := xn (by omega); omega
          · have := xp y; omega
      · rw [if_neg y, if_neg y]
        exact ⟨x1, by omega, by omega, by omega⟩
    · unfold slW
      rw [if_neg (by omega), if_neg (by omega), if_pos (by omega), if_neg (by omega), if_neg (by omega), if_neg (by omega), if_pos (by omega), if_neg (by omega)]
      exact ⟨rfl, rfl⟩
  · refine ⟨k', g1', (o _ (by omega) (by omega)).trans g2, fun y => g3 ((o 2 (by omega) (by omega)).symm.trans y), fun i hi => ?_, fun i x y => ?_⟩
    · obtain ⟨x1, x2, x3, x4⟩ := g4 i hi
      unfold lyO
      rw [o _ (by omega) (by omega), o (420 + 83 * q + 2 * i) (by omega) (by omega)]
      exact ⟨x1, by omega, by omega, by omega⟩
    · rw [o _ (by omega) (by omega), o (420 + 83 * q + 2 * i) (by omega) (by omega)]
      exact g5 i x y
/-! ===== a row that nothing was done to ===== -/
theorem iS_z : ∀ n, iS (fun _ => 0) n = 0
  | 0 => rfl
  | n + 1 => by
    show iS (fun _ => 0) n + 0 = 0
    rw [iS_z n]; rfl
theorem new_WI {w : Nat → Int64} {t n m : Nat} (hf : WFt w n m) (hwh : pWhl w n m) (z : ∀ i, zP i → w i = 0) : WI w t := by
  have n5 := hf.1
  have m4 := hf.2.1
  have o : ∀ i, 66 ≤ i → w i = 0 := fun i hi => z i (Or.inr (Or.inr hi))
  have rz : ∀ i B, w i = 0 → rg w i B := fun i B h => ⟨0, Nat.zero_le _, h⟩
  have m0 : 0 < m := by
    obtain ⟨-, -, p, hp, -⟩ := hwh
    omega
  have eU : unI w n = 0 := by
    unfold unI
    rw [z 4 (Or.inr (Or.inl rfl)), L0, iS_c (g := fun _ => 0) (fun d hd => by unfold opI; rw [o _ (by omega), L0])]
    rw [iS_z]; rfl
  have eC : ceI w n = 0 := by
    unfold ceI
    rw [iS_c (g := fun _ => 0) (fun d hd => by unfold inC; rw [o _ (by omega), o (103 + 6 * d + 1) (by omega), o (103 + 6 * d + 2) (by omega), o (103 + 6 * d + 3) (by omega), o (66 + 7 * d + 1) (by omega), o (66 + 7 * d + 2) (by omega), o (66 + 7 * d + 3) (by omega), L0]; rfl)]
    exact iS_z n
  refine ⟨n, m, hf, hwh, m0, rz _ _ (z 3 (Or.inl rfl)), rz _ _ (z 4 (Or.inr (Or.inl rfl))), fun d hd => ⟨⟨⟨o _ (by omega), fun j x y => rz _ _ (o _ (by omega)), rz _ _ (o _ (by omega)), rz _ _ (o _ (by omega)), rz _ _ (o _ (by omega))⟩, ⟨rz _ _ (o _ (by omega)), rz _ _ (o _ (by omega)), fun j x => rz _ _ (o _ (by omega))⟩, rz _ _ (o _ (by omega)), rz _ _ (o _ (by omega)), rz _ _ (o _ (by omega)), rz _ _ (o _ (by omega)), rz _ _ (o _ (by omega)), rz _ _ (o _ (by omega))⟩, fun k hk => by rw [o _ (by omega), L0]; exact Int.le_refl _, fun k x y => by rw [o _ (by omega), L0]; exact Int.le_refl _⟩, fun p hp => ⟨0, by omega, o _ (by omega), fun _ => by omega, fun i hi => absurd hi (by omega), fun i x y => ⟨o _ (by omega), o _ (by omega)⟩⟩, by omega, by omega⟩
theorem w00_z (i : Nat) (h : zP i) : w00 i = 0 := by
  unfold zP at h
  exact if_neg (by omega)
theorem text_WI {sg : Nat → Int32} {len t n m : Nat} {wn : Nat → Int64} (h : rT sg len = .inr wn) (hf : WFt wn n m) (hw : pWhl wn n m) : WI wn t := by
  have hg : ∀ i, len ≤ i → gT sg len i < 0 := fun i hi => by
    unfold gT; rw [if_neg (by omega)]; decide
  exact new_WI hf hw (fun i hi => ((pAll_ok hg 400 0 0 0 false w00 wn (Nat.zero_le _) w00_wf h).2 i hi).trans (w00_z i hi))
