/-! ===== the tape: ways, ends; what a text says ===== -/
theorem mtc_len {g : Nat → Int32} {len a i : Nat} (hi : i < 16) (hal : a ≤ len) (hg : ∀ k, len ≤ k → g k < 0) (h : mtc g a i) : a + (strB i).length ≤ len := by
  have := (mtc_iff hi hal hg).mp h
  rw [← this.1]
  exact (rend_le hal).2
set_option maxHeartbeats 1000000 in
theorem e_readWay {g : Nat → Int32} {len a : Nat} (S : Mem) (hg : tg S g len) (ha : S.1 121 3 = nI a) (hal : a ≤ len) {Qr : QR} {Qx : QX}
    (h1 : ∀ (v : Int32) (a' : Nat), (mtc g (rend isBl g len a) 6 ∧ v = 0 ∧ a' = rend isBl g len a + 5) ∨ (¬ mtc g (rend isBl g len a) 6 ∧ mtc g (rend isBl g len a) 7 ∧ v = 1 ∧ a' = rend isBl g len a + 7) → a' ≤ len → ∀ S', TS [3, 4, 5] S S' → S'.1 121 3 = nI a' → S'.1 121 5 = v → Qr (some (.int 1)) S')
    (h0 : ¬ mtc g (rend isBl g len a) 6 → ¬ mtc g (rend isBl g len a) 7 → ∀ S', TS [3, 4, 7, 8] S S' → S'.1 121 7 = 1 → S'.1 121 8 = nI (rend isBl g len a) → Qr (some (.int 0)) S') : vsp 156 8 (sX8_readWay 156) [.ref 121] S Qr Qx := by
  have rl := rend_le (P := isBl) (g := g) hal
  refine ⟨t8, runG rfl 80 ⟨⟨Nat.le_of_ble_eq_true rfl, Nat.le_of_ble_eq_true rfl, Nat.le_of_ble_eq_true rfl⟩, e_readWord S hg ha hal (fun T ht h4 h3 => ?_)⟩⟩
  have gT := ht.tg (by decide) hg
  refine ⟨⟨Nat.le_of_ble_eq_true rfl, Nat.le_of_ble_eq_true rfl, Nat.le_of_ble_eq_true rfl⟩, e_isWord (i := 6) (by decide) T gT rl.2 h4 h3 (fun m e => ?_) (fun m => ?_)⟩
  · refine And.intro (fun x => absurd x (by decide)) (fun _ => ⟨t8, Or.inr rfl, h1 0 _ (Or.inl ⟨m, rfl, rfl⟩) (mtc_len (by decide) rl.2 gT.2.2.2 m) _ ((TS_u2 ht 5 0).w (by decide)) ((m_o T 0 (show 3 ≠ 5 by decide)).trans ?_) (m_s T 5 0)⟩)
    rw [h3, e]; rfl
  · refine And.intro (fun _ => ⟨⟨Nat.le_of_ble_eq_true rfl, Nat.le_of_ble_eq_true rfl, Nat.le_of_ble_eq_true rfl⟩, e_isWord (i := 7) (by decide) T gT rl.2 h4 h3 (fun m' e => ?_) (fun m' => ?_)⟩) (fun x => absurd rfl x)
    · refine And.intro (fun x => absurd x (by decide)) (fun _ => ⟨t8, Or.inr rfl, h1 1 _ (Or.inr ⟨m, m', rfl, rfl⟩) (mtc_len (by decide) rl.2 gT.2.2.2 m') _ ((TS_u2 ht 5 1).w (by decide)) ((m_o T 1 (show 3 ≠ 5 by decide)).trans ?_) (m_s T 5 1)⟩)
      rw [h3, e]; rfl
    · exact And.intro (fun _ => ⟨t8, ⟨Nat.le_of_ble_eq_true rfl, Nat.le_of_ble_eq_true rfl, Nat.le_of_ble_eq_true rfl⟩, e_refuse 1 _ T (fun T' ht' e7 e8 => ⟨Or.inl rfl, h0 m m' T' ((ht.trans ht').w (by decide)) e7 (e8.trans h4)⟩)⟩) (fun x => absurd rfl x)
theorem e_readEnd {g : Nat → Int32} {len a : Nat} (S : Mem) (hg : tg S g len) (ha : S.1 121 3 = nI a) (hal : a ≤ len) {Qr : QR} {Qx : QX}
    (h1 : g (rend isBl g len a) = 59 → rend isBl g len a < len → ∀ S', TS [3] S S' → S'.1 121 3 = nI (rend isBl g len a + 1) → Qr (some (.int 1)) S')
    (h0 : ¬ g (rend isBl g len a) = 59 → ∀ S', TS [3, 7, 8] S S' → S'.1 121 7 = 1 → S'.1 121 8 = nI (rend isBl g len a) → Qr (some (.int 0)) S') : vsp 156 8 (sX8_readEnd 156) [.ref 121] S Qr Qx := by
  have l4 := hg.2.1
  have rl := rend_le (P := isBl) (g := g) hal
  refine ⟨t8, runG rfl 60 ⟨⟨Nat.le_of_ble_eq_true rfl, Nat.le_of_ble_eq_true rfl, Nat.le_of_ble_eq_true rfl⟩, e_atEnd S hg ha hal (fun T ht h3 => ?_)⟩⟩
  have gT := ht.tg (by decide) hg
  by_cases y : rend isBl g len a < len
  · rw [if_pos y]
    have v : vp_in (T.1 121 3) 400 := by rw [h3]; exact vp_nI (by omega)
    have cl : (T.1 121 3).toNatClampNeg = rend isBl g len a := by rw [h3]; exact nI_clamp (by omega)
    refine And.intro (fun x => absurd rfl x) (fun _ => ⟨t8, t8, 400, t9, v, And.intro (fun x => ?_) (fun x => ?_)⟩)
    · have x : T.1 122 (T.1 121 3).toNatClampNeg = 59 := x
      rw [cl, gT.eq y (by decide)] at x
      refine ⟨t8, t8, Or.inr rfl, h1 x y _ ((TS_u2 ht 3 _).w (by decide)) ((m_s T 3 _).trans ?_)⟩
      rw [h3, nI_1]
    · have x : ¬ T.1 122 (T.1 121 3).toNatClampNeg = 59 := x
      rw [cl, gT.eq y (by decide)] at x
      exact ⟨t8, ⟨Nat.le_of_ble_eq_true rfl, Nat.le_of_ble_eq_true rfl, Nat.le_of_ble_eq_true rfl⟩, e_refuse 1 _ T (fun T' ht' e7 e8 => ⟨Or.inl rfl, h0 x T' ((ht.trans ht').w (by decide)) e7 (e8.trans h3)⟩)⟩
  · rw [if_neg y]
    have x : ¬ g (rend isBl g len a) = 59 := fun e => absurd (e ▸ hg.2.2.2 (rend isBl g len a) (by omega)) (by decide)
    exact And.intro (fun _ => ⟨t8, ⟨Nat.le_of_ble_eq_true rfl, Nat.le_of_ble_eq_true rfl, Nat.le_of_ble_eq_true rfl⟩, e_refuse 1 _ T (fun T' ht' e7 e8 => ⟨Or.inl rfl, h0 x T' ((ht.trans ht').w (by decide)) e7 (e8.trans h3)⟩)⟩) (fun x => absurd x (by decide))
/-- what is read: a fault with its place, or where to go on and the row -/
abbrev RR : Type := (Int32 × Nat) ⊕ (Nat × (Nat → Int64))
def pNum (g : Nat → Int32) (len a : Nat) (lo hi : Int32) (k : Nat → Nat → RR) : RR := bif isDi (g (rend isBl g len a)) then (if nI (nuV g len a) < lo ∨ ¬ nI (nuV g len a) ≤ hi then .inl (2, rend isBl g len a) else k (nuE g len a) (nuV g len a)) else .inl (1, rend isBl g len a)
def pWay (g : Nat → Int32) (len a : Nat) (k : Nat → Int64 → RR) : RR := if mtc g (rend isBl g len a) 6 then k (rend isBl g len a + 5) 0 else if mtc g (rend isBl g len a) 7 then k (rend isBl g len a + 7) 1 else .inl (1, rend isBl g len a)
theorem pNum_ok {g : Nat → Int32} {len a : Nat} {lo hi : Int32} {k : Nat → Nat → RR} (h : nuOk g len a lo hi) : pNum g len a lo hi k = k (nuE g len a) (nuV g len a) := by
  unfold pNum
  rw [h.1, if_neg (fun x => x.elim h.2.1 (fun y => y h.2.2))]
  rfl
theorem pNum_no {g : Nat → Int32} {len a : Nat} {lo hi : Int32} {k : Nat → Nat → RR} {S' : Mem} (h : (isDi (g (rend isBl g len a)) = false ∧ S'.1 121 7 = 1 ∧ S'.1 121 8 = nI (rend isBl g len a)) ∨ (isDi (g (rend isBl g len a)) = true ∧ (nI (nuV g len a) < lo ∨ ¬ nI (nuV g len a) ≤ hi) ∧ S'.1 121 7 = 2 ∧ S'.1 121 8 = nI (rend isBl g len a))) : ∃ r, pNum g len a lo hi k = .inl (r, rend isBl g len a) ∧ S'.1 121 7 = r ∧ S'.1 121 8 = nI (rend isBl g len a) := by
  unfold pNum
  rcases h with ⟨a1, a2, a3⟩ | ⟨a1, a2, a3, a4⟩
  · exact ⟨1, by rw [a1]; rfl, a2, a3⟩
  · exact ⟨2, by rw [a1, if_pos a2]; rfl, a3, a4⟩
theorem nu_len {g : Nat → Int32} {len a : Nat} (hal : a ≤ len) : nuE g len a ≤ len := (rend_le (rend_le hal).2).2
/-- a number that is read is small, if there is a bound -/
theorem nuOk.le {g : Nat → Int32} {len a b : Nat} {lo : Int32} (h : nuOk g len a lo (nI b)) (hb : b < 2 ^ 31) : nuV g len a ≤ b := (nI_leI (by have : nuV g len a ≤ 100000 := dgo_le _ _ _ (by decide); omega) hb).mp h.2.2
theorem nuOk.ge {g : Nat → Int32} {len a b : Nat} {hi : Int32} (h : nuOk g len a (nI b) hi) (hb : b < 2 ^ 31) : b ≤ nuV g len a := by
  rcases Nat.lt_or_ge (nuV g len a) b with x | x
  · exact absurd (nI_lt x hb) h.2.1
  · exact x
def u1L (w : Nat → Int64) (i : Nat) (v : Int64) : Nat → Int64 := fun j => if j = i then v else w j
/-- the row with department d as it is told -/
def wDep (w : Nat → Int64) (d : Nat) (wy : Int64) (pt rt sc : Nat) (bt bs : Int64) : Nat → Int64 := fun i => if i = 5 + 9 * d then wy else if i = 5 + 9 * d + 1 then lN pt else if i = 5 + 9 * d + 2 then lN rt else if i = 5 + 9 * d + 3 then lN sc else if i = 5 + 9 * d + 4 then 0 else if i = 5 + 9 * d + 5 ∨ i = 5 + 9 * d + 6 then -1 else if i = 5 + 9 * d + 7 then bt else if i = 5 + 9 * d + 8 then bs else w i
/-- one more of those that place i counts -/
def w1 (w : Nat → Int64) (i : Nat) : Nat → Int64 := u1L w i (w i + 1)
def pDep (g : Nat → Int32) (len f a d : Nat) (w : Nat → Int64) : RR := if d = 5 then .inl (3, f) else
  pWay g len a fun a wy => pNum g len a 0 100 fun a pt => pNum g len a 0 50 fun a rt => pNum g len a 0 999 fun a sc =>
  if mtc g (rend isBl g len a) 4 then pNum g len (rend isBl g len a + 4) 0 (nI d) fun a bt => pNum g len a 1 90 fun a bs => .inr (a, w1 (wDep w d wy pt rt sc (lN bt) (lN bs)) 0)
  else .inr (rend isBl g len a, w1 (wDep w d wy pt rt sc (-1) (-1)) 0)
def pMat (g : Nat → Int32) (len f a n : Nat) (w : Nat → Int64) : RR := pNum g len a 0 (nI n - 1) fun a d => if w (5 + 9 * d + 4) = 2 then .inl (3, f) else pNum g len a 0 100 fun a far => .inr (a, w1 (u1L w (5 + 9 * d + 5 + (w (5 + 9 * d + 4)).toNatClampNeg) (lN far)) (5 + 9 * d + 4))
def pPro (g : Nat → Int32) (len f a p : Nat) (w : Nat → Int64) : RR := if p = 4 then .inl (3, f) else
  pNum g len a 1 100 fun a sh => pNum g len a 0 9999 fun a pr => pNum g len a 0 9999 fun a co =>
  if mtc g (rend isBl g len a) 5 then .inr (rend isBl g len a + 2, w1 (u1L (u1L (u1L (u1L w (50 + 4 * p) (lN sh)) (50 + 4 * p + 1) (lN pr)) (50 + 4 * p + 2) (lN co)) (50 + 4 * p + 3) 1) 1)
  else .inr (rend isBl g len a, w1 (u1L (u1L (u1L (u1L w (50 + 4 * p) (lN sh)) (50 + 4 * p + 1) (lN pr)) (50 + 4 * p + 2) (lN co)) (50 + 4 * p + 3) 0) 1)
def pSto (g : Nat → Int32) (len a : Nat) (w : Nat → Int64) : RR := pWay g len a fun a wy => .inr (a, u1L w 2 wy)
