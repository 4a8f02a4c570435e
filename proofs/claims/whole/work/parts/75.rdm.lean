/-! ===== readMaterial, readProduct, readBy, readStore ===== -/
/-- what a faulty reading leaves -/
def FRX (S S' : Mem) : Prop := (∀ c, c = 0 ∨ (101 ≤ c ∧ c ≠ 121) → S'.1 c = S.1 c ∧ S'.2 c = S.2 c) ∧ ∀ j, j < 3 → S'.1 121 j = S.1 121 j
theorem FRX.trans {S T U : Mem} (h : FRX S T) (k : FRX T U) : FRX S U := ⟨fun c x => ⟨(k.1 c x).1.trans (h.1 c x).1, (k.1 c x).2.trans (h.1 c x).2⟩, fun j x => (k.2 j x).trans (h.2 j x)⟩
theorem DX.x {k : Nat} {S S' : Mem} (h : DX k S S') (hk : k < 101) (hk0 : 0 < k) : FRX S S' := ⟨fun c x => ⟨h.2.1 c (by omega) (by omega) (by omega), by rw [h.1]⟩, fun j x => h.2.2 j (by simp; omega)⟩
theorem TS.x {J : List Nat} {S S' : Mem} (h : TS J S S') (hJ : ∀ j, j ∈ J → 3 ≤ j) : FRX S S' := ⟨fun c x => ⟨h.2.1 c (by omega), by rw [h.1]⟩, fun j x => h.2.2 j (fun y => absurd (hJ j y) (by omega))⟩
theorem lN_clamp {m : Nat} (h : m < 2 ^ 31) : (lN m).toNatClampNeg = m := by
  show (lN m).toInt.toNat = m
  rw [lN_toInt h]
  rfl
set_option maxHeartbeats 2000000 in
theorem e_readMaterial {g : Nat → Int32} {len f a n : Nat} (hn5 : n ≤ 5) (S : Mem) (hg : tg S g len) (ha : S.1 121 3 = nI a) (hal : a ≤ len) (hf : S.1 121 4 = nI f) (hn : S.1 1 2 = nI n) (w : Nat → Int64) (hm : ∀ d, d < n → ∃ m, m ≤ 2 ∧ S.1 (4 + 17 * d) 4 = nI m ∧ w (5 + 9 * d + 4) = lN m) {Qr : QR} {Qx : QX}
    (h1 : ∀ d m far a' T, d < n → m < 2 → S.1 (4 + 17 * d) 4 = nI m → far ≤ 100000 → a' ≤ len → pMat g len f a n w = .inr (a', w1 (u1L w (5 + 9 * d + 5 + m) (lN far)) (5 + 9 * d + 4)) → TS [3, 5] S T → T.1 121 3 = nI a' → Qr (some (.int 1)) (u2 T.1 (4 + 17 * d) 4 (nI (m + 1)), u2 T.2 (5 + 17 * d) m (lN far)))
    (h0 : ∀ S', TS [3, 5, 7, 8] S S' → fltR S' (pMat g len f a n w) → Qr (some (.int 0)) S') : vsp 156 8 (sX8_readMaterial 156) [.ref 121, .ref 1] S Qr Qx := by
  have t1 : tyN 156 1 = (0, 1, 0, 0) := rfl
  have t2 : tyN 156 2 = (4, 5, 4, 17) := rfl
  refine ⟨t8, runG rfl 120 ⟨t8, t1, ⟨Nat.le_of_ble_eq_true rfl, Nat.le_of_ble_eq_true rfl, Nat.le_of_ble_eq_true rfl⟩, ?_⟩⟩
  show vsp 156 8 (sX8_readNumber 156) [.ref 121, .int 0, .int (S.1 1 2 - 1)] S _ _
  have pm : pMat g len f a n w = pNum g len a 0 (S.1 1 2 - 1) fun a d => if w (5 + 9 * d + 4) = 2 then .inl (3, f) else pNum g len a 0 100 fun a far => .inr (a, w1 (u1L w (5 + 9 * d + 5 + (w (5 + 9 * d + 4)).toNatClampNeg) (lN far)) (5 + 9 * d + 4)) := by rw [hn]; rfl
  refine e_readNumber 0 (S.1 1 2 - 1) S hg ha hal (fun ok T tT T3 T5 => ?_) (fun T tT tf => ?_)
  · have v5 : nuV g len a ≤ 100000 := dgo_le _ _ _ (by decide)
    have hd : nuV g len a < n := by
      have := ok.2.2
      rw [hn] at this
      rcases Nat.eq_zero_or_pos n with e | e
      · subst e
        exact absurd this (neg_le (nI_pos (by omega)) (by decide))
      · rw [nI_pr e] at this
        have := (nI_leI (by omega) (by omega)).mp this
        omega
    obtain ⟨m, m2, em, ew⟩ := hm _ hd
    have cl : (T.1 121 5).toNatClampNeg = nuV g len a := by rw [T5]; exact nI_clamp (by omega)
    have hk' : (4 + 17 * (T.1 121 5).toNatClampNeg) = 4 + 17 * nuV g len a := by rw [cl]
    have hk0 : isDepN 156 (4 + 17 * (T.1 121 5).toNatClampNeg) := by rw [hk']; exact depN (by decide) (by omega)
    have tk : T.1 (4 + 17 * (T.1 121 5).toNatClampNeg) 4 = nI m := by rw [hk', tT.2.1 _ (by omega)]; exact em
    have gT := tT.tg (by decide) hg
    have l1 := nu_len (g := g) hal
    refine And.intro (fun _ => ⟨t1, t8, 0, 5, 4, 17, t2, by decide, by rw [T5]; exact vp_nI (by omega), hk0.1, And.intro (fun x => ?_) (fun x => ?_)⟩) (fun x => absurd x (by decide))
    · have x : T.1 (4 + 17 * (T.1 121 5).toNatClampNeg) 4 < nI 2 := x
      rw [tk] at x
      have m1 := (nI_ltI (by omega) (by decide)).mp x
      have nw : ¬ w (5 + 9 * nuV g len a + 4) = 2 := fun e => by
        rw [ew] at e
        have := (lN_eq (b := 2) (by omega) (by decide)).mp e
        omega
      refine ⟨⟨Nat.le_of_ble_eq_true rfl, Nat.le_of_ble_eq_true rfl, Nat.le_of_ble_eq_true rfl⟩, e_readNumber 0 100 T gT T3 l1 (fun ok2 U tU U3 U5 => ?_) (fun U tU uf => ?_)⟩
      · have uk : U.1 (4 + 17 * (T.1 121 5).toNatClampNeg) 4 = nI m := by rw [tU.2.1 _ (by rw [hk']; omega)]; exact tk
        have cm : (U.1 (4 + 17 * (T.1 121 5).toNatClampNeg) 4).toNatClampNeg = m := by rw [uk]; exact nI_clamp (by omega)
        refine And.intro (fun _ => ⟨hk0.1, hk0.1, t8, 2, hk0.2.1, by rw [uk]; exact vp_nI (by omega), hk0.1, hk0.1, Or.inr rfl, ?_⟩) (fun x => absurd x (by decide))
        show Qr (some (.int 1)) (u2 U.1 (4 + 17 * (T.1 121 5).toNatClampNeg) 4 (U.1 (4 + 17 * (T.1 121 5).toNatClampNeg) 4 + 1), u2 U.2 ((4 + 17 * (T.1 121 5).toNatClampNeg) + 1) (U.1 (4 + 17 * (T.1 121 5).toNatClampNeg) 4).toNatClampNeg (U.1 121 5).toInt64)
        rw [cm, uk, nI_1, hk', U5, nI_l (by have : nuV g len (nuE g len a) ≤ 100000 := dgo_le _ _ _ (by decide); omega), show 4 + 17 * nuV g len a + 1 = 5 + 17 * nuV g len a by omega]
        refine h1 (nuV g len a) m (nuV g len (nuE g len a)) (nuE g len (nuE g len a)) U hd m1 em (dgo_le _ _ _ (by decide)) (nu_len l1) ?_ ((tT.trans tU).w (by decide)) U3
        rw [pm, pNum_ok ok, if_neg nw, pNum_ok ok2, ew, lN_clamp (by omega)]
      · refine And.intro (fun x => absurd rfl x) (fun _ => ⟨Or.inl rfl, h0 U ((tT.trans tU).w (by decide)) ?_⟩)
        rw [pm, pNum_ok ok, if_neg nw]
        exact num_flt uf
    · have x : ¬ T.1 (4 + 17 * (T.1 121 5).toNatClampNeg) 4 < nI 2 := x
      rw [tk] at x
      have m1 : m = 2 := by
        rcases Nat.lt_or_ge m 2 with y | y
        · exact absurd (nI_lt y (by decide)) x
        · omega
      have nw : w (5 + 9 * nuV g len a + 4) = 2 := by rw [ew, m1]; rfl
      refine ⟨⟨Nat.le_of_ble_eq_true rfl, Nat.le_of_ble_eq_true rfl, Nat.le_of_ble_eq_true rfl⟩, e_refuse 3 _ T (fun T' ht' e7 e8 => ⟨Or.inl rfl, h0 T' ((tT.trans ht').w (by decide)) ⟨3, f, ?_, e7, e8.trans hf⟩⟩)⟩
      rw [pm, pNum_ok ok, if_pos nw]
  · refine And.intro (fun x => absurd rfl x) (fun _ => ⟨Or.inl rfl, h0 T tT ?_⟩)
    rw [pm]
    exact num_flt tf
theorem e_readBy {g : Nat → Int32} {len a k : Nat} (hk : tyN 156 k = (0, 6, 0, 0)) (hk2 : k ≠ 121) (S : Mem) (hg : tg S g len) (ha : S.1 121 3 = nI a) (hal : a ≤ len) {Qr : QR} {Qx : QX}
    (h1 : mtc g (rend isBl g len a) 5 → ∀ T, TS [3, 4] S T → T.1 121 3 = nI (rend isBl g len a + 2) → Qr (some (.int 1)) (u2 T.1 k 3 1, T.2))
    (h0 : ¬ mtc g (rend isBl g len a) 5 → ∀ S', TS [3, 4, 7, 8] S S' → S'.1 121 7 = 1 → S'.1 121 8 = nI (rend isBl g len a) → Qr (some (.int 0)) S') : vsp 156 8 (sX8_readBy 156) [.ref 121, .ref k] S Qr Qx := by
  have rl := rend_le (P := isBl) (g := g) hal
  refine ⟨t8, runG rfl 80 ⟨⟨Nat.le_of_ble_eq_true rfl, Nat.le_of_ble_eq_true rfl, Nat.le_of_ble_eq_true rfl⟩, e_readWord S hg ha hal (fun T ht h4 h3 => ?_)⟩⟩
  have gT := ht.tg (by decide) hg
  refine ⟨⟨Nat.le_of_ble_eq_true rfl, Nat.le_of_ble_eq_true rfl, Nat.le_of_ble_eq_true rfl⟩, e_isWord (i := 5) (by decide) T gT rl.2 h4 h3 (fun m e => ?_) (fun m => ?_)⟩
  · have h3' : T.1 121 3 = nI (rend isBl g len a + 2) := by rw [h3, e]; rfl
    exact And.intro (fun _ => ⟨hk, Or.inr rfl, h1 m T ht h3'⟩) (fun x => absurd x (by decide))
  · exact And.intro (fun x => absurd rfl x) (fun _ => ⟨t8, ⟨Nat.le_of_ble_eq_true rfl, Nat.le_of_ble_eq_true rfl, Nat.le_of_ble_eq_true rfl⟩, e_refuse 1 _ T (fun T' ht' e7 e8 => ⟨Or.inl rfl, h0 m T' ((ht.trans ht').w (by decide)) e7 (e8.trans h4)⟩)⟩)
theorem e_readStore {g : Nat → Int32} {len a : Nat} (S : Mem) (hg : tg S g len) (ha : S.1 121 3 = nI a) (hal : a ≤ len) (w : Nat → Int64) {Qr : QR} {Qx : QX}
    (h1 : ∀ (v : Int32) a' T, (v = 0 ∨ v = 1) → a' ≤ len → pSto g len a w = .inr (a', u1L w 2 v.toInt64) → TS [3, 4, 5, 6] S T → T.1 121 3 = nI a' → T.1 121 6 = 1 → Qr (some (.int 1)) (u2 T.1 1 4 v, T.2))
    (h0 : ∀ S', TS [3, 4, 6, 7, 8] S S' → fltR S' (pSto g len a w) → Qr (some (.int 0)) S') : vsp 156 8 (sX8_readStore 156) [.ref 121, .ref 1] S Qr Qx := by
  have t1 : tyN 156 1 = (0, 1, 0, 0) := rfl
  have ts : TS [6] S (u2 S.1 121 6 1, S.2) := TS_u2 TS.re 6 1
  refine ⟨t8, runG rfl 80 ⟨t8, Or.inr rfl, ⟨Nat.le_of_ble_eq_true rfl, Nat.le_of_ble_eq_true rfl, Nat.le_of_ble_eq_true rfl⟩, e_readWay (u2 S.1 121 6 1, S.2) (ts.tg (by decide) hg) ((m_o S 1 (show 3 ≠ 6 by decide)).trans ha) hal (fun v a' hw la T tT T3 T5 => ?_) (fun m6 m7 T tT e7 e8 => ?_)⟩⟩
  · have v01 : v = 0 ∨ v = 1 := by rcases hw with ⟨-, e, -⟩ | ⟨-, -, e, -⟩ <;> simp [e]
    refine And.intro (fun _ => ⟨t8, t1, Or.inr rfl, ?_⟩) (fun x => absurd x (by decide))
    show Qr (some (.int 1)) (u2 T.1 1 4 (T.1 121 5), T.2)
    rw [T5]
    refine h1 v a' T v01 la ?_ ((ts.trans tT).w (by decide)) T3 ((tT.2.2 6 (by decide)).trans (m_s S 6 1))
    unfold pSto pWay
    rcases hw with ⟨m, e, e'⟩ | ⟨m, m', e, e'⟩
    · rw [if_pos m, e, e']; rfl
    · rw [if_neg m, if_pos m', e, e']; rfl
  · refine And.intro (fun x => absurd rfl x) (fun _ => ⟨Or.inl rfl, h0 T ((ts.trans tT).w (by decide)) ⟨1, _, ?_, e7, e8⟩⟩)
    unfold pSto pWay
    rw [if_neg m6, if_neg m7]
set_option maxHeartbeats 4000000 in
theorem e_readProduct {g : Nat → Int32} {len f a p : Nat} (hp : p ≤ 4) (S : Mem) (hg : tg S g len) (ha : S.1 121 3 = nI a) (hal : a ≤ len) (hf : S.1 121 4 = nI f) (hn : S.1 1 3 = nI p) (w : Nat → Int64) {Qr : QR} {Qx : QX}
    (h1 : p < 4 → ∀ a' sh pr co S', a' ≤ len → S'.1 121 3 = nI a' → DS (89 + 3 * p) S S' → S'.1 1 = u1 (S.1 1) 3 (nI (p + 1)) → sh ≤ 100000 → pr ≤ 100000 → co ≤ 100000 →
      (pPro g len f a p w = .inr (a', w1 (u1L (u1L (u1L (u1L w (50 + 4 * p) (lN sh)) (50 + 4 * p + 1) (lN pr)) (50 + 4 * p + 2) (lN co)) (50 + 4 * p + 3) 0) 1) ∧ S'.1 (89 + 3 * p) = u1 (u1 (u1 (S.1 (89 + 3 * p)) 0 (nI sh)) 1 (nI pr)) 2 (nI co)) ∨ (pPro g len f a p w = .inr (a', w1 (u1L (u1L (u1L (u1L w (50 + 4 * p) (lN sh)) (50 + 4 * p + 1) (lN pr)) (50 + 4 * p + 2) (lN co)) (50 + 4 * p + 3) 1) 1) ∧ S'.1 (89 + 3 * p) = u1 (u1 (u1 (u1 (S.1 (89 + 3 * p)) 0 (nI sh)) 1 (nI pr)) 2 (nI co)) 3 1) → Qr (some (.int 1)) S')
    (h0 : ∀ S', FRX S S' → fltR S' (pPro g len f a p w) → Qr (some (.int 0)) S')
    (hl : ∀ a' w' S', FRX S S' → pPro g len f a p w = .inr (a', w') → isLe (g a') = true → S'.1 121 7 = 1 → S'.1 121 8 = nI a' → Qr (some (.int 0)) S') : vsp 156 8 (sX8_readProduct 156) [.ref 121, .ref 1] S Qr Qx := by
  have t1 : tyN 156 1 = (0, 1, 0, 0) := rfl
  have t3 : tyN 156 3 = (5, 4, 89, 3) := rfl
  refine ⟨t8, runG rfl 120 ⟨t1, And.intro (fun x => ?_) (fun x => ?_)⟩⟩
  · have x : S.1 1 3 < nI 4 := x
    rw [hn] at x
    have hp4 : p < 4 := (nI_ltI (by omega) (by decide)).mp x
    have hcl : (S.1 1 3).toNatClampNeg = p := by rw [hn]; exact nI_clamp (by omega)
    have v4 : vp_in (S.1 1 3) 4 := by rw [hn]; exact vp_nI hp4
    have hk' : (89 + 3 * (S.1 1 3).toNatClampNeg) = 89 + 3 * p := by rw [hcl]
    have hk : tyN 156 (89 + 3 * (S.1 1 3).toNatClampNeg) = (0, 6, 0, 0) := by rw [hk']; exact (proN (by decide) hp4).1
    have pd : pPro g len f a p w = pNum g len a 1 100 fun a sh => pNum g len a 0 9999 fun a pr => pNum g len a 0 9999 fun a co => if mtc g (rend isBl g len a) 5 then .inr (rend isBl g len a + 2, w1 (u1L (u1L (u1L (u1L w (50 + 4 * p) (lN sh)) (50 + 4 * p + 1) (lN pr)) (50 + 4 * p + 2) (lN co)) (50 + 4 * p + 3) 1) 1) else .inr (rend isBl g len a, w1 (u1L (u1L (u1L (u1L w (50 + 4 * p) (lN sh)) (50 + 4 * p + 1) (lN pr)) (50 + 4 * p + 2) (lN co)) (50 + 4 * p + 3) 0) 1) := if_neg (by omega)
    have k1 : (89 + 3 * (S.1 1 3).toNatClampNeg) ≠ 1 := by omega
    have k2 : (89 + 3 * (S.1 1 3).toNatClampNeg) ≠ 121 := by omega
    have k3 : (89 + 3 * (S.1 1 3).toNatClampNeg) ≠ 122 := by omega
    have u121 : ∀ (T : Mem) (i j : Nat) (v : Int32), (u2 T.1 (89 + 3 * (S.1 1 3).toNatClampNeg) j v, T.2).1 121 i = T.1 121 i := fun T i j v => u2_k T.1 j i v (fun e => k2 e.symm)
    have uk1 : ∀ (T : Mem) (j : Nat) (v : Int32), (u2 T.1 (89 + 3 * (S.1 1 3).toNatClampNeg) j v, T.2).1 1 = T.1 1 := fun T j v => u2_other T.1 j v (fun e => k1 e.symm)
    have ukk : ∀ (T : Mem) (j : Nat) (v : Int32), (u2 T.1 (89 + 3 * (S.1 1 3).toNatClampNeg) j v, T.2).1 (89 + 3 * (S.1 1 3).toNatClampNeg) = u1 (T.1 (89 + 3 * (S.1 1 3).toNatClampNeg)) j v := fun T j v => u2_row T.1 (89 + 3 * (S.1 1 3).toNatClampNeg) j v
    have dA : DS (89 + 3 * (S.1 1 3).toNatClampNeg) S (u2 S.1 1 3 (S.1 1 3 + 1), S.2) := DS.re.hd 3 _
    have eA1 : (u2 S.1 1 3 (S.1 1 3 + 1), S.2).1 1 = u1 (S.1 1) 3 (nI (p + 1)) := (u2_row S.1 1 3 _).trans (by rw [hn, nI_1])
    have eAk : (u2 S.1 1 3 (S.1 1 3 + 1), S.2).1 (89 + 3 * (S.1 1 3).toNatClampNeg) = S.1 (89 + 3 * (S.1 1 3).toNatClampNeg) := u2_other S.1 3 _ k1
    have h0' : ∀ T, DX (89 + 3 * (S.1 1 3).toNatClampNeg) S T → fltR T (pPro g len f a p w) → Qr (some (.int 0)) T := fun T x y => h0 T (x.x (by omega) (by omega)) y
    refine ⟨t1, t1, 1, 4, 89, 3, t3, by decide, v4, t1, t1, ⟨Nat.le_of_ble_eq_true rfl, Nat.le_of_ble_eq_true rfl, Nat.le_of_ble_eq_true rfl⟩, e_readNumber 1 100 (u2 S.1 1 3 (S.1 1 3 + 1), S.2) (dA.tg k3 hg) ((u2_k S.1 3 3 (S.1 1 3 + 1) (show 121 ≠ 1 by decide)).trans ha) hal (fun ok1 T tT T3 T5 => ?_) (fun T tT tf => ?_)⟩
    · have dT := dA.ts tT (by decide)
      have dB := dT.put k2 0 (T.1 121 5)
      have l1 := nu_len (g := g) hal
      have eB1 : (u2 T.1 (89 + 3 * (S.1 1 3).toNatClampNeg) 0 (T.1 121 5), T.2).1 1 = u1 (S.1 1) 3 (nI (p + 1)) := (uk1 T 0 _).trans ((tT.2.1 1 (by decide)).trans eA1)
      have eBk : (u2 T.1 (89 + 3 * (S.1 1 3).toNatClampNeg) 0 (T.1 121 5), T.2).1 (89 + 3 * (S.1 1 3).toNatClampNeg) = u1 (S.1 (89 + 3 * (S.1 1 3).toNatClampNeg)) 0 (nI (nuV g len a)) := (ukk T 0 _).trans (by rw [T5, tT.2.1 (89 + 3 * (S.1 1 3).toNatClampNeg) k2, eAk])
      refine And.intro (fun _ => ⟨t8, hk, ⟨Nat.le_of_ble_eq_true rfl, Nat.le_of_ble_eq_true rfl, Nat.le_of_ble_eq_true rfl⟩, e_readNumber 0 9999 (u2 T.1 (89 + 3 * (S.1 1 3).toNatClampNeg) 0 (T.1 121 5), T.2) (dB.tg k3 hg) ((u121 T 3 0 _).trans T3) l1 (fun ok2 U tU U3 U5 => ?_) (fun U tU uf => ?_)⟩) (fun x => absurd x (by decide))
      · have dU := dB.ts tU (by decide)
        have dC := dU.put k2 1 (U.1 121 5)
        have l2 := nu_len (g := g) l1
        have eC1 : (u2 U.1 (89 + 3 * (S.1 1 3).toNatClampNeg) 1 (U.1 121 5), U.2).1 1 = u1 (S.1 1) 3 (nI (p + 1)) := (uk1 U 1 _).trans ((tU.2.1 1 (by decide)).trans eB1)
        have eCk : (u2 U.1 (89 + 3 * (S.1 1 3).toNatClampNeg) 1 (U.1 121 5), U.2).1 (89 + 3 * (S.1 1 3).toNatClampNeg) = u1 (u1 (S.1 (89 + 3 * (S.1 1 3).toNatClampNeg)) 0 (nI (nuV g len a))) 1 (nI (nuV g len (nuE g len a))) := (ukk U 1 _).trans (by rw [U5, tU.2.1 (89 + 3 * (S.1 1 3).toNatClampNeg) k2, eBk])
        refine And.intro (fun _ => ⟨t8, hk, ⟨Nat.le_of_ble_eq_true rfl, Nat.le_of_ble_eq_true rfl, Nat.le_of_ble_eq_true rfl⟩, e_readNumber 0 9999 (u2 U.1 (89 + 3 * (S.1 1 3).toNatClampNeg) 1 (U.1 121 5), U.2) (dC.tg k3 hg) ((u121 U 3 1 _).trans U3) l2 (fun ok3 V tV V3 V5 => ?_) (fun V tV vf => ?_)⟩) (fun x => absurd x (by decide))
        · have dV := dC.ts tV (by decide)
          have dE := dV.put k2 2 (V.1 121 5)
          have l4 := nu_len (g := g) l2
          have eE1 : (u2 V.1 (89 + 3 * (S.1 1 3).toNatClampNeg) 2 (V.1 121 5), V.2).1 1 = u1 (S.1 1) 3 (nI (p + 1)) := (uk1 V 2 _).trans ((tV.2.1 1 (by decide)).trans eC1)
          have eEk : (u2 V.1 (89 + 3 * (S.1 1 3).toNatClampNeg) 2 (V.1 121 5), V.2).1 (89 + 3 * (S.1 1 3).toNatClampNeg) = u1 (u1 (u1 (S.1 (89 + 3 * (S.1 1 3).toNatClampNeg)) 0 (nI (nuV g len a))) 1 (nI (nuV g len (nuE g len a)))) 2 (nI (nuV g len (nuE g len (nuE g len a)))) := (ukk V 2 _).trans (by rw [V5, tV.2.1 (89 + 3 * (S.1 1 3).toNatClampNeg) k2, eCk])
          have pk : pPro g len f a p w = _ := pd.trans ((pNum_ok ok1).trans ((pNum_ok ok2).trans (pNum_ok ok3)))
          have rl4 := rend_le (P := isBl) (g := g) l4
          refine And.intro (fun _ => ⟨t8, hk, ⟨Nat.le_of_ble_eq_true rfl, Nat.le_of_ble_eq_true rfl, Nat.le_of_ble_eq_true rfl⟩, e_atLetter (u2 V.1 (89 + 3 * (S.1 1 3).toNatClampNeg) 2 (V.1 121 5), V.2) (dE.tg k3 hg) ((u121 V 3 2 _).trans V3) l4 (fun Y tY Y3 => ?_)⟩) (fun x => absurd x (by decide))
          have dY := dE.ts tY (by decide)
          have eY1 : Y.1 1 = u1 (S.1 1) 3 (nI (p + 1)) := (tY.2.1 1 (by decide)).trans eE1
          have eYk := (tY.2.1 (89 + 3 * (S.1 1 3).toNatClampNeg) k2).trans eEk
          have gY := dY.tg k3 hg
          cases hL : isLe (g (rend isBl g len (nuE g len (nuE g len (nuE g len a))))) with
          | false =>
            have nm : ¬ mtc g (rend isBl g len (nuE g len (nuE g len (nuE g len a)))) 5 := fun m => by
              have := strB_le 5 (by decide) 0 (by decide)
              rw [← m.1 0 (by decide), Nat.add_zero, hL] at this
              exact absurd this (by decide)
            refine And.intro (fun _ => ⟨Or.inr rfl, h1 hp4 (rend isBl g len (nuE g len (nuE g len (nuE g len a)))) (nuV g len a) (nuV g len (nuE g len a)) (nuV g len (nuE g len (nuE g len a))) Y rl4.2 Y3 (by rw [← hk']; exact dY) eY1 (dgo_le _ _ _ (by decide)) (dgo_le _ _ _ (by decide)) (dgo_le _ _ _ (by decide)) (Or.inl ⟨?_, by rw [← hk']; exact eYk⟩)⟩) (fun x => absurd rfl x)
            rw [pk, if_neg nm]
          | true =>
            refine And.intro (fun x => absurd x (by decide)) (fun _ => ⟨⟨Nat.le_of_ble_eq_true rfl, Nat.le_of_ble_eq_true rfl, Nat.le_of_ble_eq_true rfl⟩, ?_⟩)
            have idm : rend isBl g len (rend isBl g len (nuE g len (nuE g len (nuE g len a)))) = rend isBl g len (nuE g len (nuE g len (nuE g len a))) := rend_no (fun _ => by
              have : ¬ g (rend isBl g len (nuE g len (nuE g len (nuE g len a)))) = 32 := fun e => by rw [e] at hL; exact absurd hL (by decide)
              exact decide_eq_false this)
            refine e_readBy hk k2 Y gY Y3 rl4.2 (fun m X tX X3 => ?_) (fun m X tX e7 e8 => ?_)
            · rw [idm] at m X3
              have l5 : rend isBl g len (nuE g len (nuE g len (nuE g len a))) + 2 ≤ len := mtc_len (i := 5) (by decide) rl4.2 gY.2.2.2 m
              have dX := (dY.ts tX (by decide)).put k2 3 1
              refine And.intro (fun x => absurd x (by decide)) (fun _ => ⟨Or.inr rfl, h1 hp4 (rend isBl g len (nuE g len (nuE g len (nuE g len a))) + 2) (nuV g len a) (nuV g len (nuE g len a)) (nuV g len (nuE g len (nuE g len a))) _ l5 ((u121 X 3 3 1).trans X3) (by rw [← hk']; exact dX) ((uk1 X 3 1).trans ((tX.2.1 1 (by decide)).trans eY1)) (dgo_le _ _ _ (by decide)) (dgo_le _ _ _ (by decide)) (dgo_le _ _ _ (by decide)) (Or.inr ⟨?_, ?_⟩)⟩)
              · rw [pk, if_pos m]
              · rw [← hk']
                exact (ukk X 3 1).trans (by rw [tX.2.1 (89 + 3 * (S.1 1 3).toNatClampNeg) k2, eYk])
            · rw [idm] at m e8
              refine And.intro (fun _ => ⟨Or.inl rfl, hl _ _ X ((dY.tx tX (by decide)).x (by omega) (by omega)) (by rw [pk, if_neg m]) hL e7 e8⟩) (fun x => absurd rfl x)
        · refine And.intro (fun x => absurd rfl x) (fun _ => ⟨Or.inl rfl, h0' V (dC.tx tV (by decide)) ?_⟩)
          rw [pd, pNum_ok ok1, pNum_ok ok2]
          exact num_flt vf
      · refine And.intro (fun x => absurd rfl x) (fun _ => ⟨Or.inl rfl, h0' U (dB.tx tU (by decide)) ?_⟩)
        rw [pd, pNum_ok ok1]
        exact num_flt uf
    · refine And.intro (fun x => absurd rfl x) (fun _ => ⟨Or.inl rfl, h0' T (dA.tx tT (by decide)) ?_⟩)
      rw [pd]
      exact num_flt tf
  · have x : ¬ S.1 1 3 < nI 4 := x
    rw [hn] at x
    have hp4 : p = 4 := by
      rcases Nat.lt_or_ge p 4 with y | y
      · exact absurd (nI_lt y (by decide)) x
      · omega
    refine ⟨t8, ⟨Nat.le_of_ble_eq_true rfl, Nat.le_of_ble_eq_true rfl, Nat.le_of_ble_eq_true rfl⟩, e_refuse 3 _ S (fun T' ht' e7 e8 => ⟨Or.inl rfl, h0 T' (ht'.x (by decide)) ⟨3, f, if_pos hp4, e7, e8.trans hf⟩⟩)⟩
