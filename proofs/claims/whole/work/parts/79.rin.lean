/-! ===== isWhole, readInto ===== -/
theorem i_of_l {x : Int32} {v : Nat} (h : x.toInt64 = lN v) : x = nI v := by
  have := congrArg Int64.toInt32 h
  rw [lN_i] at this
  rw [← this]
  simp
def natS (f : Nat → Nat) : Nat → Nat
  | 0 => 0
  | n + 1 => natS f n + f n
theorem natS_le {f : Nat → Nat} {b : Nat} : ∀ {n : Nat}, (∀ i, i < n → f i ≤ b) → natS f n ≤ n * b
  | 0, _ => by simp [natS]
  | n + 1, h => by
    have := natS_le (n := n) (fun i hi => h i (by omega))
    have h2 := h n (by omega)
    show natS f n + f n ≤ (n + 1) * b
    rw [Nat.add_mul, Nat.one_mul]
    omega
theorem sumN_lN {f : Nat → Int64} {g : Nat → Nat} : ∀ {n : Nat}, (∀ i, i < n → f i = lN (g i)) → sumN f n = lN (natS g n)
  | 0, _ => rfl
  | n + 1, h => by
    show sumN f n + f n = lN (natS g n + g n)
    rw [sumN_lN (fun i hi => h i (by omega)), h n (by omega), lN_add]
/-- departments and products make a desk -/
def pWhl (w : Nat → Int64) (n m : Nat) : Prop := 0 < n ∧ sumN (fun p => w (50 + 4 * p)) m = 100 ∧ ∃ p, p < m ∧ w (50 + 4 * p + 3) = 0
set_option maxHeartbeats 1000000 in
theorem e_isWhole {n m : Nat} (S : Mem) (w : Nat → Int64) (hT : TD S w n m) {Qr : QR} {Qx : QX} (h1 : pWhl w n m → Qr (some (.int 1)) S) (h0 : ¬ pWhl w n m → Qr (some (.int 0)) S) : sX8_isWhole 156 [.ref 1] S Qr Qx := by
  have t1 : tyN 156 1 = (0, 1, 0, 0) := rfl
  have t3 : tyN 156 3 = (5, 4, 89, 3) := rfl
  obtain ⟨hw, h2, h3, h4, h5, h6, h7, h8⟩ := hT
  have n5 := hw.1
  have m4 := hw.2.1
  have sh : ∀ p, p < m → cnt w (50 + 4 * p) ≤ 100 ∧ w (50 + 4 * p) = lN (cnt w (50 + 4 * p)) ∧ S.1 (89 + 3 * p) 0 = nI (cnt w (50 + 4 * p)) := fun p hp => by
    obtain ⟨⟨v, v1, v2, v3⟩, -⟩ := hw.2.2.2.2.2.2 p hp
    have c : cnt w (50 + 4 * p) = v := by unfold cnt; rw [v3, lN_clamp (by omega)]
    rw [c]
    exact ⟨v2, v3, i_of_l ((h7 p hp 0 (by decide)).trans v3)⟩
  have by' : ∀ p, p < m → (S.1 (89 + 3 * p) 3 = 0 ↔ w (50 + 4 * p + 3) = 0) := fun p hp => by
    have e := h7 p hp 3 (by decide)
    constructor
    · intro x; rw [← e, x]; rfl
    · intro x; rw [x] at e; exact i_of_l (v := 0) e
  have sl := @natS_le (fun p => cnt w (50 + 4 * p)) 100
  refine runL (α := Nat × Int32) rfl 60 6 0 (fun b => [(3, .int (nI b.1)), (2, .int b.2), (1, .int (nI (natS (fun p => cnt w (50 + 4 * p)) b.1))), (0, .ref 1)]) (fun _ => S) (fun b => m - b.1) (fun b => b.1 ≤ m ∧ ((b.2 = 1 ∧ ∃ p, p < b.1 ∧ w (50 + 4 * p + 3) = 0) ∨ (b.2 = 0 ∧ ∀ p, p < b.1 → ¬ w (50 + 4 * p + 3) = 0))) ?_ ?_
  · rintro ⟨i, b⟩ ⟨hi, hb⟩
    dsimp only at hi hb
    refine ⟨t1, And.intro (fun a1 => ?_) (fun a1 => ?_)⟩
    · have a1 : nI m ≤ nI i := h3 ▸ a1
      obtain rfl := le_of_nI (by omega) hi a1
      have sm := sumN_lN (f := fun p => w (50 + 4 * p)) (g := fun p => cnt w (50 + 4 * p)) (n := i) (fun p hp => (sh p hp).2.1)
      have sL := sl (n := i) (fun p hp => (sh p hp).1)
      refine ⟨t1, And.intro (fun x => ⟨Or.inl rfl, h0 (fun y => ?_)⟩) (fun x => And.intro (fun y => ⟨Or.inl rfl, h0 (fun z => y ?_)⟩) (fun y => ?_))⟩
      · have x : S.1 1 2 ≤ 0 := x
        rw [h2] at x
        exact nI_nle y.1 (by omega) x
      · have := z.2.1
        rw [sm] at this
        have := (lN_eq (b := 100) (by omega) (by decide)).mp this
        show nI (natS (fun p => cnt w (50 + 4 * p)) i) = 100
        rw [this]; rfl
      · have y1 : nI (natS (fun p => cnt w (50 + 4 * p)) i) = nI 100 := y
        have y2 := (nI_eq (by omega) (by decide)).mp y1
        have x : ¬ S.1 1 2 ≤ 0 := x
        have n0 : 0 < n := by
          rcases Nat.eq_zero_or_pos n with e | e
          · subst e; rw [h2] at x; exact absurd (by decide) x
          · exact e
        rcases hb with ⟨rfl, e⟩ | ⟨rfl, e⟩
        · refine And.intro (fun z => absurd (show (1 : Int32) = 0 from z) (by decide)) (fun _ => ⟨Or.inr rfl, h1 ⟨n0, ?_, e⟩⟩)
          rw [sm, y2]; rfl
        · refine And.intro (fun _ => ⟨Or.inl rfl, h0 (fun z => ?_)⟩) (fun z => absurd rfl z)
          obtain ⟨p, q1, q2⟩ := z.2.2
          exact e p q1 q2
    · have a1 : ¬ nI m ≤ nI i := h3 ▸ a1
      have hlt := lt_of_nI (by omega) hi a1
      have hcl : (nI i).toNatClampNeg = i := nI_clamp (by omega)
      have hp : isProN 156 (89 + 3 * (nI i).toNatClampNeg) := by rw [hcl]; exact proN (by decide) (by omega)
      have sv : nI (natS (fun p => cnt w (50 + 4 * p)) i) + S.1 (89 + 3 * (nI i).toNatClampNeg) 0 = nI (natS (fun p => cnt w (50 + 4 * p)) (i + 1)) := by rw [hcl, (sh i hlt).2.2, nI_add]; rfl
      have go : ∀ b' : Int32, ((b' = 1 ∧ ∃ p, p < i + 1 ∧ w (50 + 4 * p + 3) = 0) ∨ (b' = 0 ∧ ∀ p, p < i + 1 → ¬ w (50 + 4 * p + 3) = 0)) → LC 0 (fun b => [(3, .int (nI b.1)), (2, .int b.2), (1, .int (nI (natS (fun p => cnt w (50 + 4 * p)) b.1))), (0, .ref 1)]) (fun _ => S) (fun a' : Nat × Int32 => (a'.1 ≤ m ∧ ((a'.2 = 1 ∧ ∃ p, p < a'.1 ∧ w (50 + 4 * p + 3) = 0) ∨ (a'.2 = 0 ∧ ∀ p, p < a'.1 → ¬ w (50 + 4 * p + 3) = 0))) ∧ m - a'.1 < m - i) 0 [(3, .int (nI i + 1)), (2, .int b'), (1, .int (nI (natS (fun p => cnt w (50 + 4 * p)) i) + S.1 (89 + 3 * (nI i).toNatClampNeg) 0)), (0, .ref 1)] [] S := by
        intro b' hb'
        exact ⟨rfl, rfl, (i + 1, b'), ⟨⟨hlt, hb'⟩, by show m - (i + 1) < m - i; omega⟩, rfl, congrArg (fun z => some (Value.int z)) (nI_1 i), rfl, congrArg (fun z => some (Value.int z)) sv, rfl, trivial⟩
      refine ⟨t1, 1, 4, 89, 3, t3, by decide, vp_nI (by omega), hp.1, ?_⟩
      rcases hb with ⟨rfl, e⟩ | ⟨rfl, e⟩
      · refine And.intro (fun _ => go 1 (Or.inl ⟨rfl, ?_⟩)) (fun z => absurd (show (1 : Int32) = 0 from z) (by decide))
        obtain ⟨p, q1, q2⟩ := e
        exact ⟨p, by omega, q2⟩
      · refine And.intro (fun x => absurd rfl x) (fun _ => ⟨t1, 1, 4, 89, 3, t3, by decide, vp_nI (by omega), ⟨Nat.le_of_ble_eq_true rfl, Nat.le_of_ble_eq_true rfl, Nat.le_of_ble_eq_true rfl⟩, e_isMain hp S ?_⟩)
        by_cases z : S.1 (89 + 3 * (nI i).toNatClampNeg) 3 = 0
        · rw [if_pos z]
          rw [hcl, by' i hlt] at z
          exact And.intro (fun x => absurd x (by decide)) (fun _ => go 1 (Or.inl ⟨rfl, i, by omega, z⟩))
        · rw [if_neg z]
          rw [hcl, by' i hlt] at z
          refine And.intro (fun _ => go 0 (Or.inr ⟨rfl, fun p hp => ?_⟩)) (fun x => absurd rfl x)
          by_cases y : p = i
          · rw [y]; exact z
          · exact e p (by omega)
  · exact ⟨rfl, rfl, (0, 0), ⟨Nat.zero_le _, Or.inr ⟨rfl, fun p hp => absurd hp (Nat.not_lt_zero p)⟩⟩, rfl, rfl, rfl, rfl, rfl, trivial⟩
/-- the lines of a text -/
abbrev RA : Type := (Int32 × Nat) ⊕ (Nat → Int64)
def pAll (g : Nat → Int32) (len : Nat) : Nat → Nat → Bool → (Nat → Int64) → RA
  | 0, _, _, w => .inr w
  | k + 1, a, st, w => if rend isBl g len a < len then (match pLine g len a st w with | .inl x => .inl x | .inr (a', w') => pAll g len k a' (st || decide (mtc g (rend isBl g len a) 3)) w') else .inr w
def w00 : Nat → Int64 := fun i => if i = 2 then 1 else 0
theorem w00_wf : WFt w00 0 0 := ⟨by decide, by decide, rfl, rfl, Or.inr rfl, fun d hd => absurd hd (Nat.not_lt_zero d), fun p hp => absurd hp (Nat.not_lt_zero p)⟩
def fltA (S : Mem) (R : RA) : Prop := ∃ r pl, R = .inl (r, pl) ∧ S.1 121 7 = r ∧ S.1 121 8 = nI pl
theorem nI_min {a b : Nat} (h : a ≤ b) (hb : b < 2 ^ 31) : (if nI b < nI a then nI b else nI a) = nI a := if_neg (nI_nlt h hb)
set_option maxHeartbeats 4000000 in
theorem e_readInto {g : Nat → Int32} {len hl : Nat} (S : Mem) (hh : S.1 121 1 = nI hl) (hl4 : hl ≤ 400) (hle : len ≤ hl) (hg1 : ∀ i, i < len → g i = S.1 122 i ∨ (S.1 122 i < 0 ∧ g i < 0)) (hg2 : ∀ i, len ≤ i → g i < 0) {Qr : QR} {Qx : QX}
    (h1 : ∀ w n m Z T0 S', pAll g len 400 0 false w00 = .inr w → pWhl w n m → dskZ S Z → TS [1, 2, 3, 6, 7, 8] Z T0 → T0.1 121 1 = 0 → T0.1 121 7 = 0 → T0.1 121 8 = -1 → FRM T0 S' → TD S' w n m → Qr none S')
    (h2 : ∀ w n m Z T0 S', pAll g len 400 0 false w00 = .inr w → WFt w n m → ¬ pWhl w n m → dskZ S Z → TS [1, 2, 3, 6, 7, 8] Z T0 → T0.1 121 1 = 0 → FRX T0 S' → S'.1 121 7 = 4 → S'.1 121 8 = nI len → Qr none S')
    (h0 : ∀ Z T0 S', fltA S' (pAll g len 400 0 false w00) → dskZ S Z → TS [1, 2, 3, 6, 7, 8] Z T0 → T0.1 121 1 = 0 → FRX T0 S' → Qr none S') : vsp 156 8 (sX8_readInto 156) [.ref 121, .ref 1, .int (nI len)] S Qr Qx := by
  have t1 : tyN 156 1 = (0, 1, 0, 0) := rfl
  refine ⟨t8, runL (α := Nat × Int32 × Mem × Mem × Mem) rfl 160 46 0 (fun b => [(4, .int (nI b.1)), (3, .int b.2.1), (1, .ref 1), (0, .ref 121)]) (fun b => b.2.2.1) (fun b => 400 - b.1)
    (fun b => (b.1 ≤ 400 ∧ dskZ S b.2.2.2.1 ∧ TS [1, 2, 3, 6, 7, 8] b.2.2.2.1 b.2.2.2.2 ∧ b.2.2.2.2.1 121 1 = 0 ∧ b.2.2.2.2.1 121 7 = 0 ∧ b.2.2.2.2.1 121 8 = -1) ∧ ((b.2.1 = 1 ∧ ∃ a st w n m, a ≤ len ∧ tg b.2.2.1 g len ∧ b.2.2.1.1 121 3 = nI a ∧ b.2.2.1.1 121 6 = (bif st then 1 else 0) ∧ TD b.2.2.1 w n m ∧ FRM b.2.2.2.2 b.2.2.1 ∧ pAll g len (400 - b.1) a st w = pAll g len 400 0 false w00) ∨ (b.2.1 = 0 ∧ FRX b.2.2.2.2 b.2.2.1 ∧ fltA b.2.2.1 (pAll g len 400 0 false w00)))) ?_ ?_⟩
  · rintro ⟨i, v, T, Z, T0⟩ ⟨⟨hi, hz, hts, k1, k7, k8⟩, hv⟩
    dsimp only at hi hz hts k1 k7 k8 hv
    have fin1 : ∀ (U : Mem) (w : Nat → Int64) (n m : Nat), TD U w n m → FRM T0 U → tg U g len → pAll g len 400 0 false w00 = .inr w → wpH 156 pX8_readInto (kX8_readInto 156) hd0 [] none 5 none Qr Qx [] 40 (jmp 77 pX8_readInto) 0 [(4, .int (nI i)), (3, .int 1), (1, .ref 1), (0, .ref 121)] [] U := by
      intro U w n m tU fU gU hp
      refine And.intro (fun x => absurd x (by decide)) (fun _ => ⟨⟨Nat.le_of_ble_eq_true rfl, Nat.le_of_ble_eq_true rfl, Nat.le_of_ble_eq_true rfl⟩, e_isWhole U w tU (fun y => And.intro (fun _ => ⟨rfl, h1 w n m Z T0 U hp y hz hts k1 k7 k8 fU tU⟩) (fun x => absurd x (by decide))) (fun y => And.intro (fun x => absurd rfl x) (fun _ => ⟨t8, ⟨Nat.le_of_ble_eq_true rfl, Nat.le_of_ble_eq_true rfl, Nat.le_of_ble_eq_true rfl⟩, e_refuse 4 _ U (fun V tV e7 e8 => ⟨rfl, h2 w n m Z T0 V hp tU.1 y hz hts k1 (fU.x.trans (tV.x (by decide))) e7 (e8.trans gU.1)⟩)⟩))⟩)
    have fin0 : ∀ (U : Mem), FRX T0 U → fltA U (pAll g len 400 0 false w00) → wpH 156 pX8_readInto (kX8_readInto 156) hd0 [] none 5 none Qr Qx [] 40 (jmp 77 pX8_readInto) 0 [(4, .int (nI i)), (3, .int 0), (1, .ref 1), (0, .ref 121)] [] U := by
      intro U fU hf
      exact And.intro (fun _ => ⟨rfl, h0 Z T0 U hf hz hts k1 fU⟩) (fun x => absurd rfl x)
    rcases hv with ⟨rfl, a, st, w, n, m, la, gT, T3, T6, tT, fT, hp⟩ | ⟨rfl, fT, hf⟩
    · refine And.intro (fun x => ?_) (fun x => ?_)
      · have x : nI 400 ≤ nI i := x
        have e := le_of_nI (by decide) hi x
        subst e
        exact fin1 T w n m tT fT gT hp.symm
      · have x : ¬ nI 400 ≤ nI i := x
        have hlt := lt_of_nI (by decide) hi x
        rw [show 400 - i = (400 - (i + 1)) + 1 by omega] at hp
        refine And.intro (fun x => absurd (show (1 : Int32) = 0 from x) (by decide)) (fun _ => ⟨⟨Nat.le_of_ble_eq_true rfl, Nat.le_of_ble_eq_true rfl, Nat.le_of_ble_eq_true rfl⟩, e_atEnd T gT T3 la (fun U tU U3 => ?_)⟩)
        have gU := tU.tg (by decide) gT
        have fU : FRM T0 U := fT.trans (FRM_ts tU (by decide) (by decide) (by decide) (by decide))
        have tdU := tT.ts tU
        have rl := rend_le (P := isBl) (g := g) la
        by_cases y : rend isBl g len a < len
        · rw [if_pos y]
          have hp : (if rend isBl g len a < len then (match pLine g len a st w with | .inl x => .inl x | .inr (a', w') => pAll g len (400 - (i + 1)) a' (st || decide (mtc g (rend isBl g len a) 3)) w') else .inr w) = pAll g len 400 0 false w00 := hp
          rw [if_pos y] at hp
          have idm : rend isBl g len (rend isBl g len a) = rend isBl g len a := rend_no (fun h => (rend_spec (P := isBl) (g := g) _ a rfl la).2.2.2 h)
          have pl : pLine g len (rend isBl g len a) st w = pLine g len a st w := by unfold pLine; rw [idm]
          refine And.intro (fun x => absurd rfl x) (fun _ => ⟨⟨Nat.le_of_ble_eq_true rfl, Nat.le_of_ble_eq_true rfl, Nat.le_of_ble_eq_true rfl⟩, e_readLine U w gU U3 rl.2 ((tU.2.2 6 (by decide)).trans T6) tdU (fun a' w' n' m' V hl v3 tV fV v6 => ?_) (fun V fV vf => ?_)⟩)
          · rw [pl] at hl
            rw [idm] at v6
            rw [hl] at hp
            have wf := pLine_wf gT.2.2.2 la tT.1 hl
            refine ⟨rfl, rfl, (i + 1, 1, V, Z, T0), ⟨⟨⟨hlt, hz, hts, k1, k7, k8⟩, Or.inl ⟨rfl, a', (st || decide (mtc g (rend isBl g len a) 3)), w', n', m', wf.2.2, ⟨(fV.1 121 2 (by omega)).trans gU.1, gU.2.1, fun j hj => ?_, gU.2.2.2⟩, v3, v6, tV, fU.trans fV, hp⟩⟩, by show 400 - (i + 1) < 400 - i; omega⟩, rfl, congrArg (fun z => some (Value.int z)) (nI_1 i), rfl, rfl, rfl, trivial⟩
            show g j = V.1 122 j ∨ (V.1 122 j < 0 ∧ g j < 0)
            rw [fV.1 122 j (by omega)]; exact gU.2.2.1 j hj
          · rw [pl] at vf
            obtain ⟨r, q, e, e7, e8⟩ := vf
            rw [e] at hp
            refine ⟨rfl, rfl, (i + 1, 0, V, Z, T0), ⟨⟨⟨hlt, hz, hts, k1, k7, k8⟩, Or.inr ⟨rfl, fU.x.trans fV, ⟨r, q, hp.symm, e7, e8⟩⟩⟩, by show 400 - (i + 1) < 400 - i; omega⟩, rfl, congrArg (fun z => some (Value.int z)) (nI_1 i), rfl, rfl, rfl, trivial⟩
        · rw [if_neg y]
          have hp : (if rend isBl g len a < len then (match pLine g len a st w with | .inl x => .inl x | .inr (a', w') => pAll g len (400 - (i + 1)) a' (st || decide (mtc g (rend isBl g len a) 3)) w') else .inr w) = pAll g len 400 0 false w00 := hp
          rw [if_neg y] at hp
          exact And.intro (fun _ => fin1 U w n m tdU fU gU hp.symm) (fun x => absurd x (by decide))
    · refine And.intro (fun _ => fin0 T fT hf) (fun _ => And.intro (fun _ => fin0 T fT hf) (fun x => absurd rfl x))
  · refine ⟨⟨Nat.le_of_ble_eq_true rfl, Nat.le_of_ble_eq_true rfl, Nat.le_of_ble_eq_true rfl⟩, e_dskClear (by decide) S (fun Z hz => ?_)⟩
    have zf := hz.2.2.2.2.1
    have zh : Z.1 121 1 = nI hl := by rw [zf 121 (by omega)]; exact hh
    have zz := hz
    obtain ⟨zd, zp, ⟨z2, z3, z4, -, -⟩, -⟩ := zz
    have lv : (if Z.1 121 1 < nI len then Z.1 121 1 else nI len) = nI len := by rw [zh]; exact nI_min hle (by omega)
    have ts : TS [1, 2, 3, 6, 7, 8] Z (u2 (u2 (u2 (u2 (u2 (u2 Z.1 121 2 (if Z.1 121 1 < nI len then Z.1 121 1 else nI len)) 121 1 0) 121 3 0) 121 6 0) 121 7 0) 121 8 (-1), Z.2) := (TS_u2 (TS_u2 (TS_u2 (TS_u2 (TS_u2 (TS_u2 (TS.re (J := [])) 2 _) 1 0) 3 0) 6 0) 7 0) 8 (-1)).w (by decide)
    have c1 : ∀ c j, c ≠ 121 → u2 (u2 (u2 (u2 (u2 (u2 Z.1 121 2 (if Z.1 121 1 < nI len then Z.1 121 1 else nI len)) 121 1 0) 121 3 0) 121 6 0) 121 7 0) 121 8 (-1) c j = Z.1 c j := fun c j x => congrFun (ts.2.1 c x) j
    refine ⟨t8, ⟨Nat.le_of_ble_eq_true rfl, Nat.le_of_ble_eq_true rfl, Nat.le_of_ble_eq_true rfl⟩, t8, t8, t8, t8, Or.inl rfl, t8, t8, rfl, rfl, (0, 1, _, Z, _), ⟨⟨Nat.zero_le _, hz, ts, ?_, ?_, ?_⟩, Or.inl ⟨rfl, 0, false, w00, 0, 0, Nat.zero_le _, ⟨?_, by omega, fun i hi => ?_, hg2⟩, ?_, ?_, ⟨w00_wf, ?_, ?_, ?_, fun d x => absurd x (Nat.not_lt_zero d), fun d x y => ?_, fun p x => absurd x (Nat.not_lt_zero p), fun p x y => ?_⟩, FRM.re, rfl⟩⟩, rfl, rfl, rfl, rfl, rfl, trivial⟩
    · show u2 (u2 (u2 (u2 (u2 (u2 Z.1 121 2 (if Z.1 121 1 < nI len then Z.1 121 1 else nI len)) 121 1 0) 121 3 0) 121 6 0) 121 7 0) 121 8 (-1) 121 1 = 0
      simp [u2]
    · show u2 (u2 (u2 (u2 (u2 (u2 Z.1 121 2 (if Z.1 121 1 < nI len then Z.1 121 1 else nI len)) 121 1 0) 121 3 0) 121 6 0) 121 7 0) 121 8 (-1) 121 7 = 0
      simp [u2]
    · show u2 (u2 (u2 (u2 (u2 (u2 Z.1 121 2 (if Z.1 121 1 < nI len then Z.1 121 1 else nI len)) 121 1 0) 121 3 0) 121 6 0) 121 7 0) 121 8 (-1) 121 8 = -1
      simp [u2]
    · show u2 (u2 (u2 (u2 (u2 (u2 Z.1 121 2 (if Z.1 121 1 < nI len then Z.1 121 1 else nI len)) 121 1 0) 121 3 0) 121 6 0) 121 7 0) 121 8 (-1) 121 2 = nI len
      rw [lv]; simp [u2]
    · show g i = u2 (u2 (u2 (u2 (u2 (u2 Z.1 121 2 (if Z.1 121 1 < nI len then Z.1 121 1 else nI len)) 121 1 0) 121 3 0) 121 6 0) 121 7 0) 121 8 (-1) 122 i ∨ (u2 (u2 (u2 (u2 (u2 (u2 Z.1 121 2 (if Z.1 121 1 < nI len then Z.1 121 1 else nI len)) 121 1 0) 121 3 0) 121 6 0) 121 7 0) 121 8 (-1) 122 i < 0 ∧ g i < 0)
      rw [c1 122 i (by decide), zf 122 (by omega)]; exact hg1 i hi
    · show u2 (u2 (u2 (u2 (u2 (u2 Z.1 121 2 (if Z.1 121 1 < nI len then Z.1 121 1 else nI len)) 121 1 0) 121 3 0) 121 6 0) 121 7 0) 121 8 (-1) 121 3 = 0
      simp [u2]
    · show u2 (u2 (u2 (u2 (u2 (u2 Z.1 121 2 (if Z.1 121 1 < nI len then Z.1 121 1 else nI len)) 121 1 0) 121 3 0) 121 6 0) 121 7 0) 121 8 (-1) 121 6 = 0
      simp [u2]
    · exact (c1 1 2 (by decide)).trans z2
    · exact (c1 1 3 (by decide)).trans z3
    · exact congrArg Int32.toInt64 ((c1 1 4 (by decide)).trans z4)
    · have hd := zd d y
      exact ⟨(c1 _ _ (by omega)).trans hd.1.2.2.2.2.1, (c1 _ _ (by omega)).trans hd.1.2.2.2.2.2.1, (c1 _ _ (by omega)).trans hd.1.2.2.2.2.2.2.1⟩
    · have hd := zp p y
      exact (c1 _ _ (by omega)).trans (hd.1 3 (by decide))
