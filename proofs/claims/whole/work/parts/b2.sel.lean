/-! ===== sell: the class ===== -/
def lU (w : Nat → Int64) (p i : Nat) : Nat := cnt w (419 + 83 * p + 2 * i)
def lC (w : Nat → Int64) (p i : Nat) : Int64 := w (420 + 83 * p + 2 * i)
/-- u units are the first g layers and a part of the next -/
def slR (w : Nat → Int64) (p k u g : Nat) : Prop := g ≤ k ∧ natS (lU w p) g ≤ u ∧ (g = k → natS (lU w p) k = u) ∧ (g < k → u < natS (lU w p) (g + 1))
theorem natS_up {f : Nat → Nat} {a b : Nat} (h : a ≤ b) : natS f a ≤ natS f b := by
  induction b with
  | zero => rw [show a = 0 by omega]; exact Nat.le_refl _
  | succ b ih =>
    rcases (show a ≤ b ∨ a = b + 1 by omega) with z | rfl
    · exact Nat.le_trans (ih z) (Nat.le_add_right _ _)
    · exact Nat.le_refl _
theorem slR.un {w : Nat → Int64} {p k u g g' : Nat} (hp : ∀ i, i < k → 1 ≤ lU w p i) (h : slR w p k u g) (h' : slR w p k u g') : g = g' := by
  obtain ⟨a1, a2, a3, a4⟩ := h
  obtain ⟨b1, b2, b3, b4⟩ := h'
  rcases Nat.lt_trichotomy g g' with z | z | z
  · have := natS_up (f := lU w p) (show g + 1 ≤ g' by omega)
    have := a4 (by omega)
    omega
  · exact z
  · have := natS_up (f := lU w p) (show g' + 1 ≤ g by omega)
    have := b4 (by omega)
    omega
def slP (w : Nat → Int64) (p k u g : Nat) : Int64 := if g < k then cut (lC w p g) (lN (u - natS (lU w p) g)) (lN (lU w p g)) else 0
def slV (w : Nat → Int64) (p k u g : Nat) : Int64 := sumN (lC w p) g + slP w p k u g
/-- the row behind the sale -/
def slW (w : Nat → Int64) (p k u g : Nat) : Nat → Int64 := fun i => if i = 418 + 83 * p then lN (k - g) else if i = 751 then w 751 + slV w p k u g else if 419 + 83 * p ≤ i ∧ i < 501 + 83 * p then (if (i - (419 + 83 * p)) / 2 + g < k then (if i = 419 + 83 * p then lN (lU w p g - (u - natS (lU w p) g)) else if i = 420 + 83 * p then (lC w p g - slP w p k u g) else w (i + 2 * g)) else 0) else w i
/-- what the store of product p holds -/
def stO (w : Nat → Int64) (p k : Nat) : Prop := k ≤ 40 ∧ w (418 + 83 * p) = lN k ∧ (∀ i, i < k → w (419 + 83 * p + 2 * i) = lN (lU w p i) ∧ cut (lC w p i) (lN (lU w p i)) (lN (lU w p i)) = lC w p i ∧ 1 ≤ lU w p i ∧ lU w p i < 2 ^ 40) ∧ ∀ i, k ≤ i → i < 41 → w (419 + 83 * p + 2 * i) = 0 ∧ w (420 + 83 * p + 2 * i) = 0
theorem stO.sU {w : Nat → Int64} {p k : Nat} (h : stO w p k) {g : Nat} (hg : g ≤ k) : sumN (fun i => w (419 + 83 * p + 2 * i)) g = lN (natS (lU w p) g) ∧ sumN (fun i => w (420 + 83 * p + 2 * i)) g = sumN (lC w p) g := ⟨sumN_lN (fun i hi => (h.2.2.1 i (by omega)).1), rfl⟩
theorem stO.b {w : Nat → Int64} {p k : Nat} (h : stO w p k) : natS (lU w p) k < 2 ^ 46 := by
  have a := natS_le (f := lU w p) (b := 2 ^ 40) (n := k) (fun i hi => by have := (h.2.2.1 i hi).2.2.2; omega)
  have := h.1
  have d : k * 2 ^ 40 ≤ 40 * 2 ^ 40 := Nat.mul_le_mul_right _ this
  omega
theorem slP_le {w : Nat → Int64} {p k u g : Nat} (h : stO w p k) (hs : slR w p k u g) (hg : g < k) : u - natS (lU w p) g < lU w p g ∧ cut (lC w p g) (lN (u - natS (lU w p) g)) (lN (lU w p g)) = slP w p k u g := by
  obtain ⟨-, -, p1, p3⟩ := h.2.2.1 g hg
  obtain ⟨s1, s2, s3, s4⟩ := hs
  have s5 := s4 hg
  have s6 : natS (lU w p) (g + 1) = natS (lU w p) g + lU w p g := rfl
  have r1 : u - natS (lU w p) g < lU w p g := by omega
  exact ⟨r1, (if_pos hg).symm⟩
theorem deskR_sl {S T : Mem} {w : Nat → Int64} {n m p k u g : Nat} {ns : Nat → Nat} (h : deskR S w n m ns) (hp : p < m) (hk : ns p = k) (hg : g ≤ k) (t1 : ∀ c, c ≠ 89 + 3 * p → T.1 c = S.1 c) (t2 : ∀ j, j ≠ 7 → T.1 (89 + 3 * p) j = S.1 (89 + 3 * p) j) (t3 : T.1 (89 + 3 * p) 7 = nI (k - g)) (t4 : ∀ c, c ≠ 1 → c ≠ 90 + 3 * p → c ≠ 91 + 3 * p → T.2 c = S.2 c) (t5 : ∀ j, j ≠ 8 → T.2 1 j = S.2 1 j) (t6 : T.2 1 8 = w 751 + slV w p k u g) (t7 : ∀ i, i < k - g → T.2 (90 + 3 * p) i = slW w p k u g (419 + 83 * p + 2 * i) ∧ T.2 (91 + 3 * p) i = slW w p k u g (420 + 83 * p + 2 * i)) : deskR T (slW w p k u g) n m (fun q => if q = p then k - g else ns q) := by
  obtain ⟨⟨h1, h2, h3, h4, h5, h6⟩, h7, h8, h9, h10⟩ := h
  have o : ∀ i, i ≠ 751 → i < 418 + 83 * p ∨ 501 + 83 * p ≤ i → slW w p k u g i = w i := fun i a b => by
    unfold slW
    rw [if_neg (by omega), if_neg a, if_neg (by omega)]
  refine ⟨⟨by rw [t1 1 (by omega)]; exact h1, h2, by rw [t1 1 (by omega)]; exact h3, h4, (o 0 (by decide) (by omega)).trans h5, (o 1 (by decide) (by omega)).trans h6⟩, fun j hj => by rw [t1 1 (by omega), o _ (by omega) (by omega)]; exact h7 j hj, fun j hj => ?_, fun d hd => ?_, fun q hq => ?_⟩
  · by_cases z : j = 1
    · subst z
      rw [t6]
      unfold slW
      rw [if_neg (by omega), if_pos rfl]
    · rw [t5 _ (by omega), o _ (by omega) (by omega)]; exact h8 j hj
  · have a := (h9 d hd).same (T := T) (sameDp_of (fun c x y => t1 c (by omega)) (fun c x y => t4 c (by omega) (by omega) (by omega)))
    exact a.row (fun i hi => o i (by unfold plD at hi; omega) (by unfold plD at hi; omega)) (a.2.1.row (fun i x y => o i (by omega) (by omega)))
  · by_cases z : q = p
    · subst z
      show proW T (slW w q k u g) q (if q = q then k - g else ns q)
      rw [if_pos rfl]
      obtain ⟨b0, b1, b2, b3, b4, b5, b6, b7⟩ := h10 q hq
      refine ⟨fun j hj => ?_, ?_, ?_, ?_, t3, ?_, by omega, fun i hi => t7 i hi⟩
      · rw [t2 j (by omega), o _ (by omega) (by omega)]; exact b0 j hj
      · rw [t2 4 (by decide), o _ (by omega) (by omega)]; exact b1
      · rw [t4 _ (by omega) (by omega) (by omega), o _ (by omega) (by omega)]; exact b2
      · rw [t4 _ (by omega) (by omega) (by omega), o _ (by omega) (by omega)]; exact b3
      · unfold slW
        rw [if_pos rfl]
    · show proW T (slW w p k u g) q (if q = p then k - g else ns q)
      rw [if_neg z]
      have a := (h10 q hq).same (T := T) (samePr_of (t1 _ (by omega)) (fun c x y => t4 c (by omega) (by omega) (by omega)))
      exact a.row (fun i hi => o i (by omega) (by omega))
theorem slW_l {w : Nat → Int64} {p k u g i : Nat} (hp : p < 4) (hi : i < k - g) (hk : k ≤ 40) : slW w p k u g (419 + 83 * p + 2 * i) = (if i = 0 then lN (lU w p g - (u - natS (lU w p) g)) else w (419 + 83 * p + 2 * (i + g))) ∧ slW w p k u g (420 + 83 * p + 2 * i) = (if i = 0 then (lC w p g - slP w p k u g) else w (420 + 83 * p + 2 * (i + g))) := by
  unfold slW
  constructor
  · rw [if_neg (by omega), if_neg (by omega), if_pos (by omega), if_pos (by omega)]
    by_cases z : i = 0
    · subst z; rw [if_pos (by omega), if_pos rfl]
    · rw [if_neg (by omega), if_neg (by omega), if_neg z, show 419 + 83 * p + 2 * i + 2 * g = 419 + 83 * p + 2 * (i + g) by omega]
  · rw [if_neg (by omega), if_neg (by omega), if_pos (by omega), if_pos (by omega), if_neg (by omega)]
    by_cases z : i = 0
    · subst z; rw [if_pos (by omega), if_pos rfl]
    · rw [if_neg (by omega), if_neg z, show 420 + 83 * p + 2 * i + 2 * g = 420 + 83 * p + 2 * (i + g) by omega]
set_option maxHeartbeats 2000000 in
theorem e_cSell {S : Mem} {tp : Nat} {sg : Nat → Int32} {fp : Int32} {r : Nat → Int32} {w : Nat → Int64} {H : HL} {n m : Nat} (hI : CI S tp sg fp r w H) (hf : WFt w n m) (hO : ∀ p, p < m → ∃ k, stO w p k) (x y : Int32) {Qr : QR} {Qx : QX} (hE : ¬ (∃ d, d < m ∧ x = nI d) → Qx "java/util/NoSuchElementException" (refC S 0)) (hA : ∀ d, d < m → x = nI d → ¬ inR y 1 50000 → Qx "java/lang/IllegalArgumentException" (refC S 1)) (hS : ∀ p u k, p < m → x = nI p → 1 ≤ u → u ≤ 50000 → y = nI u → stO w p k → natS (lU w p) k < u → Qx "java/lang/IllegalStateException" (refC S 2))
    (h1 : ∀ p u k g, p < m → x = nI p → 1 ≤ u → u ≤ 50000 → y = nI u → stO w p k → u ≤ natS (lU w p) k → slR w p k u g → ∀ S', CI S' tp sg fp r (slW w p k u g) ((w :: H).take 8) → FM S S' → Qr (some (.long (slV w p k u g))) S') : vsp 156 9 (sX9_sell 156) [.ref 0, .int x, .int y] S Qr Qx := by
  obtain ⟨ns, hD⟩ := hI.desk hf
  have hH := hI.2.2.2.2
  have m4 := hf.2.1
  refine ⟨tP, runG rfl 120 ⟨⟨Nat.le_of_ble_eq_true rfl, Nat.le_of_ble_eq_true rfl, Nat.le_of_ble_eq_true rfl⟩, e_needProduct x S hD.1.2.2.1 m4 (fun p hp e => ⟨⟨Nat.le_of_ble_eq_true rfl, Nat.le_of_ble_eq_true rfl, Nat.le_of_ble_eq_true rfl⟩, e_needW y 1 50000 (by decide) (by decide) S (fun u u1 u2' e' => ?_) (hA p hp e)⟩) hE⟩⟩
  have hk := proN (N := 156) (p := p) (by decide) (by omega)
  have pW := hD.2.2.2.2 p hp
  obtain ⟨k, o⟩ := hO p hp
  have nk : ns p = k := by
    have := pW.ly
    rw [lyN_le o.2.1 o.1] at this
    exact this
  have k4 := o.1
  obtain ⟨p7, p8, p9, g7⟩ := pW.2.2.2.2
  rw [nk] at p7 p9 g7
  have bb := o.b
  have sU : ∀ g, g ≤ k → sumN (S.2 (89 + 3 * p + 1)) g = lN (natS (lU w p) g) := fun g hg => by
    rw [← (o.sU hg).1]
    exact sumN_congr (fun i hi => by rw [show 89 + 3 * p + 1 = 90 + 3 * p by omega]; exact (g7 i (by omega)).1)
  have sC : ∀ g, g ≤ k → sumN (S.2 (89 + 3 * p + 2)) g = sumN (lC w p) g := fun g hg => by
    rw [← (o.sU hg).2]
    exact sumN_congr (fun i hi => by rw [show 89 + 3 * p + 2 = 91 + 3 * p by omega]; exact (g7 i (by omega)).2)
  refine ⟨⟨Nat.le_of_ble_eq_true rfl, Nat.le_of_ble_eq_true rfl, Nat.le_of_ble_eq_true rfl⟩, e_unitsInStore hk S p7 k4 (And.intro (fun q => ?_) (fun q => ?_))⟩
  · have q : sumN (S.2 (89 + 3 * p + 1)) k < y.toInt64 := (lg_cmp_lt _ _).mp q
    rw [sU k (Nat.le_refl _), e', nI_l (by omega)] at q
    have q := (pk_lLT (by omega) (by omega)).mp q
    exact ⟨⟨Nat.le_of_ble_eq_true rfl, Nat.le_of_ble_eq_true rfl, Nat.le_of_ble_eq_true rfl⟩, e_needState 0 S (fun z => absurd rfl z) (fun _ => hS p u k hp e u1 u2' e' o q)⟩
  · have q : ¬ sumN (S.2 (89 + 3 * p + 1)) k < y.toInt64 := fun z => q ((lg_cmp_lt _ _).mpr z)
    rw [sU k (Nat.le_refl _), e', nI_l (by omega)] at q
    have q : u ≤ natS (lU w p) k := by
      rcases Nat.lt_or_ge (natS (lU w p) k) u with z | z
      · exact absurd ((pk_lLT (by omega) (by omega)).mpr z) q
      · exact z
    refine ⟨⟨Nat.le_of_ble_eq_true rfl, Nat.le_of_ble_eq_true rfl, Nat.le_of_ble_eq_true rfl⟩, e_needState 1 S (fun _ => ?_) (fun z => absurd z (by decide))⟩
    obtain ⟨nx, hR⟩ := hH
    refine ⟨tP, tP, ⟨Nat.le_of_ble_eq_true rfl, Nat.le_of_ble_eq_true rfl, Nat.le_of_ble_eq_true rfl⟩, e_histRow hR.1 S hR.2.1 ⟨⟨Nat.le_of_ble_eq_true rfl, Nat.le_of_ble_eq_true rfl, Nat.le_of_ble_eq_true rfl⟩, e_saveR S hR hD (fun T hP hT fT => ⟨⟨Nat.le_of_ble_eq_true rfl, Nat.le_of_ble_eq_true rfl, Nat.le_of_ble_eq_true rfl⟩, ?_⟩)⟩⟩
    have q1 : ∀ c, c < 103 → T.1 c = S.1 c := fun c hc => (fT c (by omega)).1
    have q2 : ∀ c, c < 103 → T.2 c = S.2 c := fun c hc => (fT c (by omega)).2
    have yu : y.toInt64 = lN u := by rw [e', nI_l (by omega)]
    have ps : ∀ j, j < k → natS (lU w p) j ≤ u → (psC T (89 + 3 * p) y.toInt64 j ↔ natS (lU w p) (j + 1) ≤ u) := fun j hj hu => by
      unfold psC
      have := natS_up (f := lU w p) (show j ≤ k by omega)
      obtain ⟨w1', -, -, w5⟩ := o.2.2.1 j hj
      rw [q2 _ (by omega), sU j (by omega), yu, show 89 + 3 * p + 1 = 90 + 3 * p by omega, (g7 j hj).1, w1', lN_sub hu, pk_lLE (by omega) (by omega)]
      show _ ↔ natS (lU w p) j + lU w p j ≤ u
      omega
    have pre : ∀ g, g ≤ k → (∀ j, j < g → psC T (89 + 3 * p) y.toInt64 j) → natS (lU w p) g ≤ u := by
      intro g
      induction g with
      | zero => intro _ _; exact Nat.zero_le _
      | succ g ih =>
        intro hg hj
        exact (ps g (by omega) (ih (by omega) (fun j z => hj j (by omega)))).mp (hj g (by omega))
    have fin : ∀ (g : Nat) (X : Nat → Nat → Int64), slR w p k u g → (∀ i, i < k - g → X (90 + 3 * p) i = slW w p k u g (419 + 83 * p + 2 * i) ∧ X (91 + 3 * p) i = slW w p k u g (420 + 83 * p + 2 * i)) → (∀ c, c ≠ 90 + 3 * p → c ≠ 91 + 3 * p → X c = T.2 c) → wpH 156 pX9_sell (kX9_sell 156) hd0 [] none 6 (some .long) Qr Qx [] 40 (jmp 54 pX9_sell) 0 [(4, .long (slV w p k u g)), (3, .ref (89 + 3 * p)), (0, .ref 0), (1, .int x), (2, .int y)] [] (u2 T.1 (89 + 3 * p) 7 (nI (k - g)), X) := by
      intro g X sl x1 x2
      refine ⟨tP, tD, tD, tP, ⟨Nat.le_of_ble_eq_true rfl, Nat.le_of_ble_eq_true rfl, Nat.le_of_ble_eq_true rfl⟩, ?_⟩
      have x18 : X 1 8 = w 751 := by
        rw [x2 1 (by omega) (by omega), q2 1 (by decide)]
        exact hD.2.2.1 1 (by decide)
      have hU := deskR_sl (T := (u2 T.1 (89 + 3 * p) 7 (nI (k - g)), u2 X 1 8 (X 1 8 + slV w p k u g))) (u := u) hT hp nk sl.1 (fun c hc => u2_other _ _ _ hc) (fun j hj => u2_j T.1 _ _ _ hj) (u2_s T.1 _ _ _) (fun c a b d => (u2_other _ _ _ a).trans (x2 c b d)) (fun j hj => (u2_j X 1 1 (X 1 8 + slV w p k u g) hj).trans (by rw [x2 1 (by omega) (by omega)])) ((u2_s X 1 8 (X 1 8 + slV w p k u g)).trans (by rw [x18])) (fun i hi => by
        show u2 X 1 8 _ (90 + 3 * p) i = _ ∧ u2 X 1 8 _ (91 + 3 * p) i = _
        rw [u2_k _ _ _ _ (by omega), u2_k _ _ _ _ (by omega)]; exact x1 i hi)
      have f2 : ∀ c, c = 0 ∨ 101 ≤ c → (u2 T.1 (89 + 3 * p) 7 (nI (k - g)), u2 X 1 8 (X 1 8 + slV w p k u g)).1 c = T.1 c ∧ (u2 T.1 (89 + 3 * p) 7 (nI (k - g)), u2 X 1 8 (X 1 8 + slV w p k u g)).2 c = T.2 c := fun c hc => ⟨u2_other _ _ _ (by omega), (u2_other _ _ _ (by omega)).trans (x2 c (by omega) (by omega))⟩
      refine e_keep _ (hP.move (fun c a b => f2 c (by omega))) (fun V hV v2 v1 => ?_)
      obtain ⟨r1, r2⟩ := CI_act hI fT f2 hU v2 v1 hV
      exact ⟨rfl, h1 p u k g hp e u1 u2' e' o q sl V r1 r2⟩
    refine e_takeOut (n := k) hk y T (by rw [q1 _ (by omega)]; exact p7) k4 (fun all X dr => ?_) (fun g mm gm m0 all ng X dr => ?_)
    · have le := pre k (Nat.le_refl _) all
      have eq : natS (lU w p) k = u := by omega
      have sl : slR w p k u k := ⟨Nat.le_refl _, le, fun _ => eq, fun z => absurd z (by omega)⟩
      have vv : sumN (T.2 (89 + 3 * p + 2)) k = slV w p k u k := by
        rw [q2 _ (by omega), sC k (Nat.le_refl _)]
        unfold slV slP
        rw [if_neg (by omega), Int64.add_zero]
      rw [vv]
      have := fin k X sl (fun i hi => absurd hi (by omega)) (fun c a b => dr.2.2 c (by omega) (by omega))
      rw [Nat.sub_self] at this
      exact this
    · have le := pre g (by omega) all
      have lt : u < natS (lU w p) (g + 1) := by
        rcases Nat.lt_or_ge u (natS (lU w p) (g + 1)) with z | z
        · exact z
        · exact absurd ((ps g (by omega) le).mpr z) ng
      have sl : slR w p k u g := ⟨by omega, le, fun z => absurd z (by omega), fun _ => lt⟩
      obtain ⟨l2, l3⟩ := slP_le o sl (by omega)
      obtain ⟨w1', -, -, w5⟩ := o.2.2.1 g (by omega)
      have tu : T.2 (89 + 3 * p + 1) g = lN (lU w p g) := by rw [q2 _ (by omega), show 89 + 3 * p + 1 = 90 + 3 * p by omega, (g7 g (by omega)).1, w1']
      have tc : T.2 (89 + 3 * p + 2) g = lC w p g := by rw [q2 _ (by omega), show 89 + 3 * p + 2 = 91 + 3 * p by omega, (g7 g (by omega)).2]; rfl
      have op : opC T (89 + 3 * p) y.toInt64 g = lN (u - natS (lU w p) g) := by
        unfold opC
        rw [q2 _ (by omega), sU g (by omega), yu, lN_sub le]
      have ct : cut (T.2 (89 + 3 * p + 2) g) (opC T (89 + 3 * p) y.toInt64 g) (T.2 (89 + 3 * p + 1) g) = slP w p k u g := by rw [tu, tc, op, l3]
      have vv : sumN (T.2 (89 + 3 * p + 2)) g + cut (T.2 (89 + 3 * p + 2) g) (opC T (89 + 3 * p) y.toInt64 g) (T.2 (89 + 3 * p + 1) g) = slV w p k u g := by
        rw [ct, q2 _ (by omega), sC g (by omega)]
        rfl
      rw [vv]
      have km : k - g = mm := by omega
      have := fin g X sl (fun i hi => ?_) (fun c a b => (dr.2.2 c (by omega) (by omega)).trans (by
        show tkX T (89 + 3 * p) y.toInt64 g c = T.2 c
        unfold tkX
        rw [u2_other _ _ _ (by omega), u2_other _ _ _ (by omega)]))
      · rw [km] at this
        exact this
      · obtain ⟨s1, s2⟩ := slW_l (w := w) (u := u) (show p < 4 by omega) hi k4
        obtain ⟨d1, d2⟩ := dr.1 i (by omega)
        rw [s1, s2, show 90 + 3 * p = 89 + 3 * p + 1 by omega, show 91 + 3 * p = 89 + 3 * p + 2 by omega]
        have d1 : X (89 + 3 * p + 1) i = tkX T (89 + 3 * p) y.toInt64 g (89 + 3 * p + 1) (g + i) := d1
        have d2 : X (89 + 3 * p + 2) i = tkX T (89 + 3 * p) y.toInt64 g (89 + 3 * p + 2) (g + i) := d2
        rw [d1, d2]
        unfold tkX
        by_cases z : i = 0
        · subst z
          rw [if_pos rfl, if_pos rfl, show g + 0 = g from rfl, u2_k _ _ _ _ (by omega), u2_s, u2_s, ct, op, tu, tc, lN_sub (by omega)]
          exact ⟨rfl, rfl⟩
        · rw [if_neg z, if_neg z, u2_j _ _ _ _ (by omega), u2_j _ _ _ _ (by omega), u2_j _ _ _ _ (by omega), u2_j _ _ _ _ (by omega), q2 _ (by omega), q2 _ (by omega), show 89 + 3 * p + 1 = 90 + 3 * p by omega, show 89 + 3 * p + 2 = 91 + 3 * p by omega, (g7 (g + i) (by omega)).1, (g7 (g + i) (by omega)).2, Nat.add_comm g i]
          exact ⟨rfl, rfl⟩
