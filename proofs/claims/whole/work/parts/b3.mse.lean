/-! ===== sell: the model ===== -/
def lay (w : Nat → Int64) (p k g j q : Nat) : Int64 := if j + g < k then w (419 + 83 * p + 2 * (j + g) + q) else 0
/-- a row of the model with such layers of product p -/
def rwL (w : Nat → Int64) (p : Nat) (X : Nat → Int64) (st : Int64) (L : Nat → Nat → Int64) : Prop := (∀ i, i < 754 → i < 418 + 83 * p ∨ 501 + 83 * p ≤ i → X i = w i) ∧ X (418 + 83 * p) = st ∧ ∀ j q, j < 41 → q < 2 → X (419 + 83 * p + 2 * j + q) = L j q
theorem rwL.up {w : Nat → Int64} {p : Nat} {X : Nat → Int64} {st : Int64} {L : Nat → Nat → Int64} (h : rwL w p X st L) {a b i : Nat} (hi : i = 419 + 83 * p + 2 * a + b) (ha : a < 41) (hb : b < 2) (v : Int64) : rwL w p (u1L X i v) st (fun j q => if j = a ∧ q = b then v else L j q) := by
  subst hi
  refine ⟨fun i x y => (u1L_o X _ (by omega)).trans (h.1 i x y), (u1L_o X _ (by omega)).trans h.2.1, fun j q x y => ?_⟩
  show u1L X _ v _ = if j = a ∧ q = b then v else L j q
  by_cases z : j = a ∧ q = b
  · obtain ⟨rfl, rfl⟩ := z
    rw [if_pos ⟨rfl, rfl⟩, u1L_s]
  · rw [if_neg z, u1L_o _ _ (by omega)]; exact h.2.2 j q x y
theorem rwL.co {w : Nat → Int64} {p : Nat} {X : Nat → Int64} {st : Int64} {L L' : Nat → Nat → Int64} (h : rwL w p X st L) (e : ∀ j q, j < 41 → q < 2 → L j q = L' j q) : rwL w p X st L' := ⟨h.1, h.2.1, fun j q a b => (h.2.2 j q a b).trans (e j q a b)⟩
theorem rwL.st {w : Nat → Int64} {p : Nat} {X : Nat → Int64} {st st' : Int64} {L : Nat → Nat → Int64} (h : rwL w p X st L) : rwL w p (u1L X (418 + 83 * p) st') st' L := ⟨fun i a b => (u1L_o X _ (by omega)).trans (h.1 i a b), u1L_s _ _ _, fun j q a b => (u1L_o X _ (by omega)).trans (h.2.2 j q a b)⟩
theorem natdiv_self {a b : Nat} (h : 1 ≤ b) : a * b / b = a := Nat.mul_div_cancel _ (by omega)
theorem e_layerAt' (p k : Nat) (v : Int64) (hv : v = lN k) (S : Mem) {Qr : QR} {Qx : QX} (h : Qr (some (.int (nI (419 + 83 * p + 2 * k)))) S) : sX10_layerAt 156 [.int (nI p), .long v] S Qr Qx := by
  subst hv
  exact e_layerAt p k S h
set_option maxHeartbeats 8000000 in
theorem e_mSell {S : Mem} {tp : Nat} {sg : Nat → Int32} {fp : Int32} {r : Nat → Int32} {w : Nat → Int64} {H : HL} {n m : Nat} (hI : MI S tp sg fp r w H) (hf : WFt w n m) (hO : ∀ p, p < m → ∃ k, stO w p k) (x y : Int32) {Qr : QR} {Qx : QX} (hE : ¬ (∃ d, d < m ∧ x = nI d) → ∀ S', MI S' tp sg fp (bmp r 0) w H → FC S S' → S'.1 138 0 = 1 → Qr (some (.long 0)) S') (hA : ∀ d, d < m → x = nI d → ¬ inR y 1 50000 → ∀ S', MI S' tp sg fp (bmp r 1) w H → FC S S' → S'.1 138 0 = 2 → Qr (some (.long 0)) S') (hS : ∀ p u k, p < m → x = nI p → 1 ≤ u → u ≤ 50000 → y = nI u → stO w p k → natS (lU w p) k < u → ∀ S', MI S' tp sg fp (bmp r 2) w H → FC S S' → S'.1 138 0 = 3 → Qr (some (.long 0)) S')
    (h1 : ∀ p u k g, p < m → x = nI p → 1 ≤ u → u ≤ 50000 → y = nI u → stO w p k → u ≤ natS (lU w p) k → slR w p k u g → ∀ S', MI S' tp sg fp r (slW w p k u g) ((w :: H).take 8) → FC S S' → S'.1 138 0 = 0 → Qr (some (.long (slV w p k u g))) S') : vsp 156 10 (sX10_sell 156) [.ref 138, .int x, .int y] S Qr Qx := by
  obtain ⟨i0, f0⟩ := hI.thr 0
  have t0 : (th0 S).1 138 0 = 0 := u2_s S.1 138 0 0
  have m4 := hf.2.1
  have nw : NwR (th0 S) w := i0.2.2.2.1
  have s1 : (th0 S).2 141 1 = lN m := (nw 1 (by decide)).trans hf.2.2.2.1
  obtain ⟨ib0, fb0, eb0⟩ := i0.bad 1 (i := 0) (by decide)
  obtain ⟨ib, fb, eb⟩ := i0.bad 2 (i := 1) (by decide)
  obtain ⟨ib2, fb2, eb2⟩ := i0.bad 3 (i := 2) (by decide)
  by_cases hx : ∃ d, d < m ∧ x = nI d
  · obtain ⟨p, hp, rfl⟩ := hx
    by_cases hy : inR y 1 50000
    · obtain ⟨u, u1, u2', e'⟩ := hy
      obtain ⟨k, o⟩ := hO p hp
      have k4 := o.1
      have bb := o.b
      have lyk := lyN_le o.2.1 k4
      have sv : stV w p 0 = lN (natS (lU w p) k) := by
        unfold stV
        rw [lyk]
        exact (o.sU (Nat.le_refl _)).1
      by_cases hu : u ≤ natS (lU w p) k
      · -- the loops, over the state behind remembering
        have lay0 : ∀ g, g < k → lay w p k g 0 0 = lN (lU w p g) ∧ lay w p k g 0 1 = lC w p g := fun g hg => by
          obtain ⟨a1, -⟩ := o.2.2.1 g hg
          unfold lay
          rw [if_pos (by omega), if_pos (by omega), show 419 + 83 * p + 2 * (0 + g) + 0 = 419 + 83 * p + 2 * g by omega, show 419 + 83 * p + 2 * (0 + g) + 1 = 420 + 83 * p + 2 * g by omega]
          exact ⟨a1, rfl⟩
        have la : ∀ (T : Mem) (j q : Nat) {X : Nat → Nat → Int64} {st : Int64} {L : Nat → Nat → Int64}, rwL w p (X 141) st L → j < 41 → q < 2 → X 141 (419 + 83 * p + 2 * j + q) = L j q := fun _ j q _ _ _ h a b => h.2.2 j q a b
        refine ⟨tM, runM (ι := Nat × LL × Mem × Nat) rfl 300 0 [91, 203] (fun a => a.1) (fun a => a.2.1) (fun a => a.2.2.1) (fun a => a.2.2.2)
          (fun a => ∃ T, (MI T tp sg fp r w ((w :: H).take 8) ∧ FC S T ∧ T.1 138 0 = 0) ∧
            ((∃ g X, g ≤ k ∧ natS (lU w p) g ≤ u ∧ rwL w p (X 141) (lN (k - g)) (lay w p k g) ∧ (∀ c, c ≠ 141 → X c = T.2 c) ∧ a = (91, (fun l c => [(3, .long l), (5, .long c), (0, .ref 138), (1, .int (nI p)), (2, .int y)]) (lN (u - natS (lU w p) g)) (sumN (lC w p) g), (T.1, X), (k - g) * 100 + 99)) ∨
            (∃ g X, g < k ∧ natS (lU w p) g ≤ u ∧ u < natS (lU w p) (g + 1) ∧ rwL w p (X 141) (lN (k - g)) (fun j q => if j = 0 then (if q = 0 then lN (lU w p g - (u - natS (lU w p) g)) else (lC w p g - slP w p k u g)) else lay w p k g j q) ∧ (∀ c, c ≠ 141 → X c = T.2 c) ∧ a = (91, (fun l c => [(3, .long l), (5, .long c), (0, .ref 138), (1, .int (nI p)), (2, .int y)]) 0 (slV w p k u g), (T.1, X), 0)) ∨
            (∃ g i X, g < k ∧ natS (lU w p) (g + 1) ≤ u ∧ 1 ≤ i ∧ i ≤ k - g + 1 ∧ rwL w p (X 141) (lN (k - g)) (fun j q => if j + 1 < i then lay w p k g (j + 1) q else if j = 0 then 0 else lay w p k g j q) ∧ (∀ c, c ≠ 141 → X c = T.2 c) ∧ a = (203, [(13, .int (nI i)), (3, .long (lN (u - natS (lU w p) (g + 1)))), (5, .long (sumN (lC w p) (g + 1))), (0, .ref 138), (1, .int (nI p)), (2, .int y)], (T.1, X), (k - g) * 100 + 50 - i)))) ?_ ?_⟩
        · rintro a ⟨T, ⟨iT, fT, zT⟩, hcase⟩
          -- the end of the sale
          have fin : ∀ (g : Nat) (X : Nat → Nat → Int64), slR w p k u g → rwL w p (X 141) (lN (k - g)) (fun j q => if j = 0 ∧ g < k then (if q = 0 then lN (lU w p g - (u - natS (lU w p) g)) else (lC w p g - slP w p k u g)) else lay w p k g j q) → (∀ c, c ≠ 141 → X c = T.2 c) → wpH 156 pX10_sell (kX10_sell 156) hd0 [] none 14 (some .long) Qr Qx [] 60 (jmp 297 pX10_sell) 0 ((fun l c => [(3, .long l), (5, .long c), (0, .ref 138), (1, .int (nI p)), (2, .int y)]) 0 (slV w p k u g)) [] (T.1, X) := by
            intro g X sl hX hc
            have x751 : X 141 751 = w 751 := hX.1 751 (by decide) (by omega)
            have rowEq : ∀ i, i < 754 → u2 X 141 751 (X 141 751 + slV w p k u g) 141 i = slW w p k u g i := by
              intro i hi
              rw [u2_rowL]
              unfold slW
              by_cases a1 : i = 418 + 83 * p
              · subst a1
                rw [if_pos rfl, u1L_o _ _ (by omega)]; exact hX.2.1
              · rw [if_neg a1]
                by_cases a2 : i = 751
                · subst a2; rw [if_pos rfl, u1L_s, x751]
                · rw [if_neg a2, u1L_o _ _ a2]
                  by_cases a3 : 419 + 83 * p ≤ i ∧ i < 501 + 83 * p
                  · rw [if_pos a3]
                    obtain ⟨j, q, hj, hq, rfl⟩ : ∃ j q, j < 41 ∧ q < 2 ∧ i = 419 + 83 * p + 2 * j + q := ⟨(i - (419 + 83 * p)) / 2, (i - (419 + 83 * p)) % 2, by omega, by omega, by omega⟩
                    have jj : (419 + 83 * p + 2 * j + q - (419 + 83 * p)) / 2 = j := by omega
                    have hv : X 141 (419 + 83 * p + 2 * j + q) = (if j = 0 ∧ g < k then (if q = 0 then lN (lU w p g - (u - natS (lU w p) g)) else (lC w p g - slP w p k u g)) else lay w p k g j q) := hX.2.2 j q hj hq
                    rw [jj, hv]
                    by_cases jk : j + g < k
                    · rw [if_pos jk]
                      by_cases j0 : j = 0
                      · subst j0
                        rw [if_pos ⟨rfl, by omega⟩]
                        rcases (show q = 0 ∨ q = 1 by omega) with rfl | rfl
                        · rw [if_pos rfl, if_pos (by omega)]
                        · rw [if_neg (by decide), if_neg (by omega), if_pos (by omega)]
                      · rw [if_neg (fun z => j0 z.1), if_neg (by omega), if_neg (by omega)]
                        unfold lay
                        rw [if_pos jk, show 419 + 83 * p + 2 * j + q + 2 * g = 419 + 83 * p + 2 * (j + g) + q by omega]
                    · rw [if_neg jk]
                      have : ¬ (j = 0 ∧ g < k) := fun z => jk (by omega)
                      rw [if_neg this]
                      unfold lay
                      rw [if_neg jk]
                  · rw [if_neg a3]; exact hX.1 i hi (by omega)
            obtain ⟨iU, fU⟩ := iT.now (w' := slW w p k u g) (u2 X 141 751 (X 141 751 + slV w p k u g)) rowEq (fun c hc' => (u2_other _ _ _ hc').trans (hc c hc'))
            exact ⟨tM, 754, tNow, vp_nI (n := 751) (by decide), 754, tNow, vp_nI (n := 751) (by decide), rfl, h1 p u k g hp rfl u1 u2' e' o hu sl _ iU (fT.trans fU) zT⟩
          rcases hcase with ⟨g, X, hg, hgu, hX, hc, rfl⟩ | ⟨g, X, hg, hgu, hlt, hX, hc, rfl⟩ | ⟨g, i, X, hg, hgu, hi1, hi2, hX, hc, rfl⟩
          · have uk := natS_up (f := lU w p) hg
            refine And.intro (fun q => ?_) (fun q => ?_)
            · have q : lN (u - natS (lU w p) g) ≤ lN 0 := (lg_cmp_le _ _).mp q
              have q := (pk_lLE (by omega) (by omega)).mp q
              have eq : natS (lU w p) g = u := by omega
              have sl : slR w p k u g := ⟨hg, hgu, fun z => by rw [← z]; exact eq, fun z => by
                have := (o.2.2.1 g z).2.2.1
                show u < natS (lU w p) g + lU w p g
                omega⟩
              have p0 : slP w p k u g = 0 := by
                unfold slP
                by_cases z : g < k
                · rw [if_pos z, show u - natS (lU w p) g = 0 by omega]
                  unfold cut
                  split
                  · rfl
                  · rw [show lN 0 = 0 from rfl, Int64.mul_zero, Int64.zero_div]
                · rw [if_neg z]
              have sV : slV w p k u g = sumN (lC w p) g := by unfold slV; rw [p0, Int64.add_zero]
              have := fin g X sl (hX.co (fun j q' a b => by
                show _ = (if j = 0 ∧ g < k then _ else _)
                by_cases z : j = 0 ∧ g < k
                · obtain ⟨rfl, z⟩ := z
                  obtain ⟨b1, b2⟩ := lay0 g z
                  rw [if_pos ⟨rfl, z⟩, p0, show u - natS (lU w p) g = 0 by omega, Nat.sub_zero, Int64.sub_zero]
                  rcases (show q' = 0 ∨ q' = 1 by omega) with rfl | rfl
                  · rw [if_pos rfl]; exact b1
                  · rw [if_neg (by decide)]; exact b2
                · rw [if_neg z])) hc
              rw [sV, ← show lN (u - natS (lU w p) g) = 0 by rw [show u - natS (lU w p) g = 0 by omega]; rfl] at this
              exact this
            · have q : ¬ lN (u - natS (lU w p) g) ≤ lN 0 := fun z => q ((lg_cmp_le _ _).mpr z)
              have q : natS (lU w p) g < u := by
                rcases Nat.lt_or_ge (natS (lU w p) g) u with z | z
                · exact z
                · exact absurd ((pk_lLE (by omega) (by omega)).mpr (by omega)) q
              have gk : g < k := by
                rcases Nat.lt_or_ge g k with z | z
                · exact z
                · have : g = k := by omega
                  subst this
                  omega
              obtain ⟨b1, b2⟩ := lay0 g gk
              obtain ⟨-, o2, o1, o3⟩ := o.2.2.1 g gk
              have ix : (nI (419 + 83 * p + 2 * 0)).toNatClampNeg = 419 + 83 * p := by rw [nI_clamp (by omega)]; omega
              have ix1 : (nI (419 + 83 * p + 2 * 0) + nI 1).toNatClampNeg = 420 + 83 * p := by rw [nI_add, nI_clamp (by omega)]; omega
              have vx : vp_in (nI (419 + 83 * p + 2 * 0)) 754 := vp_nI (by omega)
              have vx1 : vp_in (nI (419 + 83 * p + 2 * 0) + nI 1) 754 := by rw [nI_add]; exact vp_nI (by omega)
              have xU : X 141 (nI (419 + 83 * p + 2 * 0)).toNatClampNeg = lN (lU w p g) := by
                rw [ix]; exact (hX.2.2 0 0 (by decide) (by decide)).trans b1
              have xC : X 141 (nI (419 + 83 * p + 2 * 0) + nI 1).toNatClampNeg = lC w p g := by
                rw [ix1]
                have := (hX.2.2 0 1 (by decide) (by decide)).trans b2
                rw [show 419 + 83 * p + 2 * 0 + 1 = 420 + 83 * p by omega] at this
                exact this
              have PUs : natS (lU w p) (g + 1) = natS (lU w p) g + lU w p g := rfl
              -- what is taken, what it costs
              obtain ⟨t, its, tk, ct, tl, hti⟩ : ∃ (t : Nat) (its : Int64), lessL (lN (u - natS (lU w p) g)) (X 141 (nI (419 + 83 * p + 2 * 0)).toNatClampNeg) = lN t ∧ cut (X 141 (nI (419 + 83 * p + 2 * 0) + nI 1).toNatClampNeg) (lN t) (X 141 (nI (419 + 83 * p + 2 * 0)).toNatClampNeg) = its ∧ t ≤ lU w p g ∧ ((natS (lU w p) (g + 1) ≤ u ∧ t = lU w p g ∧ its = lC w p g) ∨ (u < natS (lU w p) (g + 1) ∧ t = u - natS (lU w p) g ∧ its = slP w p k u g)) := by
                rw [xU, xC]
                rcases Nat.lt_or_ge u (natS (lU w p) (g + 1)) with z | z
                · obtain ⟨l2, l3⟩ := slP_le o ⟨by omega, hgu, fun y => absurd y (by omega), fun _ => z⟩ gk
                  refine ⟨u - natS (lU w p) g, slP w p k u g, ?_, l3, by omega, Or.inr ⟨z, rfl, rfl⟩⟩
                  unfold lessL
                  rw [if_pos ((pk_lLT (by omega) (by omega)).mpr l2)]
                · refine ⟨lU w p g, lC w p g, ?_, o2, Nat.le_refl _, Or.inl ⟨z, rfl, rfl⟩⟩
                  unfold lessL
                  rw [if_neg (fun y => by have := (pk_lLT (by omega) (by omega)).mp y; omega)]
              have st : (u2 (u2 X 141 (nI (419 + 83 * p + 2 * 0)).toNatClampNeg (X 141 (nI (419 + 83 * p + 2 * 0)).toNatClampNeg - (lessL (lN (u - natS (lU w p) g)) (X 141 (nI (419 + 83 * p + 2 * 0)).toNatClampNeg)))) 141 (nI (419 + 83 * p + 2 * 0) + nI 1).toNatClampNeg (u2 X 141 (nI (419 + 83 * p + 2 * 0)).toNatClampNeg (X 141 (nI (419 + 83 * p + 2 * 0)).toNatClampNeg - (lessL (lN (u - natS (lU w p) g)) (X 141 (nI (419 + 83 * p + 2 * 0)).toNatClampNeg))) 141 (nI (419 + 83 * p + 2 * 0) + nI 1).toNatClampNeg - (cut (X 141 (nI (419 + 83 * p + 2 * 0) + nI 1).toNatClampNeg) (lessL (lN (u - natS (lU w p) g)) (X 141 (nI (419 + 83 * p + 2 * 0)).toNatClampNeg)) (X 141 (nI (419 + 83 * p + 2 * 0)).toNatClampNeg)))) = (u2 (u2 X 141 (419 + 83 * p) (lN (lU w p g - t))) 141 (420 + 83 * p) ((lC w p g - its))) := by
                rw [tk, ct, ix, ix1]
                rw [ix] at xU
                rw [ix1] at xC
                rw [u2_j _ _ _ _ (by omega), xU, xC, lN_sub tl]
              have hZ : rwL w p (u2 (u2 X 141 (419 + 83 * p) (lN (lU w p g - t))) 141 (420 + 83 * p) ((lC w p g - its)) 141) (lN (k - g)) (fun j q => if j = 0 then (if q = 0 then lN (lU w p g - t) else (lC w p g - its)) else lay w p k g j q) := by
                rw [u2_rowL, u2_rowL]
                refine ((hX.up (a := 0) (b := 0) (by omega) (by decide) (by decide) _).up (a := 0) (b := 1) (by omega) (by decide) (by decide) _).co (fun j q' a b => ?_)
                show (if j = 0 ∧ q' = 1 then _ else if j = 0 ∧ q' = 0 then _ else _) = (if j = 0 then (if q' = 0 then _ else _) else _)
                by_cases z : j = 0
                · rw [if_pos z]
                  rcases (show q' = 0 ∨ q' = 1 by omega) with rfl | rfl
                  · rw [if_neg (fun y => absurd y.2 (by decide)), if_pos ⟨z, rfl⟩, if_pos rfl]
                  · rw [if_pos ⟨z, rfl⟩, if_neg (by decide)]
                · rw [if_neg z, if_neg (fun y => z y.1), if_neg (fun y => z y.1)]
              have hZc : ∀ c, c ≠ 141 → u2 (u2 X 141 (419 + 83 * p) (lN (lU w p g - t))) 141 (420 + 83 * p) ((lC w p g - its)) c = T.2 c := fun c hc' => (u2_other _ _ _ hc').trans ((u2_other _ _ _ hc').trans (hc c hc'))
              have hl : lN (u - natS (lU w p) g) - lN t = lN (u - natS (lU w p) g - t) := lN_sub (by rcases hti with ⟨a, b, -⟩ | ⟨a, b, -⟩ <;> omega)
              have z0 : (u2 (u2 X 141 (nI (419 + 83 * p + 2 * 0)).toNatClampNeg (X 141 (nI (419 + 83 * p + 2 * 0)).toNatClampNeg - (lessL (lN (u - natS (lU w p) g)) (X 141 (nI (419 + 83 * p + 2 * 0)).toNatClampNeg)))) 141 (nI (419 + 83 * p + 2 * 0) + nI 1).toNatClampNeg (u2 X 141 (nI (419 + 83 * p + 2 * 0)).toNatClampNeg (X 141 (nI (419 + 83 * p + 2 * 0)).toNatClampNeg - (lessL (lN (u - natS (lU w p) g)) (X 141 (nI (419 + 83 * p + 2 * 0)).toNatClampNeg))) 141 (nI (419 + 83 * p + 2 * 0) + nI 1).toNatClampNeg - (cut (X 141 (nI (419 + 83 * p + 2 * 0) + nI 1).toNatClampNeg) (lessL (lN (u - natS (lU w p) g)) (X 141 (nI (419 + 83 * p + 2 * 0)).toNatClampNeg)) (X 141 (nI (419 + 83 * p + 2 * 0)).toNatClampNeg)))) 141 (nI (419 + 83 * p + 2 * 0)).toNatClampNeg = lN (lU w p g - t) := by
                rw [st, ix]
                exact (hZ.2.2 0 0 (by decide) (by decide))
              refine ⟨tM, ⟨Nat.le_of_ble_eq_true rfl, Nat.le_of_ble_eq_true rfl, Nat.le_of_ble_eq_true rfl⟩, e_layerAt p 0 _ ⟨754, tNow, vx, ⟨Nat.le_of_ble_eq_true rfl, Nat.le_of_ble_eq_true rfl, Nat.le_of_ble_eq_true rfl⟩, e_less _ _ _ ⟨tM, ⟨Nat.le_of_ble_eq_true rfl, Nat.le_of_ble_eq_true rfl, Nat.le_of_ble_eq_true rfl⟩, e_layerAt p 0 _ ⟨754, tNow, vx1, ⟨Nat.le_of_ble_eq_true rfl, Nat.le_of_ble_eq_true rfl, Nat.le_of_ble_eq_true rfl⟩, e_mcut _ _ _ _ ⟨tM, ⟨Nat.le_of_ble_eq_true rfl, Nat.le_of_ble_eq_true rfl, Nat.le_of_ble_eq_true rfl⟩, e_layerAt p 0 _ ⟨754, tNow, vx, 754, tNow, vx, tM, ⟨Nat.le_of_ble_eq_true rfl, Nat.le_of_ble_eq_true rfl, Nat.le_of_ble_eq_true rfl⟩, e_layerAt p 0 _ ⟨754, tNow, vx1, 754, tNow, vx1, tM, ⟨Nat.le_of_ble_eq_true rfl, Nat.le_of_ble_eq_true rfl, Nat.le_of_ble_eq_true rfl⟩, e_layerAt p 0 _ ⟨754, tNow, vx, And.intro (fun q2 => ?_) (fun q2 => ?_)⟩⟩⟩⟩⟩⟩⟩⟩
              · have q2 : (u2 (u2 X 141 (nI (419 + 83 * p + 2 * 0)).toNatClampNeg (X 141 (nI (419 + 83 * p + 2 * 0)).toNatClampNeg - (lessL (lN (u - natS (lU w p) g)) (X 141 (nI (419 + 83 * p + 2 * 0)).toNatClampNeg)))) 141 (nI (419 + 83 * p + 2 * 0) + nI 1).toNatClampNeg (u2 X 141 (nI (419 + 83 * p + 2 * 0)).toNatClampNeg (X 141 (nI (419 + 83 * p + 2 * 0)).toNatClampNeg - (lessL (lN (u - natS (lU w p) g)) (X 141 (nI (419 + 83 * p + 2 * 0)).toNatClampNeg))) 141 (nI (419 + 83 * p + 2 * 0) + nI 1).toNatClampNeg - (cut (X 141 (nI (419 + 83 * p + 2 * 0) + nI 1).toNatClampNeg) (lessL (lN (u - natS (lU w p) g)) (X 141 (nI (419 + 83 * p + 2 * 0)).toNatClampNeg)) (X 141 (nI (419 + 83 * p + 2 * 0)).toNatClampNeg)))) 141 (nI (419 + 83 * p + 2 * 0)).toNatClampNeg ≤ lN 0 := (lg_cmp_le _ _).mp q2
                rw [z0] at q2
                have q2 := (pk_lLE (by omega) (by omega)).mp q2
                obtain ⟨a1, a2, a3⟩ : natS (lU w p) (g + 1) ≤ u ∧ t = lU w p g ∧ its = lC w p g := by
                  rcases hti with z | ⟨z1, z2, z3⟩
                  · exact z
                  · omega
                refine ⟨rfl, rfl, (203, [(13, .int (nI 1)), (3, .long (lN (u - natS (lU w p) (g + 1)))), (5, .long (sumN (lC w p) (g + 1))), (0, .ref 138), (1, .int (nI p)), (2, .int y)], (T.1, (u2 (u2 X 141 (419 + 83 * p) (lN (lU w p g - t))) 141 (420 + 83 * p) ((lC w p g - its)))), (k - g) * 100 + 50 - 1), rfl, ⟨⟨T, ⟨iT, fT, zT⟩, Or.inr (Or.inr ⟨g, 1, (u2 (u2 X 141 (419 + 83 * p) (lN (lU w p g - t))) 141 (420 + 83 * p) ((lC w p g - its))), gk, a1, Nat.le_refl _, by omega, hZ.co (fun j q' a b => ?_), hZc, rfl⟩)⟩, by show (k - g) * 100 + 50 - 1 < (k - g) * 100 + 99; omega⟩, ?_, rfl, ?_, ?_, rfl, rfl, rfl, trivial⟩
                · show (if j = 0 then (if q' = 0 then _ else _) else _) = (if j + 1 < 1 then _ else if j = 0 then _ else _)
                  rw [if_neg (show ¬ j + 1 < 1 by omega), a2, a3, Nat.sub_self, Int64.sub_self]
                  by_cases z : j = 0
                  · rw [if_pos z, if_pos z]
                    rcases (show q' = 0 ∨ q' = 1 by omega) with rfl | rfl <;> rfl
                  · rw [if_neg z, if_neg z]
                · exact congrArg (fun z => (T.1, z)) st
                · refine congrArg (fun z => some (Value.long z)) ?_
                  show lN (u - natS (lU w p) g) - (lessL (lN (u - natS (lU w p) g)) (X 141 (nI (419 + 83 * p + 2 * 0)).toNatClampNeg)) = lN (u - natS (lU w p) (g + 1))
                  rw [tk, hl, a2, PUs, Nat.sub_add_eq]
                · refine congrArg (fun z => some (Value.long z)) ?_
                  show sumN (lC w p) g + (cut (X 141 (nI (419 + 83 * p + 2 * 0) + nI 1).toNatClampNeg) (lessL (lN (u - natS (lU w p) g)) (X 141 (nI (419 + 83 * p + 2 * 0)).toNatClampNeg)) (X 141 (nI (419 + 83 * p + 2 * 0)).toNatClampNeg)) = sumN (lC w p) (g + 1)
                  rw [tk, ct, a3]
                  rfl
              · have q2 : ¬ (u2 (u2 X 141 (nI (419 + 83 * p + 2 * 0)).toNatClampNeg (X 141 (nI (419 + 83 * p + 2 * 0)).toNatClampNeg - (lessL (lN (u - natS (lU w p) g)) (X 141 (nI (419 + 83 * p + 2 * 0)).toNatClampNeg)))) 141 (nI (419 + 83 * p + 2 * 0) + nI 1).toNatClampNeg (u2 X 141 (nI (419 + 83 * p + 2 * 0)).toNatClampNeg (X 141 (nI (419 + 83 * p + 2 * 0)).toNatClampNeg - (lessL (lN (u - natS (lU w p) g)) (X 141 (nI (419 + 83 * p + 2 * 0)).toNatClampNeg))) 141 (nI (419 + 83 * p + 2 * 0) + nI 1).toNatClampNeg - (cut (X 141 (nI (419 + 83 * p + 2 * 0) + nI 1).toNatClampNeg) (lessL (lN (u - natS (lU w p) g)) (X 141 (nI (419 + 83 * p + 2 * 0)).toNatClampNeg)) (X 141 (nI (419 + 83 * p + 2 * 0)).toNatClampNeg)))) 141 (nI (419 + 83 * p + 2 * 0)).toNatClampNeg ≤ lN 0 := fun z => q2 ((lg_cmp_le _ _).mpr z)
                rw [z0] at q2
                have q2 : t < lU w p g := by
                  rcases Nat.lt_or_ge t (lU w p g) with z | z
                  · exact z
                  · exact absurd ((pk_lLE (by omega) (by omega)).mpr (by omega)) q2
                obtain ⟨a1, a2, a3⟩ : u < natS (lU w p) (g + 1) ∧ t = u - natS (lU w p) g ∧ its = slP w p k u g := by
                  rcases hti with ⟨z1, z2, z3⟩ | z
                  · omega
                  · exact z
                refine ⟨rfl, rfl, (91, (fun l c => [(3, .long l), (5, .long c), (0, .ref 138), (1, .int (nI p)), (2, .int y)]) 0 (slV w p k u g), (T.1, (u2 (u2 X 141 (419 + 83 * p) (lN (lU w p g - t))) 141 (420 + 83 * p) ((lC w p g - its)))), 0), rfl, ⟨⟨T, ⟨iT, fT, zT⟩, Or.inr (Or.inl ⟨g, (u2 (u2 X 141 (419 + 83 * p) (lN (lU w p g - t))) 141 (420 + 83 * p) ((lC w p g - its))), gk, hgu, a1, hZ.co (fun j q' a b => ?_), hZc, rfl⟩)⟩, by show 0 < (k - g) * 100 + 99; omega⟩, ?_, ?_, ?_, rfl, rfl, rfl, trivial⟩
                · show (if j = 0 then (if q' = 0 then _ else _) else _) = (if j = 0 then (if q' = 0 then _ else _) else _)
                  rw [a2, a3]
                · exact congrArg (fun z => (T.1, z)) st
                · refine congrArg (fun z => some (Value.long z)) ?_
                  show lN (u - natS (lU w p) g) - (lessL (lN (u - natS (lU w p) g)) (X 141 (nI (419 + 83 * p + 2 * 0)).toNatClampNeg)) = 0
                  rw [tk, hl, a2, Nat.sub_self]
                  rfl
                · refine congrArg (fun z => some (Value.long z)) ?_
                  show sumN (lC w p) g + (cut (X 141 (nI (419 + 83 * p + 2 * 0) + nI 1).toNatClampNeg) (lessL (lN (u - natS (lU w p) g)) (X 141 (nI (419 + 83 * p + 2 * 0)).toNatClampNeg)) (X 141 (nI (419 + 83 * p + 2 * 0)).toNatClampNeg)) = slV w p k u g
                  rw [tk, ct, a3]
                  rfl
          · refine And.intro (fun _ => ?_) (fun q => absurd ((lg_cmp_le _ _).mpr (show (0 : Int64) ≤ 0 by decide)) q)
            refine fin g X ⟨by omega, hgu, fun z => absurd z (by omega), fun _ => hlt⟩ (hX.co (fun j q a b => ?_)) hc
            show (if j = 0 then _ else _) = (if j = 0 ∧ g < k then _ else _)
            by_cases z : j = 0
            · rw [if_pos z, if_pos (show j = 0 ∧ g < k from ⟨z, hg⟩)]
            · rw [if_neg z, if_neg (show ¬ (j = 0 ∧ g < k) from fun y => z y.1)]
          · have sx : X 141 (nI (418 + 83 * p)).toNatClampNeg = lN (k - g) := by rw [nI_clamp (by omega)]; exact hX.2.1
            have vs : vp_in (nI (418 + 83 * p)) 754 := vp_nI (by omega)
            refine ⟨tM, ⟨Nat.le_of_ble_eq_true rfl, Nat.le_of_ble_eq_true rfl, Nat.le_of_ble_eq_true rfl⟩, e_storeAt p _ ⟨754, tNow, vs, And.intro (fun q => ?_) (fun q => ?_)⟩⟩
            · have q : X 141 (nI (418 + 83 * p)).toNatClampNeg < (nI i).toInt64 := (lg_cmp_gt _ _).mp q
              rw [sx, nI_l (by omega)] at q
              have q := (pk_lLT (by omega) (by omega)).mp q
              have ei : i = k - g + 1 := by omega
              subst ei
              have st : u2 X 141 (nI (418 + 83 * p)).toNatClampNeg (X 141 (nI (418 + 83 * p)).toNatClampNeg - 1) = u2 X 141 (418 + 83 * p) (lN (k - (g + 1))) := by
                rw [sx, nI_clamp (by omega), show lN (k - g) - 1 = lN (k - (g + 1)) by
                  rw [show (1 : Int64) = lN 1 from rfl, lN_sub (by omega), Nat.sub_sub]]
              refine ⟨tM, ⟨Nat.le_of_ble_eq_true rfl, Nat.le_of_ble_eq_true rfl, Nat.le_of_ble_eq_true rfl⟩, e_storeAt p _ ⟨754, tNow, vs, 754, tNow, vs, ?_⟩⟩
              refine ⟨rfl, rfl, (91, (fun l c => [(3, .long l), (5, .long c), (0, .ref 138), (1, .int (nI p)), (2, .int y)]) (lN (u - natS (lU w p) (g + 1))) (sumN (lC w p) (g + 1)), (T.1, u2 X 141 (418 + 83 * p) (lN (k - (g + 1)))), (k - (g + 1)) * 100 + 99), rfl, ⟨⟨T, ⟨iT, fT, zT⟩, Or.inl ⟨g + 1, u2 X 141 (418 + 83 * p) (lN (k - (g + 1))), hg, hgu, ?_, fun c hc' => (u2_other _ _ _ hc').trans (hc c hc'), rfl⟩⟩, by show (k - (g + 1)) * 100 + 99 < (k - g) * 100 + 50 - (k - g + 1); omega⟩, congrArg (fun z => (T.1, z)) st, rfl, rfl, rfl, rfl, rfl, trivial⟩
              rw [u2_rowL]
              refine hX.st.co (fun j q' a b => ?_)
              show (if j + 1 < k - g + 1 then lay w p k g (j + 1) q' else if j = 0 then 0 else lay w p k g j q') = lay w p k (g + 1) j q'
              unfold lay
              by_cases z : j + 1 < k - g + 1
              · rw [if_pos z, show j + 1 + g = j + (g + 1) by omega]
              · rw [if_neg z, if_neg (show ¬ j = 0 by omega), if_neg (show ¬ j + g < k by omega), if_neg (show ¬ j + (g + 1) < k by omega)]
            · have q : ¬ X 141 (nI (418 + 83 * p)).toNatClampNeg < (nI i).toInt64 := fun z => q ((lg_cmp_gt _ _).mpr z)
              rw [sx, nI_l (by omega)] at q
              have q : i ≤ k - g := by
                rcases Nat.lt_or_ge (k - g) i with z | z
                · exact absurd ((pk_lLT (by omega) (by omega)).mpr z) q
                · exact z
              have v1 : (nI i - 1).toInt64 = lN (i - 1) := by
                have : nI i - 1 = nI (i - 1) := by
                  have := nI_pred (i - 1)
                  rw [show i - 1 + 1 = i by omega] at this
                  exact this
                rw [this, nI_l (by omega)]
              have v2 : (nI i).toInt64 = lN i := nI_l (by omega)
              have i0' : (nI (419 + 83 * p + 2 * (i - 1))).toNatClampNeg = 419 + 83 * p + 2 * (i - 1) := nI_clamp (by omega)
              have i0'' : (nI (419 + 83 * p + 2 * i)).toNatClampNeg = 419 + 83 * p + 2 * i := nI_clamp (by omega)
              have i1' : (nI (419 + 83 * p + 2 * (i - 1)) + 1).toNatClampNeg = 419 + 83 * p + 2 * (i - 1) + 1 := by rw [← nI_succ, nI_clamp (by omega)]
              have i1'' : (nI (419 + 83 * p + 2 * i) + 1).toNatClampNeg = 419 + 83 * p + 2 * i + 1 := by rw [← nI_succ, nI_clamp (by omega)]
              have vp0 : ∀ x, x < 754 → vp_in (nI x) 754 := fun x h => vp_nI h
              have vp1 : ∀ x, x + 1 < 754 → vp_in (nI x + 1) 754 := fun x h => by rw [← nI_succ]; exact vp_nI h
              refine ⟨tM, ⟨Nat.le_of_ble_eq_true rfl, Nat.le_of_ble_eq_true rfl, Nat.le_of_ble_eq_true rfl⟩, e_layerAt' p (i - 1) _ v1 _ ⟨tM, ⟨Nat.le_of_ble_eq_true rfl, Nat.le_of_ble_eq_true rfl, Nat.le_of_ble_eq_true rfl⟩, e_layerAt' p i _ v2 _ ⟨754, tNow, vp0 _ (by omega), 754, tNow, vp0 _ (by omega), tM, ⟨Nat.le_of_ble_eq_true rfl, Nat.le_of_ble_eq_true rfl, Nat.le_of_ble_eq_true rfl⟩, e_layerAt' p (i - 1) _ v1 _ ⟨tM, ⟨Nat.le_of_ble_eq_true rfl, Nat.le_of_ble_eq_true rfl, Nat.le_of_ble_eq_true rfl⟩, e_layerAt' p i _ v2 _ ⟨754, tNow, vp1 _ (by omega), 754, tNow, vp1 _ (by omega), ?_⟩⟩⟩⟩⟩
              have st : u2 (u2 X 141 (nI (419 + 83 * p + 2 * (i - 1))).toNatClampNeg (X 141 (nI (419 + 83 * p + 2 * i)).toNatClampNeg)) 141 (nI (419 + 83 * p + 2 * (i - 1)) + 1).toNatClampNeg (u2 X 141 (nI (419 + 83 * p + 2 * (i - 1))).toNatClampNeg (X 141 (nI (419 + 83 * p + 2 * i)).toNatClampNeg) 141 (nI (419 + 83 * p + 2 * i) + 1).toNatClampNeg) = u2 (u2 X 141 (419 + 83 * p + 2 * (i - 1)) (lay w p k g i 0)) 141 (419 + 83 * p + 2 * (i - 1) + 1) (lay w p k g i 1) := by
                have a0 : X 141 (419 + 83 * p + 2 * i) = lay w p k g i 0 := by
                  have := hX.2.2 i 0 (by omega) (by decide)
                  rw [show 419 + 83 * p + 2 * i + 0 = 419 + 83 * p + 2 * i from rfl] at this
                  rw [this]
                  show (if i + 1 < i then _ else if i = 0 then _ else _) = _
                  rw [if_neg (show ¬ i + 1 < i by omega), if_neg (show ¬ i = 0 by omega)]
                have a1 : X 141 (419 + 83 * p + 2 * i + 1) = lay w p k g i 1 := by
                  rw [hX.2.2 i 1 (by omega) (by decide)]
                  show (if i + 1 < i then _ else if i = 0 then _ else _) = _
                  rw [if_neg (show ¬ i + 1 < i by omega), if_neg (show ¬ i = 0 by omega)]
                rw [i0', i0'', i1', i1'', u2_j _ _ _ _ (by omega), a0, a1]
              refine ⟨rfl, rfl, (203, [(13, .int (nI (i + 1))), (3, .long (lN (u - natS (lU w p) (g + 1)))), (5, .long (sumN (lC w p) (g + 1))), (0, .ref 138), (1, .int (nI p)), (2, .int y)], (T.1, u2 (u2 X 141 (419 + 83 * p + 2 * (i - 1)) (lay w p k g i 0)) 141 (419 + 83 * p + 2 * (i - 1) + 1) (lay w p k g i 1)), (k - g) * 100 + 50 - (i + 1)), rfl, ⟨⟨T, ⟨iT, fT, zT⟩, Or.inr (Or.inr ⟨g, i + 1, _, hg, hgu, by omega, by omega, ?_, fun c hc' => (u2_other _ _ _ hc').trans ((u2_other _ _ _ hc').trans (hc c hc')), rfl⟩)⟩, by show (k - g) * 100 + 50 - (i + 1) < (k - g) * 100 + 50 - i; omega⟩, congrArg (fun z => (T.1, z)) st, congrArg (fun z => some (Value.int z)) (nI_succ i).symm, rfl, rfl, rfl, rfl, rfl, trivial⟩
              rw [u2_rowL, u2_rowL]
              refine ((hX.up (a := i - 1) (b := 0) (by omega) (by omega) (by decide) _).up (a := i - 1) (b := 1) (by omega) (by omega) (by decide) _).co (fun j q' a b => ?_)
              show (if j = i - 1 ∧ q' = 1 then lay w p k g i 1 else if j = i - 1 ∧ q' = 0 then lay w p k g i 0 else if j + 1 < i then lay w p k g (j + 1) q' else if j = 0 then 0 else lay w p k g j q') = (if j + 1 < i + 1 then lay w p k g (j + 1) q' else if j = 0 then 0 else lay w p k g j q')
              by_cases z : j = i - 1
              · subst z
                rw [if_pos (show i - 1 + 1 < i + 1 by omega), show i - 1 + 1 = i by omega]
                rcases (show q' = 0 ∨ q' = 1 by omega) with rfl | rfl
                · rw [if_neg (show ¬ (i - 1 = i - 1 ∧ 0 = 1) from fun y => absurd y.2 (by decide)), if_pos (show i - 1 = i - 1 ∧ 0 = 0 from ⟨rfl, rfl⟩)]
                · rw [if_pos (show i - 1 = i - 1 ∧ 1 = 1 from ⟨rfl, rfl⟩)]
              · rw [if_neg (show ¬ (j = i - 1 ∧ q' = 1) from fun y => z y.1), if_neg (show ¬ (j = i - 1 ∧ q' = 0) from fun y => z y.1)]
                by_cases z2 : j + 1 < i
                · rw [if_pos z2, if_pos (show j + 1 < i + 1 by omega)]
                · rw [if_neg z2, if_neg (show ¬ j + 1 < i + 1 by omega)]
        · refine ⟨tM, ⟨Nat.le_of_ble_eq_true rfl, Nat.le_of_ble_eq_true rfl, Nat.le_of_ble_eq_true rfl⟩, e_isProduct (nI p) (th0 S) s1 m4 (fun d hd e => And.intro (fun _ => ⟨⟨Nat.le_of_ble_eq_true rfl, Nat.le_of_ble_eq_true rfl, Nat.le_of_ble_eq_true rfl⟩, e_bad (r := 0) (by decide) 0 1 (th0 S) t0 (by decide) (fun z => absurd rfl z) (fun _ => And.intro (fun z => absurd rfl z) (fun _ => ⟨⟨Nat.le_of_ble_eq_true rfl, Nat.le_of_ble_eq_true rfl, Nat.le_of_ble_eq_true rfl⟩, e_inW y 1 50000 (by decide) (by decide) (th0 S) (fun k' a1 a2 e2 => And.intro (fun _ => ⟨⟨Nat.le_of_ble_eq_true rfl, Nat.le_of_ble_eq_true rfl, Nat.le_of_ble_eq_true rfl⟩, e_bad (r := 1) (by decide) 0 2 (th0 S) t0 (by decide) (fun z => absurd rfl z) (fun _ => And.intro (fun z => absurd rfl z) (fun _ => ⟨⟨Nat.le_of_ble_eq_true rfl, Nat.le_of_ble_eq_true rfl, Nat.le_of_ble_eq_true rfl⟩, e_unitsIn (x := 0) (th0 S) nw (by omega) o.2.1 k4 (by decide) ?_⟩))⟩) (fun z => absurd z (by decide))) (fun q => absurd ⟨u, u1, u2', e'⟩ q)⟩))⟩) (fun z => absurd z (by decide))) (fun q => absurd ⟨p, hp, rfl⟩ q)⟩
          refine And.intro (fun q => ?_) (fun q => ?_)
          · refine ⟨⟨Nat.le_of_ble_eq_true rfl, Nat.le_of_ble_eq_true rfl, Nat.le_of_ble_eq_true rfl⟩, e_bad (r := 2) (by decide) 0 3 (th0 S) t0 (by decide) (fun z => absurd rfl z) (fun _ => And.intro (fun _ => ⟨⟨Nat.le_of_ble_eq_true rfl, Nat.le_of_ble_eq_true rfl, Nat.le_of_ble_eq_true rfl⟩, e_remembers i0.2.2.2.2.2.1 (th0 S) i0.2.2.2.2.1 (fun T hT => ?_)⟩) (fun z => absurd rfl z))⟩
            obtain ⟨iT, fT, z0⟩ := MI_rem hI hT
            refine ⟨rfl, rfl, (91, (fun l c => [(3, .long l), (5, .long c), (0, .ref 138), (1, .int (nI p)), (2, .int y)]) (lN (u - natS (lU w p) 0)) (sumN (lC w p) 0), (T.1, T.2), (k - 0) * 100 + 99), rfl, ⟨T, ⟨iT, fT, z0⟩, Or.inl ⟨0, T.2, Nat.zero_le _, Nat.zero_le _, ⟨fun i hi _ => iT.2.2.2.1 i hi, (iT.2.2.2.1 _ (by omega)).trans o.2.1, fun j q hj hq => ?_⟩, fun _ _ => rfl, rfl⟩⟩, rfl, ?_, rfl, rfl, rfl, rfl, trivial⟩
            · rw [iT.2.2.2.1 _ (by omega)]
              unfold lay
              by_cases z : j + 0 < k
              · rw [if_pos z]; rfl
              · rw [if_neg z]
                obtain ⟨z1, z2⟩ := o.2.2.2 j (by omega) (by omega)
                rcases (show q = 0 ∨ q = 1 by omega) with rfl | rfl
                · exact z1
                · rw [show 419 + 83 * p + 2 * j + 1 = 420 + 83 * p + 2 * j by omega]; exact z2
            · refine congrArg (fun z => some (Value.long z)) ?_
              show y.toInt64 = lN (u - 0)
              rw [e', nI_l (by omega), Nat.sub_zero]
          · have q : ¬ y.toInt64 ≤ stV w p 0 := fun z => q ((lg_cmp_ge _ _).mpr z)
            rw [sv, e', nI_l (by omega)] at q
            exact absurd ((pk_lLE (by omega) (by omega)).mpr hu) q
      · refine ⟨tM, runG rfl 120 ⟨tM, ⟨Nat.le_of_ble_eq_true rfl, Nat.le_of_ble_eq_true rfl, Nat.le_of_ble_eq_true rfl⟩, e_isProduct (nI p) (th0 S) s1 m4 (fun d hd e => And.intro (fun _ => ⟨⟨Nat.le_of_ble_eq_true rfl, Nat.le_of_ble_eq_true rfl, Nat.le_of_ble_eq_true rfl⟩, e_bad (r := 0) (by decide) 0 1 (th0 S) t0 (by decide) (fun z => absurd rfl z) (fun _ => And.intro (fun z => absurd rfl z) (fun _ => ⟨⟨Nat.le_of_ble_eq_true rfl, Nat.le_of_ble_eq_true rfl, Nat.le_of_ble_eq_true rfl⟩, e_inW y 1 50000 (by decide) (by decide) (th0 S) (fun k' a1 a2 e2 => And.intro (fun _ => ⟨⟨Nat.le_of_ble_eq_true rfl, Nat.le_of_ble_eq_true rfl, Nat.le_of_ble_eq_true rfl⟩, e_bad (r := 1) (by decide) 0 2 (th0 S) t0 (by decide) (fun z => absurd rfl z) (fun _ => And.intro (fun z => absurd rfl z) (fun _ => ⟨⟨Nat.le_of_ble_eq_true rfl, Nat.le_of_ble_eq_true rfl, Nat.le_of_ble_eq_true rfl⟩, e_unitsIn (x := 0) (th0 S) nw (by omega) o.2.1 k4 (by decide) ?_⟩))⟩) (fun z => absurd z (by decide))) (fun q => absurd ⟨u, u1, u2', e'⟩ q)⟩))⟩) (fun z => absurd z (by decide))) (fun q => absurd ⟨p, hp, rfl⟩ q)⟩⟩
        refine And.intro (fun q => ?_) (fun q => ?_)
        · have q : y.toInt64 ≤ stV w p 0 := (lg_cmp_ge _ _).mp q
          rw [sv, e', nI_l (by omega)] at q
          exact absurd ((pk_lLE (by omega) (by omega)).mp q) hu
        · refine ⟨⟨Nat.le_of_ble_eq_true rfl, Nat.le_of_ble_eq_true rfl, Nat.le_of_ble_eq_true rfl⟩, e_bad (r := 2) (by decide) 1 3 (th0 S) t0 (by decide) (fun _ => And.intro (fun z => absurd z (by decide)) (fun _ => ?_)) (fun z => absurd z (by decide))⟩
          have hu' : natS (lU w p) k < u := by omega
          exact ⟨rfl, hS p u k hp rfl u1 u2' e' o hu' _ ib2 (f0.trans fb2) eb2⟩
    · refine ⟨tM, runG rfl 120 ⟨tM, ⟨Nat.le_of_ble_eq_true rfl, Nat.le_of_ble_eq_true rfl, Nat.le_of_ble_eq_true rfl⟩, e_isProduct (nI p) (th0 S) s1 m4 (fun d hd e => And.intro (fun _ => ⟨⟨Nat.le_of_ble_eq_true rfl, Nat.le_of_ble_eq_true rfl, Nat.le_of_ble_eq_true rfl⟩, e_bad (r := 0) (by decide) 0 1 (th0 S) t0 (by decide) (fun z => absurd rfl z) (fun _ => And.intro (fun z => absurd rfl z) (fun _ => ⟨⟨Nat.le_of_ble_eq_true rfl, Nat.le_of_ble_eq_true rfl, Nat.le_of_ble_eq_true rfl⟩, e_inW y 1 50000 (by decide) (by decide) (th0 S) (fun k' a1 a2 e2 => absurd ⟨k', a1, a2, e2⟩ hy) (fun q => And.intro (fun z => absurd rfl z) (fun _ => ⟨⟨Nat.le_of_ble_eq_true rfl, Nat.le_of_ble_eq_true rfl, Nat.le_of_ble_eq_true rfl⟩, e_bad (r := 1) (by decide) 1 2 (th0 S) t0 (by decide) (fun _ => And.intro (fun _ => ?_) (fun z => absurd z (by decide))) (fun z => absurd z (by decide))⟩))⟩))⟩) (fun z => absurd z (by decide))) (fun q => absurd ⟨p, hp, rfl⟩ q)⟩⟩
      exact ⟨rfl, hA p hp rfl hy _ ib (f0.trans fb) eb⟩
  · refine ⟨tM, runG rfl 120 ⟨tM, ⟨Nat.le_of_ble_eq_true rfl, Nat.le_of_ble_eq_true rfl, Nat.le_of_ble_eq_true rfl⟩, e_isProduct x (th0 S) s1 m4 (fun d hd e => absurd ⟨d, hd, e⟩ hx) (fun q => And.intro (fun z => absurd rfl z) (fun _ => ⟨⟨Nat.le_of_ble_eq_true rfl, Nat.le_of_ble_eq_true rfl, Nat.le_of_ble_eq_true rfl⟩, e_bad (r := 0) (by decide) 1 1 (th0 S) t0 (by decide) (fun _ => And.intro (fun _ => ?_) (fun z => absurd z (by decide))) (fun z => absurd z (by decide))⟩))⟩⟩
    exact ⟨rfl, hE hx _ ib0 (f0.trans fb0) eb0⟩
