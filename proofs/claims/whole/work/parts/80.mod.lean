/-! ===== the model: leaves ===== -/
theorem tM : tyN 156 138 = (0, 10, 0, 0) := rfl
theorem tNow : tyN 156 141 = (1, 754, 0, 0) := rfl
theorem tTold : tyN 156 142 = (1, 754, 0, 0) := rfl
theorem tTri : tyN 156 143 = (1, 754, 0, 0) := rfl
theorem tPast : tyN 156 144 = (7, 8, 145, 1) := rfl
theorem tPas : ∀ i, i < 8 → tyN 156 (145 + i) = (1, 754, 0, 0) := by decide
theorem tRef : tyN 156 139 = (2, 3, 0, 0) := rfl
theorem tFed : tyN 156 140 = (2, 400, 0, 0) := rfl
theorem tFlow : tyN 156 153 = (1, 5, 0, 0) := rfl
theorem tThen : tyN 156 154 = (1, 5, 0, 0) := rfl
theorem tOut : tyN 156 155 = (1, 1, 0, 0) := rfl
theorem L_nlt (x y : Int64) : ¬ x < y ↔ y ≤ x := by rw [Int64.lt_iff_toInt_lt, Int64.le_iff_toInt_le]; omega
theorem I_nlt (x y : Int32) : ¬ x < y ↔ y ≤ x := by rw [Int32.lt_iff_toInt_lt, Int32.le_iff_toInt_le]; omega
theorem e_in (v lo hi : Int64) (S : Mem) {Qr : QR} {Qx : QX} (h1 : lo ≤ v → v ≤ hi → Qr (some (.int 1)) S) (h0 : ¬ (lo ≤ v ∧ v ≤ hi) → Qr (some (.int 0)) S) : sX10_in 156 [.long v, .long lo, .long hi] S Qr Qx := by
  refine runG rfl 40 (And.intro (fun x => ⟨Or.inl rfl, h0 (fun y => ?_)⟩) (fun x => And.intro (fun y => ⟨Or.inl rfl, h0 (fun z => ?_)⟩) (fun y => ⟨Or.inr rfl, h1 ?_ ?_⟩)))
  · exact absurd ((lg_cmp_lt v lo).mp x) ((L_nlt _ _).mpr y.1)
  · exact absurd ((lg_cmp_gt v hi).mp y) ((L_nlt _ _).mpr z.2)
  · exact (L_nlt _ _).mp (fun z => x ((lg_cmp_lt v lo).mpr z))
  · exact (L_nlt _ _).mp (fun z => y ((lg_cmp_gt v hi).mpr z))
def lessL (a b : Int64) : Int64 := if a < b then a else b
def moreL (a b : Int64) : Int64 := if b < a then a else b
theorem e_less (a b : Int64) (S : Mem) {Qr : QR} {Qx : QX} (h : Qr (some (.long (lessL a b))) S) : sX10_less 156 [.long a, .long b] S Qr Qx := by
  unfold lessL at h
  refine runG rfl 40 (And.intro (fun x => ⟨rfl, ?_⟩) (fun x => ⟨rfl, ?_⟩))
  · rw [if_neg ((L_nlt _ _).mpr ((lg_cmp_ge a b).mp x))] at h; exact h
  · rw [if_pos (Decidable.byContradiction fun y => x ((lg_cmp_ge a b).mpr ((L_nlt _ _).mp y)))] at h; exact h
theorem e_more (a b : Int64) (S : Mem) {Qr : QR} {Qx : QX} (h : Qr (some (.long (moreL a b))) S) : sX10_more 156 [.long a, .long b] S Qr Qx := by
  unfold moreL at h
  refine runG rfl 40 (And.intro (fun x => ⟨rfl, ?_⟩) (fun x => ⟨rfl, ?_⟩))
  · rw [if_neg ((L_nlt _ _).mpr ((lg_cmp_le a b).mp x))] at h; exact h
  · rw [if_pos (Decidable.byContradiction fun y => x ((lg_cmp_le a b).mpr ((L_nlt _ _).mp y)))] at h; exact h
theorem e_mcut (a p w : Int64) (S : Mem) {Qr : QR} {Qx : QX} (h : Qr (some (.long (cut a p w))) S) : sX10_cut 156 [.long a, .long p, .long w] S Qr Qx := by
  refine runG rfl 40 (And.intro (fun h1 => ?_) (fun h1 => ?_))
  · have hw : ¬ w = 0 := fun e => h1 ((lg_cmp_eq w 0).mpr e)
    refine ⟨hw, rfl, ?_⟩
    rw [cut, if_neg hw] at h
    exact h
  · have hw : w = 0 := (lg_cmp_eq w 0).mp h1
    rw [cut, if_pos hw] at h
    exact ⟨rfl, h⟩
theorem ix2 (o e d x : Nat) : nI o + nI e * nI d + nI x = nI (o + e * d + x) := by rw [pk_mul, nI_add, nI_add]
theorem e_coming (d x : Nat) (S : Mem) {Qr : QR} {Qx : QX} (h : Qr (some (.int (nI (66 + 7 * d + x)))) S) : sX10_coming 156 [.int (nI d), .int (nI x)] S Qr Qx := by
  rw [← ix2] at h
  exact runG rfl 40 h
theorem e_latest (d x : Nat) (S : Mem) {Qr : QR} {Qx : QX} (h : Qr (some (.int (nI (131 + 55 * d + x)))) S) : sX10_latest 156 [.int (nI d), .int (nI x)] S Qr Qx := by
  rw [← ix2] at h
  exact runG rfl 40 h
theorem e_working (d x : Nat) (S : Mem) {Qr : QR} {Qx : QX} (h : Qr (some (.int (nI (101 + 6 * d + x)))) S) : sX10_working 156 [.int (nI d), .int (nI x)] S Qr Qx := by
  rw [← ix2] at h
  exact runG rfl 40 h
theorem e_storeAt (p : Nat) (S : Mem) {Qr : QR} {Qx : QX} (h : Qr (some (.int (nI (418 + 83 * p)))) S) : sX10_storeAt 156 [.int (nI p)] S Qr Qx := by
  rw [show nI (418 + 83 * p) = nI 418 + nI 83 * nI p by rw [pk_mul, nI_add]] at h
  exact runG rfl 40 h
theorem e_layerAt (p k : Nat) (S : Mem) {Qr : QR} {Qx : QX} (h : Qr (some (.int (nI (419 + 83 * p + 2 * k)))) S) : sX10_layerAt 156 [.int (nI p), .long (lN k)] S Qr Qx := by
  refine runG rfl 40 ⟨⟨Nat.le_of_ble_eq_true rfl, Nat.le_of_ble_eq_true rfl, Nat.le_of_ble_eq_true rfl⟩, e_storeAt p S ?_⟩
  show Qr (some (.int (nI (418 + 83 * p) + nI 1 + nI 2 * (lN k).toInt32))) S
  rw [lN_i, pk_mul, nI_add, nI_add, show 418 + 83 * p + 1 + 2 * k = 419 + 83 * p + 2 * k by omega]
  exact h
theorem e_share {k p x : Nat} (hk : tyN 156 k = (1, 754, 0, 0)) (hp : p < 4) (hx : x < 4) (S : Mem) {Qr : QR} {Qx : QX} (h : Qr (some (.long (S.2 k (50 + 4 * p + x)))) S) : sX10_share 156 [.ref k, .int (nI p), .int (nI x)] S Qr Qx := by
  have e : nI 50 + nI 4 * nI p + nI x = nI (50 + 4 * p + x) := ix2 _ _ _ _
  refine runG rfl 40 ⟨754, hk, ?_, rfl, ?_⟩
  · show vp_in (nI 50 + nI 4 * nI p + nI x) 754
    rw [e]; exact vp_nI (by omega)
  · show Qr (some (.long (S.2 k (nI 50 + nI 4 * nI p + nI x).toNatClampNeg))) S
    rw [e, nI_clamp (by omega)]; exact h
theorem e_of {d x : Nat} (hd : d < 5) (hx : x < 9) (S : Mem) {Qr : QR} {Qx : QX} (h : Qr (some (.long (S.2 141 (5 + 9 * d + x)))) S) : vsp 156 10 (sX10_of 156) [.ref 138, .int (nI d), .int (nI x)] S Qr Qx := by
  have e : nI 5 + nI 9 * nI d + nI x = nI (5 + 9 * d + x) := ix2 _ _ _ _
  refine ⟨tM, runG rfl 40 ⟨tM, 754, tNow, ?_, rfl, ?_⟩⟩
  · show vp_in (nI 5 + nI 9 * nI d + nI x) 754
    rw [e]; exact vp_nI (by omega)
  · show Qr (some (.long (S.2 141 (nI 5 + nI 9 * nI d + nI x).toNatClampNeg))) S
    rw [e, nI_clamp (by omega)]; exact h
theorem e_copies {kf kt : Nat} (hf : tyN 156 kf = (1, 754, 0, 0)) (ht : tyN 156 kt = (1, 754, 0, 0)) (hne : kf ≠ kt) (S : Mem) {Qr : QR} {Qx : QX} (h : Qr none (S.1, cpr S.2 kf kt 754)) : sX10_copies 156 [.ref kf, .ref kt] S Qr Qx := by
  refine runL (α := Nat) rfl 60 2 0 (fun i => [(2, .int (nI i)), (0, .ref kf), (1, .ref kt)]) (fun i => (S.1, cpr S.2 kf kt i)) (fun i => 754 - i) (fun i => i ≤ 754) (fun i hi => ?_) ?_
  · refine And.intro (fun h1 => ?_) (fun h1 => ?_)
    · have h1 : nI 754 ≤ nI i := h1
      obtain rfl := le_of_nI (by decide) hi h1
      exact ⟨rfl, h⟩
    · have h1 : ¬ nI 754 ≤ nI i := h1
      have hlt := lt_of_nI (by decide) hi h1
      refine ⟨754, hf, vp_nI hlt, 754, ht, vp_nI hlt, rfl, rfl, i + 1, ⟨by omega, by omega⟩, ?_, congrArg (fun z => some (Value.int z)) (nI_1 i), rfl, rfl, trivial⟩
      show (S.1, u2 (cpr S.2 kf kt i) kt (nI i).toNatClampNeg (cpr S.2 kf kt i kf (nI i).toNatClampNeg)) = (S.1, cpr S.2 kf kt (i + 1))
      rw [nI_clamp (by omega), cpr_step _ hne]
  · exact ⟨rfl, rfl, 0, Nat.zero_le _, by show S = (S.1, cpr S.2 kf kt 0); rw [cpr_0], rfl, rfl, rfl, trivial⟩
theorem e_begins {N k : Nat} (hk : tyN N k = (1, 754, 0, 0)) (S : Mem) {Qr : QR} {Qx : QX} (h : Qr none (S.1, u2 (zr S.2 k 754) k 2 1)) : sX10_begins N [.ref k] S Qr Qx := by
  refine runL (α := Nat) rfl 40 2 0 (fun i => [(1, .int (nI i)), (0, .ref k)]) (fun i => (S.1, zr S.2 k i)) (fun i => 754 - i) (fun i => i ≤ 754) (fun i hi => ?_) ?_
  · refine And.intro (fun h1 => ?_) (fun h1 => ?_)
    · have h1 : nI 754 ≤ nI i := h1
      obtain rfl := le_of_nI (by decide) hi h1
      exact ⟨754, hk, vp_nI (n := 2) (by decide), rfl, h⟩
    · have h1 : ¬ nI 754 ≤ nI i := h1
      have hlt := lt_of_nI (by decide) hi h1
      refine ⟨754, hk, vp_nI hlt, rfl, rfl, i + 1, ⟨by omega, by omega⟩, ?_, congrArg (fun z => some (Value.int z)) (nI_1 i), rfl, trivial⟩
      show (S.1, u2 (zr S.2 k i) k (nI i).toNatClampNeg 0) = (S.1, zr S.2 k (i + 1))
      rw [nI_clamp (by omega), zr_step]
  · exact ⟨rfl, rfl, 0, Nat.zero_le _, by show S = (S.1, zr S.2 k 0); rw [zr_0], rfl, rfl, trivial⟩
/-- a row with department d, of longs -/
def wDepL (w : Nat → Int64) (d : Nat) (wy pt rt sc bt bs : Int64) : Nat → Int64 := u1L (u1L (u1L (u1L (u1L (u1L (u1L (u1L (u1L w (5 + 9 * d) wy) (5 + 9 * d + 1) pt) (5 + 9 * d + 2) rt) (5 + 9 * d + 3) sc) (5 + 9 * d + 4) 0) (5 + 9 * d + 5) (-1)) (5 + 9 * d + 6) (-1)) (5 + 9 * d + 7) bt) (5 + 9 * d + 8) bs
theorem wDepL_eq (w : Nat → Int64) (d : Nat) (wy : Int64) (pt rt sc : Nat) (bt bs : Int64) : wDepL w d wy (lN pt) (lN rt) (lN sc) bt bs = wDep w d wy pt rt sc bt bs := by
  funext i
  unfold wDepL wDep u1L
  by_cases h8 : i = 5 + 9 * d + 8
  · subst h8; simp
  · by_cases h7 : i = 5 + 9 * d + 7
    · subst h7; simp
    · by_cases h6 : i = 5 + 9 * d + 6
      · subst h6; simp
      · by_cases h5 : i = 5 + 9 * d + 5
        · subst h5; simp
        · by_cases h4 : i = 5 + 9 * d + 4
          · subst h4; simp
          · by_cases h3 : i = 5 + 9 * d + 3
            · subst h3; simp
            · by_cases h2 : i = 5 + 9 * d + 2
              · subst h2; simp
              · by_cases h1 : i = 5 + 9 * d + 1
                · subst h1; simp
                · simp [h8, h7, h6, h5, h4, h3, h2, h1]
theorem u2_rowL (X : Nat → Nat → Int64) (k j : Nat) (v : Int64) : u2 X k j v k = u1L (X k) j v := by
  funext i
  unfold u2 u1L
  by_cases h : i = j <;> simp [h]
