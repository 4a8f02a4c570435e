/-! ===== the model: close ===== -/
def wyW (w : Nat → Int64) (d : Nat) : Int32 := (w (5 + 9 * d)).toInt32
def uIn (r : Nat → Int64) (d : Nat) : Int64 := if d = 0 then r 4 else r (131 + 55 * (d - 1) + 15)
def cIn (r : Nat → Int64) (d : Nat) : Int64 := if d = 0 then 0 else r (131 + 55 * (d - 1) + 54)
def mW (w : Nat → Int64) : Nat → Nat → Int64
  | 0 => w
  | d + 1 => ctW (opW (mW w d) d (uIn (mW w d) d) (cIn (mW w d) d)) d (wyW w d)
def oW (w : Nat → Int64) (d : Nat) : Nat → Int64 := opW (mW w d) d (uIn (mW w d) d) (cIn (mW w d) d)
def cnM (w : Nat → Int64) (d : Nat) : Prop := canW (oW w d) d (wyW w d)
def paT (w : Nat → Int64) (l m : Nat) : Nat → Int64 := paW (mW w (l + 1)) l m
def okW (w : Nat → Int64) (l m : Nat) : Prop := (∀ d, d < l + 1 → cnM w d) ∧ ∀ p, p < m → ¬ fulW (paT w l m) p
def clA (r : Nat → Int64) : Nat → Nat → Int64
  | 0 => r
  | d + 1 => clD (clA r d) d
def cloW (w : Nat → Int64) (l m : Nat) : Nat → Int64 := u1L (u1L (clA (stR (paT w l m) m) (l + 1)) 4 0) 3 (w 3 + 1)
theorem opW_o (w : Nat → Int64) (d : Nat) (u c : Int64) {i : Nat} (h : i < (131 + 55 * d) ∨ (131 + 55 * d) + 15 ≤ i) : opW w d u c i = w i := by
  unfold opW
  rw [segW_o _ _ (by omega), u1L_o _ _ (by omega), u1L_o _ _ (by omega), segW_o _ _ (by omega)]
theorem mW_o (w : Nat → Int64) : ∀ (d : Nat) {i : Nat}, i < 131 ∨ (131 + 55 * d) ≤ i → mW w d i = w i
  | 0, _, _ => rfl
  | d + 1, i, h => by
    show ctW _ d _ i = w i
    rw [ctW_o _ _ _ (by omega), opW_o _ _ _ _ (by omega)]
    exact mW_o w d (by omega)
theorem mW_k (w : Nat → Int64) {e : Nat} : ∀ (d : Nat) {i : Nat}, e < d → i < 131 + 55 * (e + 1) → mW w d i = mW w (e + 1) i
  | 0, _, h, _ => absurd h (by omega)
  | d + 1, i, h, hi => by
    by_cases z : e = d
    · subst z; rfl
    · show ctW _ d _ i = _
      rw [ctW_o _ _ _ (by omega), opW_o _ _ _ _ (by omega)]
      exact mW_k w d (by omega) hi
theorem paW_o (r : Nat → Int64) (l m : Nat) {i : Nat} (h : i < 406 ∨ 418 ≤ i) (h2 : i ≠ 131 + 55 * l + 52) : paW r l m i = r i := by
  unfold paW
  rw [prW_o _ _ _ _ h, u1L_o _ _ h2]
theorem clD_o (w : Nat → Int64) (d : Nat) {i : Nat} (h1 : i < 101 + 6 * d ∨ 107 + 6 * d ≤ i) (h2 : i < 66 + 7 * d ∨ 73 + 7 * d ≤ i) (h3 : i < 750 ∨ i = 751) : clD w d i = w i := by
  unfold clD
  rw [u1L_o _ _ (by omega), u1L_o _ _ (by omega), segW_o _ _ (by omega), u1L_o _ _ (by omega)]
  unfold clB
  rw [segW_o _ _ (by omega), u1L_o _ _ (by omega), u1L_o _ _ (by omega)]
theorem clA_o (r : Nat → Int64) : ∀ (d : Nat), d ≤ 5 → ∀ {i : Nat}, i < 66 ∨ (131 ≤ i ∧ i < 750) ∨ i = 751 → clA r d i = r i
  | 0, _, _, _ => rfl
  | d + 1, hd, i, h => by
    show clD (clA r d) d i = r i
    rw [clD_o _ _ (by omega) (by omega) (by omega)]
    exact clA_o r d (by omega) h
theorem MI_rem' {S T : Mem} {tp : Nat} {sg : Nat → Int32} {fp : Int32} {r : Nat → Int32} {w : Nat → Int64} {H : HL} (hI : MI S tp sg fp r w H) (hR : remR S T H.length) : MI T tp sg fp r w ((w :: H).take 8) ∧ FC S T ∧ T.1 138 0 = S.1 138 0 ∧ T.2 143 = S.2 143 := by
  obtain ⟨a, b, ⟨c1, c2⟩, d, e⟩ := hI
  have hM := hisM_rem (S := S) e d hR
  obtain ⟨r1, r2, r3, r4⟩ := hR
  have e1 : ∀ c, c ≠ 138 → T.1 c = S.1 c := fun c hc => by rw [r4]; exact u2_other _ _ _ hc
  have e2 : ∀ j, j ≠ 13 → T.1 138 j = S.1 138 j := fun j hj => by rw [r4]; exact u2_j _ _ _ _ hj
  exact ⟨⟨(e2 5 (by decide)).trans a, fun i hi => by rw [e1 139 (by decide)]; exact b i hi, ⟨(e2 2 (by decide)).trans c1, fun i hi => by rw [e1 140 (by decide)]; exact c2 i hi⟩, fun i hi => by rw [r3 141 (by decide)]; exact d i hi, hM⟩, fun c hc => ⟨e1 c (by omega), r3 c (by omega)⟩, e2 0 (by decide), r3 143 (by decide)⟩
theorem e_copiesV {kf kt : Nat} (hf : tyN 156 kf = (1, 754, 0, 0)) (ht : tyN 156 kt = (1, 754, 0, 0)) (hne : kf ≠ kt) (S : Mem) {Y : Nat → Nat → Int64} (hY : S.2 = Y) {Qr : QR} {Qx : QX} (h : Qr none (S.1, cpr Y kf kt 754)) : sX10_copies 156 [.ref kf, .ref kt] S Qr Qx := by
  subst hY; exact e_copies hf ht hne S h
set_option maxRecDepth 20000 in
set_option maxHeartbeats 16000000 in
theorem e_mClose {S : Mem} {tp : Nat} {sg : Nat → Int32} {fp : Int32} {r : Nat → Int32} {w : Nat → Int64} {H : HL} {l m : Nat} (hI : MI S tp sg fp r w H) (hf : WFt w (l + 1) m) (hm0 : 0 < m) (hM : ∃ p, p < m ∧ w (50 + 4 * p + 3) = 0) (hK : ∀ p, p < m → ∃ k, k ≤ 40 ∧ w (418 + 83 * p) = lN k) (hw : cpr S.2 141 143 754 143 = w) {Qr : QR} {Qx : QX} (hS : ¬ okW w l m → ∀ S', MI S' tp sg fp (bmp r 2) w H → FC S S' → S'.1 138 0 = 1 → Qr (some (.long 0)) S')
    (h1 : okW w l m → ∀ S', MI S' tp sg fp r (cloW w l m) ((w :: H).take 8) → FC S S' → S'.1 138 0 = 0 → Qr (some (.long (cloW w l m (131 + 55 * l + 54)))) S') : vsp 156 10 (sX10_close 156) [.ref 138] S Qr Qx := by
  have v0 : ∀ x, x < 754 → vp_in (nI x) 754 := fun x hx => vp_nI hx
  obtain ⟨i0, f0⟩ := hI.thr 0
  have t0 : (th0 S).1 138 0 = 0 := u2_s S.1 138 0 0
  have n5 : l + 1 ≤ 5 := hf.1
  have m4 := hf.2.1
  have nw : ∀ i, i < 754 → S.2 141 i = w i := i0.2.2.2.1
  obtain ⟨R, eR⟩ : ∃ R, R = (th0 S).1 := ⟨_, rfl⟩
  have kM : ∀ X : Nat → Nat → Int64, (∀ c, c ≠ 143 → X c = S.2 c) → MI (R, X) tp sg fp r w H ∧ FC S (R, X) := fun X hX => by
    obtain ⟨a, b⟩ := i0.tr X hX
    rw [eR]
    exact ⟨a, f0.trans b⟩
  have eR0 : R 138 0 = 0 := by rw [eR]; exact t0
  have now0 : ∀ X : Nat → Nat → Int64, (∀ c, c ≠ 143 → X c = S.2 c) → X 141 (nI 0).toNatClampNeg = lN (l + 1) := fun X hX => by rw [nI_clamp (by omega), hX 141 (by decide)]; exact (nw 0 (by decide)).trans hf.2.2.1
  have mo : ∀ d i, d ≤ l + 1 → i < 131 ∨ 406 ≤ i → mW w d i = w i := fun d i hd hi => mW_o w d (by omega)
  refine ⟨tM, runM (ι := Nat × LL × Mem × Nat) rfl 200 0 [20, 120, 139, 165] (fun a => a.1) (fun a => a.2.1) (fun a => a.2.2.1) (fun a => a.2.2.2)
    (fun a => (∃ (X : Nat → Nat → Int64), (∀ c, c ≠ 143 → X c = S.2 c) ∧
      ((∃ d g, d ≤ l + 1 ∧ ((g = 1 ∧ (∀ e, e < d → cnM w e) ∧ X 143 = mW w d) ∨ (g = 0 ∧ ¬ okW w l m)) ∧ a = (20, [(2, .int (nI d)), (1, .int g), (0, .ref 138)], (R, X), 2000 - d)) ∨
      (∃ g, ((g = 1 ∧ (∀ e, e < l + 1 → cnM w e) ∧ X 143 = mW w (l + 1)) ∨ (g = 0 ∧ ¬ okW w l m)) ∧ a = (120, [(1, .int g), (0, .ref 138)], (R, X), 1000)) ∨
      (∃ g, ((g = 1 ∧ okW w l m ∧ X 143 = stR (paT w l m) m) ∨ (g = 0 ∧ ¬ okW w l m)) ∧ a = (139, [(1, .int g), (0, .ref 138)], (R, X), 900)))) ∨
      (∃ (T : Mem) (X : Nat → Nat → Int64) (d : Nat), d ≤ l + 1 ∧ okW w l m ∧ MI T tp sg fp r w ((w :: H).take 8) ∧ FC S T ∧ T.1 138 0 = 0 ∧ X 143 = clA (stR (paT w l m) m) d ∧ (∀ c, c ≠ 143 → X c = T.2 c) ∧ a = (165, [(2, .int (nI d)), (0, .ref 138)], (T.1, X), 100 - d))) ?_ ?_⟩
  · rintro a (⟨X, hc, (⟨d, g, hd, hg, rfl⟩ | ⟨g, hg, rfl⟩ | ⟨g, hg, rfl⟩)⟩ | ⟨T, X, d, hd, ok, iT, fT, zT, hX, hc, rfl⟩)
    · -- 20
      refine ⟨tM, 754, tNow, v0 0 (by decide), And.intro (fun q => ?_) (fun q => ?_)⟩
      · have e : l + 1 = d := (le_lN (now0 X hc) rfl hd (by omega) ((lg_cmp_ge _ _).mp q)).symm
        subst e
        exact ⟨rfl, rfl, (120, [(1, .int g), (0, .ref 138)], (R, X), 1000), rfl, ⟨Or.inl ⟨X, hc, Or.inr (Or.inl ⟨g, hg, rfl⟩)⟩, show 1000 < 2000 - (l + 1) by omega⟩, rfl, rfl, rfl, trivial⟩
      · have hdl := lt_lN (now0 X hc) rfl hd (by omega) (fun z => q ((lg_cmp_ge _ _).mpr z))
        rcases hg with ⟨rfl, can, hX⟩ | ⟨rfl, nok⟩
        · have r4 : X 143 (nI 4).toNatClampNeg = w 4 := by rw [rd1 hX (by decide), mo d _ (by omega) (by omega)]
          have fin : ∀ (u c : Int64), uIn (mW w d) d = u → cIn (mW w d) d = c → ∀ Y : Nat → Nat → Int64, Y 143 = opW (mW w d) d u c → (∀ c, c ≠ 143 → Y c = X c) → Y 143 = oW w d ∧ ∀ c, c ≠ 143 → Y c = S.2 c := fun u c eu ec Y y1 y2 => ⟨by rw [y1, ← eu, ← ec]; rfl, fun c hc' => (y2 c hc').trans (hc c hc')⟩
          have wy : ∀ Y : Nat → Nat → Int64, Y 143 = oW w d → (Y 143 (nI 5 + nI 9 * nI d + nI 0).toNatClampNeg).toInt32 = wyW w d := fun Y y1 => by
            rw [rd2 y1 (ix2 5 9 d 0) (by omega)]
            unfold oW
            rw [opW_o _ _ _ _ (by omega), mo d _ (by omega) (by omega)]
            rfl
          have vw : vp_in (nI 5 + nI 9 * nI d + nI 0) 754 := vp2 (ix2 5 9 d 0) (by omega)
          have cont : ∀ Y : Nat → Nat → Int64, Y 143 = oW w d → (∀ c, c ≠ 143 → Y c = S.2 c) → ∀ (Q' : QR), (¬ cnM w d → Q' (some (.int 0)) (R, Y)) → (cnM w d → ∀ Z : Nat → Nat → Int64, Z 143 = mW w (d + 1) → (∀ c, c ≠ 143 → Z c = S.2 c) → Q' (some (.int 1)) (R, Z)) → sX10_counts 156 [.ref 143, .int (nI d), .int (Y 143 (nI 5 + nI 9 * nI d + nI 0).toNatClampNeg).toInt32] (R, Y) Q' Qx := fun Y y1 y2 Q' q0 q1 => by
            rw [wy Y y1]
            exact e_counts (by omega) _ (oW w d) (R, Y) y1 q0 (fun ca Z z1 z2 => q1 ca Z z1 (fun c hc' => (z2 c hc').trans (y2 c hc')))
          have no : ¬ cnM w d → ¬ okW w l m := fun nc ok => nc (ok.1 d hdl)
          have nI1 : nI d + 1 = nI (d + 1) := nI_1 d
          have can' : cnM w d → ∀ e, e < d + 1 → cnM w e := fun c e he => by
            by_cases z : e = d
            · subst z; exact c
            · exact can e (by omega)
          refine And.intro (fun z => absurd z (by decide)) (fun _ => ⟨tM, And.intro (fun q0 => ?_) (fun q0 => ?_)⟩)
          · have d0 : ¬ d = 0 := fun z => q0 (by rw [z]; rfl)
            obtain ⟨e, rfl⟩ : ∃ e, d = e + 1 := ⟨d - 1, by omega⟩
            have nd : nI (e + 1) - nI 1 = nI e := nI_pred e
            have ru : uIn (mW w (e + 1)) (e + 1) = X 143 (nI (131 + 55 * e + 15)).toNatClampNeg := by rw [rd1 hX (by omega)]; exact if_neg (Nat.succ_ne_zero e)
            have rc : cIn (mW w (e + 1)) (e + 1) = X 143 (nI (131 + 55 * e + 54)).toNatClampNeg := by rw [rd1 hX (by omega)]; exact if_neg (Nat.succ_ne_zero e)
            refine ⟨tM, ⟨Nat.le_of_ble_eq_true rfl, Nat.le_of_ble_eq_true rfl, Nat.le_of_ble_eq_true rfl⟩, e_latest2 (x := 15) nd rfl _ ⟨754, tTri, v0 _ (by omega), And.intro (fun q1 => ⟨tM, ⟨Nat.le_of_ble_eq_true rfl, Nat.le_of_ble_eq_true rfl, Nat.le_of_ble_eq_true rfl⟩, e_latest2 (x := 54) nd rfl _ ⟨754, tTri, v0 _ (by omega), ⟨Nat.le_of_ble_eq_true rfl, Nat.le_of_ble_eq_true rfl, Nat.le_of_ble_eq_true rfl⟩, e_opens (by omega) _ _ (mW w (e + 1)) (R, X) hX (fun Y y1 y2 => ?_)⟩⟩) (fun q1 => absurd q1 q0)⟩⟩
            obtain ⟨y1, y2⟩ := fin _ _ ru rc Y y1 y2
            refine ⟨tM, tM, 754, tTri, vw, ⟨Nat.le_of_ble_eq_true rfl, Nat.le_of_ble_eq_true rfl, Nat.le_of_ble_eq_true rfl⟩, cont Y y1 y2 _ (fun nc => ?_) (fun ca Z z1 z2 => ?_)⟩
            · exact ⟨rfl, rfl, (20, [(2, .int (nI (e + 1 + 1))), (1, .int 0), (0, .ref 138)], (R, Y), 2000 - (e + 1 + 1)), rfl, ⟨Or.inl ⟨Y, y2, Or.inl ⟨e + 1 + 1, 0, hdl, Or.inr ⟨rfl, no nc⟩, rfl⟩⟩, show 2000 - (e + 1 + 1) < 2000 - (e + 1) by omega⟩, rfl, congrArg (fun z => some (Value.int z)) nI1, rfl, rfl, trivial⟩
            · exact ⟨rfl, rfl, (20, [(2, .int (nI (e + 1 + 1))), (1, .int 1), (0, .ref 138)], (R, Z), 2000 - (e + 1 + 1)), rfl, ⟨Or.inl ⟨Z, z2, Or.inl ⟨e + 1 + 1, 1, hdl, Or.inl ⟨rfl, can' ca, z1⟩, rfl⟩⟩, show 2000 - (e + 1 + 1) < 2000 - (e + 1) by omega⟩, rfl, congrArg (fun z => some (Value.int z)) nI1, rfl, rfl, trivial⟩
          · have d0 : d = 0 := (nI_eq (by omega) (by decide)).mp q0
            subst d0
            have ru : uIn (mW w 0) 0 = X 143 (nI 4).toNatClampNeg := by rw [r4]; rfl
            refine ⟨tM, 754, tTri, v0 4 (by decide), And.intro (fun q1 => absurd q0 q1) (fun q1 => ⟨⟨Nat.le_of_ble_eq_true rfl, Nat.le_of_ble_eq_true rfl, Nat.le_of_ble_eq_true rfl⟩, e_opens (by omega) _ _ (mW w 0) (R, X) hX (fun Y y1 y2 => ?_)⟩)⟩
            obtain ⟨y1, y2⟩ := fin _ _ ru rfl Y y1 y2
            refine ⟨tM, tM, 754, tTri, vw, ⟨Nat.le_of_ble_eq_true rfl, Nat.le_of_ble_eq_true rfl, Nat.le_of_ble_eq_true rfl⟩, cont Y y1 y2 _ (fun nc => ?_) (fun ca Z z1 z2 => ?_)⟩
            · exact ⟨rfl, rfl, (20, [(2, .int (nI (0 + 1))), (1, .int 0), (0, .ref 138)], (R, Y), 2000 - (0 + 1)), rfl, ⟨Or.inl ⟨Y, y2, Or.inl ⟨0 + 1, 0, hdl, Or.inr ⟨rfl, no nc⟩, rfl⟩⟩, show 2000 - (0 + 1) < 2000 - 0 by decide⟩, rfl, congrArg (fun z => some (Value.int z)) nI1, rfl, rfl, trivial⟩
            · exact ⟨rfl, rfl, (20, [(2, .int (nI (0 + 1))), (1, .int 1), (0, .ref 138)], (R, Z), 2000 - (0 + 1)), rfl, ⟨Or.inl ⟨Z, z2, Or.inl ⟨0 + 1, 1, hdl, Or.inl ⟨rfl, can' ca, z1⟩, rfl⟩⟩, show 2000 - (0 + 1) < 2000 - 0 by decide⟩, rfl, congrArg (fun z => some (Value.int z)) nI1, rfl, rfl, trivial⟩
        · exact And.intro (fun _ => ⟨rfl, rfl, (120, [(1, .int 0), (0, .ref 138)], (R, X), 1000), rfl, ⟨Or.inl ⟨X, hc, Or.inr (Or.inl ⟨0, Or.inr ⟨rfl, nok⟩, rfl⟩)⟩, show 1000 < 2000 - d by omega⟩, rfl, rfl, rfl, trivial⟩) (fun z => absurd rfl z)
    · -- 120
      rcases hg with ⟨rfl, can, hX⟩ | ⟨rfl, nok⟩
      · have ep : ∀ p, p < m → mW w (l + 1) (50 + 4 * p + 3) = w (50 + 4 * p + 3) := fun p hp => mo _ _ (by omega) (by omega)
        have hM' : ∃ p, p < m ∧ ¬ byP (mW w (l + 1)) p := by
          obtain ⟨p, pm, hp⟩ := hM
          refine ⟨p, pm, fun z => ?_⟩
          have z : mW w (l + 1) (50 + 4 * p + 3) = 1 := z
          rw [ep p pm, hp] at z
          exact absurd z (by decide)
        refine And.intro (fun z => absurd z (by decide)) (fun _ => ⟨tM, ⟨Nat.le_of_ble_eq_true rfl, Nat.le_of_ble_eq_true rfl, Nat.le_of_ble_eq_true rfl⟩, e_parts (by omega) hm0 m4 (mW w (l + 1)) (R, X) hX ?_ ?_ hM' (fun Y y1 y2 => ⟨tM, ⟨Nat.le_of_ble_eq_true rfl, Nat.le_of_ble_eq_true rfl, Nat.le_of_ble_eq_true rfl⟩, e_stores m4 (paT w l m) (R, Y) y1 ?_ (fun p hp => ?_) (fun full Z z2 => ?_) (fun nf Z z1 z2 => ?_)⟩)⟩)
        · rw [mo _ _ (by omega) (by omega)]; exact hf.2.2.1
        · rw [mo _ _ (by omega) (by omega)]; exact hf.2.2.2.1
        · unfold paT; rw [paW_o _ _ _ (by omega) (by omega), mo _ _ (by omega) (by omega)]; exact hf.2.2.2.1
        · obtain ⟨k, k1, k2⟩ := hK p hp
          refine ⟨k, k1, ?_⟩
          unfold paT; rw [paW_o _ _ _ (by omega) (by omega), mo _ _ (by omega) (by omega)]; exact k2
        · have nok : ¬ okW w l m := fun ok => by
            obtain ⟨p, pm, f⟩ := full
            exact ok.2 p pm f
          exact ⟨rfl, rfl, (139, [(1, .int 0), (0, .ref 138)], (R, Z), 900), rfl, ⟨Or.inl ⟨Z, fun c hc' => (z2 c hc').trans ((y2 c hc').trans (hc c hc')), Or.inr (Or.inr ⟨0, Or.inr ⟨rfl, nok⟩, rfl⟩)⟩, show 900 < 1000 by decide⟩, rfl, rfl, rfl, trivial⟩
        · exact ⟨rfl, rfl, (139, [(1, .int 1), (0, .ref 138)], (R, Z), 900), rfl, ⟨Or.inl ⟨Z, fun c hc' => (z2 c hc').trans ((y2 c hc').trans (hc c hc')), Or.inr (Or.inr ⟨1, Or.inl ⟨rfl, ⟨can, nf⟩, z1⟩, rfl⟩)⟩, show 900 < 1000 by decide⟩, rfl, rfl, rfl, trivial⟩
      · exact And.intro (fun _ => ⟨rfl, rfl, (139, [(1, .int 0), (0, .ref 138)], (R, X), 900), rfl, ⟨Or.inl ⟨X, hc, Or.inr (Or.inr ⟨0, Or.inr ⟨rfl, nok⟩, rfl⟩)⟩, show 900 < 1000 by decide⟩, rfl, rfl, rfl, trivial⟩) (fun z => absurd rfl z)
    · -- 139
      obtain ⟨iX, fX⟩ := kM X hc
      rcases hg with ⟨rfl, ok, hX⟩ | ⟨rfl, nok⟩
      · refine And.intro (fun _ => ⟨⟨Nat.le_of_ble_eq_true rfl, Nat.le_of_ble_eq_true rfl, Nat.le_of_ble_eq_true rfl⟩, e_bad (r := 2) (by decide) 0 1 (R, X) eR0 (by decide) (fun z => absurd rfl z) (fun _ => And.intro (fun _ => ⟨⟨Nat.le_of_ble_eq_true rfl, Nat.le_of_ble_eq_true rfl, Nat.le_of_ble_eq_true rfl⟩, e_remembers iX.2.2.2.2.2.1 (R, X) iX.2.2.2.2.1 (fun T hT => ?_)⟩) (fun z => absurd rfl z))⟩) (fun z => absurd z (by decide))
        obtain ⟨iT, fT, zT, tT⟩ := MI_rem' iX hT
        exact ⟨rfl, rfl, (165, [(2, .int (nI 0)), (0, .ref 138)], (T.1, T.2), 100 - 0), rfl, ⟨Or.inr ⟨T, T.2, 0, Nat.zero_le _, ok, iT, fX.trans fT, zT.trans eR0, tT.trans hX, fun _ _ => rfl, rfl⟩, show 100 - 0 < 900 by decide⟩, rfl, rfl, rfl, trivial⟩
      · obtain ⟨ib, fb, eb⟩ := iX.bad 1 (i := 2) (by decide)
        exact And.intro (fun z => absurd rfl z) (fun _ => ⟨⟨Nat.le_of_ble_eq_true rfl, Nat.le_of_ble_eq_true rfl, Nat.le_of_ble_eq_true rfl⟩, e_bad (r := 2) (by decide) 1 1 (R, X) eR0 (by decide) (fun _ => And.intro (fun z => absurd z (by decide)) (fun _ => ⟨rfl, hS nok _ ib (fX.trans fb) eb⟩)) (fun z => absurd z (by decide))⟩)
    · -- 165
      have tn : ∀ i, i < 754 → X 141 i = w i := fun i hi => by rw [hc 141 (by decide)]; exact iT.2.2.2.1 i hi
      have x0 : X 141 (nI 0).toNatClampNeg = lN (l + 1) := by rw [nI_clamp (by omega), tn 0 (by decide)]; exact hf.2.2.1
      refine ⟨tM, 754, tNow, v0 0 (by decide), And.intro (fun q => ?_) (fun q => ?_)⟩
      · have e : l + 1 = d := (le_lN x0 rfl hd (by omega) ((lg_cmp_ge _ _).mp q)).symm
        subst e
        obtain ⟨a1, a2⟩ := st1 hX (i := 4) (by decide) 0
        have sk : ∀ p, p < m → sK (paT w l m) p ≤ 40 := fun p hp => by
          obtain ⟨k, k1, k2⟩ := hK p hp
          refine (sK_le k1 ?_).2
          unfold paT; rw [paW_o _ _ _ (by omega) (by omega), mo _ _ (by omega) (by omega)]; exact k2
        have lo : ∀ i, i < 66 → clA (stR (paT w l m) m) (l + 1) i = w i := fun i hi => by
          rw [clA_o _ _ (by omega) (by omega), stR_o sk (by omega)]
          unfold paT; rw [paW_o _ _ _ (by omega) (by omega), mo _ _ (by omega) (by omega)]
        have r3 : u2 X 143 (nI 4).toNatClampNeg 0 143 (nI 3).toNatClampNeg = w 3 := by rw [rd1 a1 (by decide), u1L_o _ _ (by decide), lo 3 (by decide)]
        obtain ⟨b1, b2⟩ := st1 a1 (i := 3) (by decide) (u2 X 143 (nI 4).toNatClampNeg 0 143 (nI 3).toNatClampNeg + 1)
        obtain ⟨Y, eY⟩ : ∃ Y, u2 (u2 X 143 (nI 4).toNatClampNeg 0) 143 (nI 3).toNatClampNeg (u2 X 143 (nI 4).toNatClampNeg 0 143 (nI 3).toNatClampNeg + 1) = Y := ⟨_, rfl⟩
        rw [eY] at b1 b2
        have b1 : Y 143 = cloW w l m := by rw [b1, r3]; rfl
        have yc : ∀ c, c ≠ 143 → Y c = T.2 c := fun c hc' => (b2 c hc').trans ((a2 c hc').trans (hc c hc'))
        obtain ⟨iY, fY⟩ := iT.tr Y yc
        obtain ⟨iZ, fZ⟩ := iY.now (w' := cloW w l m) (cpr Y 143 141 754) (fun i hi => by rw [cpr_i hi, b1]) (fun c hc' => funext fun i => cpr_k hc')
        have zr : ∀ i, i < 754 → cpr Y 143 141 754 141 (nI i).toNatClampNeg = cloW w l m i := fun i hi => by rw [nI_clamp (by omega), cpr_i hi, b1]
        have c0 : cloW w l m 0 = lN (l + 1) := by
          unfold cloW
          rw [u1L_o _ _ (by decide), u1L_o _ _ (by decide), lo 0 (by decide)]; exact hf.2.2.1
        have nl : (cpr Y 143 141 754 141 (nI 0).toNatClampNeg).toInt32 - nI 1 = nI l := by rw [zr 0 (by decide), c0, lN_i]; exact nI_pred l
        refine ⟨tM, 754, tTri, v0 4 (by decide), tM, 754, tTri, v0 3 (by decide), 754, tTri, v0 3 (by decide), tM, tM, ⟨Nat.le_of_ble_eq_true rfl, Nat.le_of_ble_eq_true rfl, Nat.le_of_ble_eq_true rfl⟩, e_copiesV tTri tNow (by decide) _ eY ⟨tM, tM, 754, tNow, v0 0 (by decide), ⟨Nat.le_of_ble_eq_true rfl, Nat.le_of_ble_eq_true rfl, Nat.le_of_ble_eq_true rfl⟩, e_latest2 (x := 54) nl rfl _ ⟨754, tNow, v0 _ (by omega), rfl, ?_⟩⟩⟩
        have g := h1 ok _ iZ (fT.trans (fY.trans fZ)) zT
        rw [← zr _ (by omega)] at g
        exact g
      · have hdl := lt_lN x0 rfl hd (by omega) (fun z => q ((lg_cmp_ge _ _).mpr z))
        exact ⟨tM, ⟨Nat.le_of_ble_eq_true rfl, Nat.le_of_ble_eq_true rfl, Nat.le_of_ble_eq_true rfl⟩, e_closes (by omega) _ (T.1, X) hX (fun Y y1 y2 => ⟨rfl, rfl, (165, [(2, .int (nI (d + 1))), (0, .ref 138)], (T.1, Y), 100 - (d + 1)), rfl, ⟨Or.inr ⟨T, Y, d + 1, hdl, ok, iT, fT, zT, y1, fun c hc' => (y2 c hc').trans (hc c hc'), rfl⟩, show 100 - (d + 1) < 100 - d by omega⟩, rfl, congrArg (fun z => some (Value.int z)) (nI_1 d), rfl, trivial⟩)⟩
  · exact ⟨tM, tM, tM, ⟨Nat.le_of_ble_eq_true rfl, Nat.le_of_ble_eq_true rfl, Nat.le_of_ble_eq_true rfl⟩, e_copies tNow tTri (by decide) (th0 S) ⟨rfl, rfl, (20, [(2, .int (nI 0)), (1, .int 1), (0, .ref 138)], (R, cpr S.2 141 143 754), 2000 - 0), rfl, Or.inl ⟨_, fun c hc => funext fun i => cpr_k hc, Or.inl ⟨0, 1, Nat.zero_le _, Or.inl ⟨rfl, fun e he => absurd he (Nat.not_lt_zero e), hw⟩, rfl⟩⟩, by rw [eR]; rfl, rfl, rfl, rfl, trivial⟩⟩
