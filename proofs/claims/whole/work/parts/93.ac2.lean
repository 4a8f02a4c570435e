/-! ===== acts of the class: spend, undo ===== -/
theorem CI.desk {S : Mem} {tp : Nat} {sg : Nat → Int32} {fp : Int32} {r : Nat → Int32} {w : Nat → Int64} {H : HL} {n m : Nat} (hI : CI S tp sg fp r w H) (hf : WFt w n m) : ∃ ns, deskR S w n m ns := by
  obtain ⟨-, -, -, ⟨n', m', ns, hD⟩, -⟩ := hI
  have h5 := hD.1.2.1
  have h4 := hD.1.2.2.2.1
  have a5 := hf.1
  have a4 := hf.2.1
  have e1 : n' = n := (lN_eq (by omega) (by omega)).mp (hD.1.2.2.2.2.1.symm.trans hf.2.2.1)
  have e2 : m' = m := (lN_eq (by omega) (by omega)).mp (hD.1.2.2.2.2.2.symm.trans hf.2.2.2.1)
  subst e1 e2
  exact ⟨ns, hD⟩
/-- the materials of department d -/
def mtN (w : Nat → Int64) (d : Nat) : Nat := cnt w (5 + 9 * d + 4)
theorem depT.mt {S : Mem} {w : Nat → Int64} {d : Nat} (h : depT S w d) : S.1 (4 + 17 * d) 4 = nI (mtN w d) ∧ mtN w d ≤ 2 ∧ w (5 + 9 * d + 4) = lN (mtN w d) ∧ ∀ i, i < mtN w d → S.2 (5 + 17 * d) i = w (5 + 9 * d + 5 + i) := by
  obtain ⟨-, -, -, -, ⟨m, m2, a5, a6, a7⟩, -⟩ := h
  have e : mtN w d = m := by
    unfold mtN cnt
    rw [a6, lN_clamp (by omega)]
  rw [e]
  exact ⟨a5, m2, a6, a7⟩
set_option maxHeartbeats 1000000 in
theorem e_cSpend {S : Mem} {tp : Nat} {sg : Nat → Int32} {fp : Int32} {r : Nat → Int32} {w : Nat → Int64} {H : HL} {n m : Nat} (hI : CI S tp sg fp r w H) (hf : WFt w n m) (hv : ∀ d, d < n → ∀ j, 1 ≤ j → j < 4 → rg w (66 + 7 * d + j) 100000000) (x y z : Int32) {Qr : QR} {Qx : QX} (hE : ¬ (∃ d, d < n ∧ x = nI d ∧ kndP y 1 (mtN w d)) → Qx "java/util/NoSuchElementException" (refC S 0)) (hA : ∀ d, d < n → x = nI d → kndP y 1 (mtN w d) → ¬ inR z 1 100000000 → Qx "java/lang/IllegalArgumentException" (refC S 1))
    (hS : ∀ d k c v, d < n → x = nI d → 1 ≤ k → k < 4 → y = nI k → kndP y 1 (mtN w d) → 1 ≤ c → c ≤ 100000000 → z = nI c → w (66 + 7 * d + k) = lN v → v ≤ 100000000 → 100000000 < v + c → Qx "java/lang/IllegalStateException" (refC S 2))
    (h1 : ∀ d k c v, d < n → x = nI d → 1 ≤ k → k < 4 → y = nI k → kndP y 1 (mtN w d) → 1 ≤ c → c ≤ 100000000 → z = nI c → w (66 + 7 * d + k) = lN v → v + c ≤ 100000000 → ∀ S', CI S' tp sg fp r (u1L w (66 + 7 * d + k) (lN (v + c))) ((w :: H).take 8) → FM S S' → Qr (some (.int (nI (v + c)))) S') : vsp 156 9 (sX9_spend 156) [.ref 0, .int x, .int y, .int z] S Qr Qx := by
  obtain ⟨ns, hD⟩ := hI.desk hf
  have hH := hI.2.2.2.2
  have hn5 := hf.1
  refine ⟨tP, runG rfl 80 ⟨⟨Nat.le_of_ble_eq_true rfl, Nat.le_of_ble_eq_true rfl, Nat.le_of_ble_eq_true rfl⟩, e_needDepartment x S hD.1.1 hn5 (fun d hd e => ⟨⟨Nat.le_of_ble_eq_true rfl, Nat.le_of_ble_eq_true rfl, Nat.le_of_ble_eq_true rfl⟩, ?_⟩) (fun q => hE (fun ⟨d, a, b, _⟩ => q ⟨d, a, b⟩))⟩⟩
  have dW := hD.2.2.2.1 d hd
  obtain ⟨m1, m2, m3, m4⟩ := dW.1.mt
  have hk := depN (N := 156) (d := d) (by decide) (by omega)
  refine e_needKind (l := 1) hk.1 y S m1 m2 (by decide) (fun kp => ⟨⟨Nat.le_of_ble_eq_true rfl, Nat.le_of_ble_eq_true rfl, Nat.le_of_ble_eq_true rfl⟩, e_needW z 1 100000000 (by decide) (by decide) S (fun c c1 c2 e3 => ?_) (hA d hd e kp)⟩) (fun q => hE (fun ⟨d', a, b, kk⟩ => q (by
    have : d' = d := (nI_eq (by omega) (by omega)).mp (b.symm.trans e)
    subst this; exact kk)))
  have kp' := kp
  obtain ⟨k, k4, ey, kl, -⟩ := kp'
  have ck : y.toNatClampNeg = k := by rw [ey]; exact nI_clamp (by omega)
  have vk : vp_in y 4 := by rw [ey]; exact vp_nI k4
  obtain ⟨v, v8, ev⟩ := hv d hd k kl k4
  have t6 : tyN 156 (4 + 17 * d + 2) = (1, 4, 0, 0) := hk.2.2.1
  have sv : S.2 (4 + 17 * d + 2) y.toNatClampNeg + z.toInt64 = lN (v + c) := by
    rw [ck, show 4 + 17 * d + 2 = 6 + 17 * d by omega, dW.2.1.1 k kl k4, ev, e3, nI_l (by omega), lN_add]
  refine ⟨hk.1, 4, t6, vk, And.intro (fun q => ?_) (fun q => ?_)⟩
  · have q : lN 100000000 < S.2 (4 + 17 * d + 2) y.toNatClampNeg + z.toInt64 := (lg_cmp_gt _ _).mp q
    rw [sv] at q
    have q := (lN_lt (by decide) (by omega)).mp q
    exact ⟨⟨Nat.le_of_ble_eq_true rfl, Nat.le_of_ble_eq_true rfl, Nat.le_of_ble_eq_true rfl⟩, e_needState 0 S (fun z => absurd rfl z) (fun _ => hS d k c v hd e kl k4 ey kp c1 c2 e3 ev v8 q)⟩
  · have q : ¬ lN 100000000 < S.2 (4 + 17 * d + 2) y.toNatClampNeg + z.toInt64 := fun q' => q ((lg_cmp_gt _ _).mpr q')
    rw [sv] at q
    have q : v + c ≤ 100000000 := by
      rcases Nat.lt_or_ge 100000000 (v + c) with q' | q'
      · exact absurd ((lN_lt (by decide) (by omega)).mpr q') q
      · exact q'
    refine ⟨⟨Nat.le_of_ble_eq_true rfl, Nat.le_of_ble_eq_true rfl, Nat.le_of_ble_eq_true rfl⟩, e_needState 1 S (fun _ => ?_) (fun z => absurd z (by decide))⟩
    obtain ⟨nx, hR⟩ := hH
    refine ⟨tP, tP, ⟨Nat.le_of_ble_eq_true rfl, Nat.le_of_ble_eq_true rfl, Nat.le_of_ble_eq_true rfl⟩, e_histRow hR.1 S hR.2.1 ⟨⟨Nat.le_of_ble_eq_true rfl, Nat.le_of_ble_eq_true rfl, Nat.le_of_ble_eq_true rfl⟩, e_saveR S hR hD (fun T hP hT fT => ?_)⟩⟩
    have tv : T.2 (4 + 17 * d + 2) y.toNatClampNeg + z.toInt64 = lN (v + c) := by rw [(fT _ (by omega)).2]; exact sv
    refine ⟨hk.1, 4, t6, vk, 4, t6, vk, tP, ⟨Nat.le_of_ble_eq_true rfl, Nat.le_of_ble_eq_true rfl, Nat.le_of_ble_eq_true rfl⟩, ?_⟩
    have hU := deskR_sp hT hd kl k4 (lN (v + c))
    have f2 : ∀ a, a = 0 ∨ 101 ≤ a → (T.1, u2 T.2 (6 + 17 * d) k (lN (v + c))).1 a = T.1 a ∧ (T.1, u2 T.2 (6 + 17 * d) k (lN (v + c))).2 a = T.2 a := fun a ha => ⟨rfl, u2_other _ _ _ (by omega)⟩
    show vsp 156 2 (sX2_keep 156) [.ref 101] (T.1, u2 T.2 (4 + 17 * d + 2) y.toNatClampNeg (T.2 (4 + 17 * d + 2) y.toNatClampNeg + z.toInt64)) _ _
    rw [tv, ck, show 4 + 17 * d + 2 = 6 + 17 * d by omega]
    refine e_keep (T.1, u2 T.2 (6 + 17 * d) k (lN (v + c))) (hP.move (fun c a b => f2 c (by omega))) (fun V hV v2 v1 => ?_)
    obtain ⟨q1, q2⟩ := CI_act hI fT f2 hU v2 v1 hV
    refine ⟨hk.1, 4, t6, vk, ?_⟩
    show Qr (some (.int (V.2 (4 + 17 * d + 2) y.toNatClampNeg).toInt32)) V
    have ve : V.2 (4 + 17 * d + 2) y.toNatClampNeg = lN (v + c) := by
      rw [v2, ck, show 4 + 17 * d + 2 = 6 + 17 * d by omega]
      exact u2_s T.2 _ _ _
    rw [ve, lN_i]
    exact h1 d k c v hd e kl k4 ey kp c1 c2 e3 ev q V q1 q2
set_option maxHeartbeats 1000000 in
theorem e_cUndo {S : Mem} {tp : Nat} {sg : Nat → Int32} {fp : Int32} {r : Nat → Int32} {w : Nat → Int64} {H : HL} (hI : CI S tp sg fp r w H) {Qr : QR} {Qx : QX} (h0 : H = [] → Qr (some (.int (-1))) S)
    (h1 : ∀ w' H', H = w' :: H' → ∀ S', CI S' tp sg fp r w' H' → FM S S' → Qr (some (.int (nI H'.length))) S') : vsp 156 9 (sX9_undo 156) [.ref 0] S Qr Qx := by
  have hH := hI.2.2.2.2
  have tH : tyN 156 101 = (0, 2, 0, 0) := rfl
  refine ⟨tP, runG rfl 80 ⟨tP, ⟨Nat.le_of_ble_eq_true rfl, Nat.le_of_ble_eq_true rfl, Nat.le_of_ble_eq_true rfl⟩, e_step S hH (fun e => And.intro (fun x => absurd rfl x) (fun _ => h0 e)) (fun w' H' T e hP t2 t1 => And.intro (fun _ => ?_) (fun x => absurd x (by decide)))⟩⟩
  obtain ⟨nx, hR, g⟩ := hP
  refine ⟨tP, tP, ⟨Nat.le_of_ble_eq_true rfl, Nat.le_of_ble_eq_true rfl, Nat.le_of_ble_eq_true rfl⟩, e_histRow hR.1 T hR.2.1 ⟨⟨Nat.le_of_ble_eq_true rfl, Nat.le_of_ble_eq_true rfl, Nat.le_of_ble_eq_true rfl⟩, e_backR T hR g (fun V n m ns hV hD fV f1 => ?_)⟩⟩
  have gg : ∀ c, c = 0 ∨ 121 ≤ c → V.1 c = S.1 c ∧ V.2 c = S.2 c := fun c hc => ⟨(fV c hc).1.trans (t1 c (by omega)), (fV c hc).2.trans (by rw [t2])⟩
  refine ⟨tP, tH, ?_⟩
  show Qr (some (.int (V.1 101 2))) V
  rw [f1, hR.2.2.1]
  obtain ⟨a, b, ⟨c1, c2, c3⟩, -, -⟩ := hI
  exact h1 w' H' e V ⟨by rw [(gg 0 (by omega)).1]; exact a, fun i hi => by rw [(gg 0 (by omega)).1]; exact b i hi, ⟨by rw [(gg 121 (by omega)).1]; exact c1, c2, fun i hi => by rw [(gg 122 (by omega)).1]; exact c3 i hi⟩, ⟨n, m, ns, hD⟩, hV⟩ (fun c hc => gg c (by omega))
