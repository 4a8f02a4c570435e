/-! ===== close: the class ===== -/
theorem fr_cl {S S1 S2 S3 S4 S5 : Mem} {l m : Nat} {ns : Nat → Nat} {f : Int32} {O : Int64} (hl : l < 5) (cl : closeR S S1 (l + 1)) (u : unitR S1 S2 f m) (c : centR S2 S3 O m) (v : moveR S3 S4 l m) (fl : fillR S4 S5 m ns) : ∀ c, c = 0 ∨ 101 ≤ c → u2 (u2 S5.1 1 5 (S5.1 1 5 + 1)) 1 6 0 c = S.1 c ∧ accX S5 (l + 1) c = S.2 c := by
  intro k hk
  obtain ⟨-, u2', u3⟩ := u
  obtain ⟨c1, -, -, c4⟩ := c
  obtain ⟨v1, -, v3⟩ := v
  have v4 : ∀ j, S4.2 k j = S3.2 k j := fun j => by
    rcases v3 with ⟨t, -, -, -, -, t5⟩ | ⟨-, -, t3⟩
    · exact t5 k j (by omega)
    · exact t3 k j (by omega) (by omega)
  refine ⟨?_, ?_⟩
  · rw [u2_other _ _ _ (by omega), u2_other _ _ _ (by omega), (fl.2 k (by omega)).1, v1, c1]
    funext j
    rw [u2' k j (by omega), (cl.2 k (by omega)).1]
  · rw [accX_o _ _ (by omega), (fl.2 k (by omega)).2]
    funext j
    rw [v4 j, c4 k j (by omega), u3 k j (by omega), (cl.2 k (by omega)).2]
theorem ful_cl {S : Mem} {w : Nat → Int64} {l m t : Nat} {ns : Nat → Nat} (hD : deskR S w (l + 1) m ns) (hf : WFt w (l + 1) m) (hwh : pWhl w (l + 1) m) (hm0 : 0 < m) (hE : ∀ d, d < l + 1 → WFe w d t) (h4 : rg w 4 10000) (can : ∀ d, d < l + 1 → cnM w d) (h : fullR S m (l + 1) ns) : ∃ p, p < m ∧ fulW (paT w l m) p := by
  have n5 : l + 1 ≤ 5 := hD.1.2.1
  have m4 : m ≤ 4 := hD.1.2.2.2.1
  have hl : l < 5 := by omega
  obtain ⟨rc1, rc2, rc3⟩ := rc_eq hD hE h4 (l + 1) (Nat.le_refl _) can
  have eUI : uIn (mW w (l + 1)) (l + 1) = mW w (l + 1) ((131 + 55 * l) + 15) := if_neg (Nat.succ_ne_zero l)
  rw [eUI] at rc1 rc2 rc3
  have hT1 : ∀ p, p < m → proT S (mW w (l + 1)) p := fun p hp => (hD.2.2.2.2 p hp).1.move rfl (fun i x y => mW_o w _ (by omega))
  have hWp : ∀ p, p < m → WFp (mW w (l + 1)) p := fun p hp => (hf.2.2.2.2.2.2 p hp).move (fun i x y => mW_o w _ (by omega))
  have hsh : sumN (fun p => mW w (l + 1) (50 + 4 * p)) m = 100 := by
    rw [← hwh.2.1]; exact sumN_congr fun p hp => mW_o w _ (by omega)
  obtain ⟨p, hp, f1, f2, f3⟩ := h
  obtain ⟨e1, -, -⟩ := pU_eq m4 hm0 hT1 hWp hsh rc1 rc2 (by omega) hp
  have t1 := (paT_p w (l := l) hp m4).1
  have w2 : ¬ w 2 = 1 := fun z => f2 ((eq64 (hD.2.1 0 (by decide)) (show (1 : Int32).toInt64 = 1 from rfl)).mpr z)
  have a6 := (hD.2.2.2.2 p hp).2.2.2.2.2.1
  have a7 := (hD.2.2.2.2 p hp).2.2.2.2.2.2.1
  refine ⟨p, hp, fun z => f1 ((eq64 e1 i64_0).mpr (t1.symm.trans z)), ?_⟩
  rw [(sK_ns (m := m) hl a7 a6).2.2.2 (Or.inl w2)]; exact f3
set_option maxHeartbeats 4000000 in
theorem e_cClose {S : Mem} {tp : Nat} {sg : Nat → Int32} {fp : Int32} {r : Nat → Int32} {w : Nat → Int64} {H : HL} {l m t B : Nat} (hI : CI S tp sg fp r w H) (hf : WFt w (l + 1) m) (hwh : pWhl w (l + 1) m) (hm0 : 0 < m) (hE : ∀ d, d < l + 1 → WFe w d t) (hSt : ∀ p, p < m → WFk w p) (h3 : rg w 3 B) (hB : B < 1000000000) (h4 : rg w 4 10000) {Qr : QR} {Qx : QX} (hS : ¬ okW w l m → ∀ S', CI S' tp sg fp r w H → FM S S' → Qx "java/lang/IllegalStateException" (refC S' 2))
    (h1 : okW w l m → ∀ S', CI S' tp sg fp r (cloW w l m) ((w :: H).take 8) → FM S S' → Qr (some (.long (cloW w l m ((131 + 55 * l) + 54)))) S') : vsp 156 9 (sX9_close 156) [.ref 0] S Qr Qx := by
  obtain ⟨ns, hD⟩ := hI.desk hf
  have n5 : l + 1 ≤ 5 := hD.1.2.1
  have m4 : m ≤ 4 := hD.1.2.2.2.1
  have hl : l < 5 := by omega
  obtain ⟨nx, hR⟩ := hI.2.2.2.2
  refine ⟨tP, runG rfl 80 ⟨tP, tP, ⟨Nat.le_of_ble_eq_true rfl, Nat.le_of_ble_eq_true rfl, Nat.le_of_ble_eq_true rfl⟩, e_histRow hR.1 S hR.2.1 ⟨⟨Nat.le_of_ble_eq_true rfl, Nat.le_of_ble_eq_true rfl, Nat.le_of_ble_eq_true rfl⟩, e_saveR S hR hD (fun T hP hT fT => ⟨tP, ⟨Nat.le_of_ble_eq_true rfl, Nat.le_of_ble_eq_true rfl, Nat.le_of_ble_eq_true rfl⟩, ?_⟩)⟩⟩⟩
  have hmn : ∃ p, p < m ∧ mnP T p := by
    obtain ⟨p, pm, hp⟩ := hwh.2.2
    exact ⟨p, pm, (eq64 ((hT.2.2.2.2 p pm).1 3 (by decide)) i64_0).mpr hp⟩
  refine e_closeMonth T hT.1.1 hl hT.1.2.2.1 hm0 m4 hmn (fun p hp => ⟨(hT.2.2.2.2 p hp).2.2.2.2.1, (hT.2.2.2.2 p hp).2.2.2.2.2.2.1⟩) (fun S' hF fr => And.intro (fun z => absurd rfl z) (fun _ => ?_)) (fun can S1 S2 S3 S4 S5 cl un ce mo fi => And.intro (fun _ => ?_) (fun z => absurd z (by decide)))
  · have nok : ¬ okW w l m := fun ok => by
      rcases hF with z | z
      · exact z ((canA_W hT hE h4).mpr ok.1)
      · obtain ⟨p, pm, fp⟩ := ful_cl hT hf hwh hm0 hE h4 ok.1 z
        exact ok.2 p pm fp
    obtain ⟨ny, hR', g⟩ := hP.move (S' := S') (fun c a b => fr c (by omega))
    refine ⟨tP, tP, ⟨Nat.le_of_ble_eq_true rfl, Nat.le_of_ble_eq_true rfl, Nat.le_of_ble_eq_true rfl⟩, e_histRow hR'.1 S' hR'.2.1 ⟨⟨Nat.le_of_ble_eq_true rfl, Nat.le_of_ble_eq_true rfl, Nat.le_of_ble_eq_true rfl⟩, e_backR S' hR' g (fun V n' m' ns' hV hDV fV f1 => ⟨⟨Nat.le_of_ble_eq_true rfl, Nat.le_of_ble_eq_true rfl, Nat.le_of_ble_eq_true rfl⟩, e_needState 0 V (fun z => absurd rfl z) (fun _ => hS nok V ?_ ?_)⟩)⟩⟩
    · have gg : ∀ c, c = 0 ∨ 121 ≤ c → V.1 c = S.1 c ∧ V.2 c = S.2 c := fun c hc => ⟨(fV c hc).1.trans ((fr c (by omega)).1.trans (fT c (by omega)).1), (fV c hc).2.trans ((fr c (by omega)).2.trans (fT c (by omega)).2)⟩
      obtain ⟨a, b, ⟨c1, c2, c3⟩, -, -⟩ := hI
      exact ⟨by rw [(gg 0 (by omega)).1]; exact a, fun i hi => by rw [(gg 0 (by omega)).1]; exact b i hi, ⟨by rw [(gg 121 (by omega)).1]; exact c1, c2, fun i hi => by rw [(gg 122 (by omega)).1]; exact c3 i hi⟩, ⟨n', m', ns', hDV⟩, hV⟩
    · exact fun c hc => ⟨(fV c (by omega)).1.trans ((fr c (by omega)).1.trans (fT c (by omega)).1), (fV c (by omega)).2.trans ((fr c (by omega)).2.trans (fT c (by omega)).2)⟩
  · have can' := (canA_W hT hE h4).mp can
    obtain ⟨hU, nf⟩ := desk_cl hT hf hwh hm0 hE hSt h3 hB h4 can' cl un ce mo fi
    have f2 := fr_cl hl cl un ce mo fi
    refine ⟨⟨Nat.le_of_ble_eq_true rfl, Nat.le_of_ble_eq_true rfl, Nat.le_of_ble_eq_true rfl⟩, e_needState 1 _ (fun _ => ⟨tP, ⟨Nat.le_of_ble_eq_true rfl, Nat.le_of_ble_eq_true rfl, Nat.le_of_ble_eq_true rfl⟩, e_keep _ (hP.move (fun c a b => f2 c (by omega))) (fun V hV v2 v1 => ?_)⟩) (fun z => absurd z (by decide))⟩
    obtain ⟨q1, q2⟩ := CI_act hI fT f2 hU v2 v1 hV
    have hd' : V.1 1 2 = nI (l + 1) := by rw [v1 1 (by decide)]; exact hU.1.1
    have hk := depN (N := 156) (d := l) (by decide) hl
    refine ⟨tP, ⟨Nat.le_of_ble_eq_true rfl, Nat.le_of_ble_eq_true rfl, Nat.le_of_ble_eq_true rfl⟩, e_lastDep hl V hd' ⟨hk.1, hk.2.2.2.2.1, rfl, ?_⟩⟩
    have e54 := (hU.2.2.2.1 l (Nat.lt_succ_self l)).2.2.2.1.2.2.2.2.2.2.2.2
    rw [← v2, show 9 + 17 * l = 4 + 17 * l + 5 by omega] at e54
    have g := h1 ⟨can', nf⟩ V q1 q2
    rw [e54] at g
    exact g
