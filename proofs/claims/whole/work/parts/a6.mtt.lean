/-! ===== the model's text, the method ===== -/
theorem MI_remG {S T : Mem} {tp : Nat} {sg : Nat → Int32} {fp : Int32} {r : Nat → Int32} {w : Nat → Int64} {H : HL} (hI : MI S tp sg fp r w H) (hR : remR S T H.length) : MI T tp sg fp r w ((w :: H).take 8) ∧ FC S T ∧ T.1 138 0 = S.1 138 0 ∧ T.2 142 = S.2 142 := by
  obtain ⟨a, b, ⟨c1, c2⟩, d, e⟩ := hI
  have hM := hisM_rem e d hR
  obtain ⟨r1, r2, r3, r4⟩ := hR
  have e1 : ∀ c, c ≠ 138 → T.1 c = S.1 c := fun c hc => by rw [r4]; exact u2_other _ _ _ hc
  have e2 : ∀ j, j ≠ 13 → T.1 138 j = S.1 138 j := fun j hj => by rw [r4]; exact u2_j _ _ _ _ hj
  exact ⟨⟨(e2 5 (by decide)).trans a, fun i hi => by rw [e1 139 (by decide)]; exact b i hi, ⟨(e2 2 (by decide)).trans c1, fun i hi => by rw [e1 140 (by decide)]; exact c2 i hi⟩, fun i hi => by rw [r3 141 (by decide)]; exact d i hi, hM⟩, fun c hc => ⟨e1 c (by omega), r3 c (by omega)⟩, e2 0 (by decide), r3 142 (by decide)⟩
set_option maxHeartbeats 4000000 in
theorem e_mText {S : Mem} {tp : Nat} {sg : Nat → Int32} {fp : Int32} {r : Nat → Int32} {w : Nat → Int64} {H : HL} (hI : MI S tp sg fp r w H) (htp : tp ≤ 400) (x : Int32) {Qr : QR} {Qx : QX} (hE : ¬ inR x 0 tp → ∀ S', MI S' tp sg fp (bmp r 1) w H → FC S S' → S'.1 138 0 = 1 → Qr (some (.int 0)) S')
    (hF : ∀ len rr pl, len ≤ tp → x = nI len → rT sg len = .inl (rr, pl) → ∀ S', MI S' 0 sg (nI pl) r w H → FC S S' → S'.1 138 0 = 0 → Qr (some (.int (rr - 10))) S')
    (hW : ∀ len wn n m, len ≤ tp → x = nI len → rT sg len = .inr wn → WFt wn n m → ¬ pWhl wn n m → ∀ S', MI S' 0 sg (nI len) r w H → FC S S' → S'.1 138 0 = 0 → Qr (some (.int (4 - 10))) S')
    (h1 : ∀ len wn n m, len ≤ tp → x = nI len → rT sg len = .inr wn → WFt wn n m → pWhl wn n m → ∀ S', MI S' 0 sg (-1) r wn ((w :: H).take 8) → FC S S' → S'.1 138 0 = 0 → Qr (some (.int (wn 0).toInt32)) S') : vsp 156 10 (sX10_text 156) [.ref 138, .int x] S Qr Qx := by
  obtain ⟨i0, f0⟩ := hI.thr 0
  have t0 : (th0 S).1 138 0 = 0 := u2_s S.1 138 0 0
  obtain ⟨ib, fb, eb⟩ := i0.bad 1 (i := 1) (by decide)
  have z2 : (th0 S).1 138 2 = nI tp := i0.2.2.1.1
  by_cases hx : inR x 0 tp
  · obtain ⟨len, -, l2, e⟩ := hx
    have g2 : ∀ i, len ≤ i → gT sg len i < 0 := fun i hi => by unfold gT; rw [if_neg (by omega)]; decide
    -- the state in which reading begins
    generalize hT1 : ((u2 (u2 (u2 (u2 (u2 (u2 (th0 S).1 138 2 0) 138 3 x) 138 4 0) 138 6 0) 138 7 (-1)) 138 14 0, u2 (zr (th0 S).2 142 754) 142 2 1) : Mem) = T1
    have a1 : ∀ c, c ≠ 138 → T1.1 c = (th0 S).1 c := fun c hc => by
      rw [← hT1]
      exact (u2_other _ _ _ hc).trans ((u2_other _ _ _ hc).trans ((u2_other _ _ _ hc).trans ((u2_other _ _ _ hc).trans ((u2_other _ _ _ hc).trans (u2_other _ _ _ hc)))))
    have a2 : ∀ c, c ≠ 142 → T1.2 c = (th0 S).2 c := fun c hc => by
      rw [← hT1]
      funext j
      show u2 (zr (th0 S).2 142 754) 142 2 1 c j = _
      rw [u2_k _ _ _ _ hc, zr, if_neg (fun y => hc y.1)]
    have aj : ∀ j, j ≠ 2 → j ≠ 3 → j ≠ 4 → j ≠ 6 → j ≠ 7 → j ≠ 14 → T1.1 138 j = (th0 S).1 138 j := fun j b2 b3 b4 b6 b7 b14 => by
      rw [← hT1]
      show u2 (u2 (u2 (u2 (u2 (u2 (th0 S).1 138 2 0) 138 3 x) 138 4 0) 138 6 0) 138 7 (-1)) 138 14 0 138 j = _
      rw [u2_j _ _ _ _ b14, u2_j _ _ _ _ b7, u2_j _ _ _ _ b6, u2_j _ _ _ _ b4, u2_j _ _ _ _ b3, u2_j _ _ _ _ b2]
    have b2 : T1.1 138 2 = 0 := by rw [← hT1]; simp [u2]
    have b3 : T1.1 138 3 = nI len := by rw [← hT1, ← e]; simp [u2]
    have b4 : T1.1 138 4 = nI 0 := by rw [← hT1]; simp [u2, nI_0]
    have b6 : T1.1 138 6 = 0 := by rw [← hT1]; simp [u2]
    have b7 : T1.1 138 7 = -1 := by rw [← hT1]; simp [u2]
    have b14 : T1.1 138 14 = 0 := by rw [← hT1]; simp [u2]
    have tr0 : TR T1 w00 := fun i hi => by
      rw [← hT1]
      show u2 (zr (th0 S).2 142 754) 142 2 1 142 i = if i = 2 then 1 else 0
      by_cases z : i = 2
      · subst z; rw [u2_s, if_pos rfl]
      · rw [u2_j _ _ _ _ z, zr, if_pos ⟨rfl, hi⟩, if_neg z]
    have gM : tgM T1 (gT sg len) len := by
      refine ⟨b3, by omega, fun i hi => ?_, g2⟩
      have := i0.2.2.1.2 i (by omega)
      rw [a1 140 (by decide)]
      unfold gT
      rw [if_pos hi]
      exact this
    -- what is left to be known of an end state
    have fin : ∀ (U : Mem) (q : Int32), MU T1 U → MI (u2 U.1 138 5 q, U.2) 0 sg q r w H ∧ FC S (u2 U.1 138 5 q, U.2) ∧ (u2 U.1 138 5 q, U.2).1 138 0 = 0 := by
      intro U q hU
      obtain ⟨m1, m2, m3, m4, m5, m6⟩ := hU
      obtain ⟨ia, ib', ⟨ic, id'⟩, ie, ⟨if1, if2, if3⟩⟩ := i0
      have ue : ∀ c, c ≠ 138 → u2 U.1 138 5 q c = (th0 S).1 c := fun c hc => (u2_other _ _ _ hc).trans ((m2 c hc).trans (a1 c hc))
      have uj : ∀ j, j ≠ 5 → u2 U.1 138 5 q 138 j = U.1 138 j := fun j hj => u2_j _ _ _ _ hj
      refine ⟨⟨u2_s U.1 138 5 q, fun i hi => ?_, ⟨?_, fun i hi => absurd hi (Nat.not_lt_zero i)⟩, fun i hi => ?_, ⟨?_, if2, fun i hi j hj => ?_⟩⟩, fun c hc => ⟨(ue c (by omega)).trans (f0 c hc).1, (m1 c (by omega)).trans ((a2 c (by omega)).trans (f0 c hc).2)⟩, ?_⟩
      · show u2 U.1 138 5 q 139 i = r i
        rw [ue 139 (by decide)]; exact ib' i hi
      · show u2 U.1 138 5 q 138 2 = nI 0
        rw [uj 2 (by decide), m4, b2]; rfl
      · show U.2 141 i = w i
        rw [m1 141 (by decide), a2 141 (by decide)]; exact ie i hi
      · show u2 U.1 138 5 q 138 13 = _
        rw [uj 13 (by decide), m6, aj 13 (by decide) (by decide) (by decide) (by decide) (by decide) (by decide)]; exact if1
      · show U.2 _ j = _
        rw [m1 _ (by omega), a2 _ (by omega)]; exact if3 i hi j hj
      · show u2 U.1 138 5 q 138 0 = 0
        rw [uj 0 (by decide), m3, aj 0 (by decide) (by decide) (by decide) (by decide) (by decide) (by decide)]; exact t0
    -- the end: a fault
    have endF : ∀ (U : Mem) (rr : Int32) (pl : Nat), MU T1 U → ¬ rr = 0 → U.1 138 6 = rr → U.1 138 7 = nI pl → (∀ S', MI S' 0 sg (nI pl) r w H → FC S S' → S'.1 138 0 = 0 → Qr (some (.int (rr - 10))) S') → wpH 156 pX10_text (kX10_text 156) hd0 [] none 2 (some .int) Qr Qx [] 60 (jmp 117 pX10_text) 0 [(0, .ref 138), (1, .int x)] [] U := by
      intro U rr pl hU hr u6 u7 hq
      have h6 : (u2 U.1 138 5 (U.1 138 7), U.2).1 138 6 = rr := (u2_j U.1 138 138 (U.1 138 7) (show 6 ≠ 5 by decide)).trans u6
      refine ⟨tM, tM, ⟨Nat.le_of_ble_eq_true rfl, Nat.le_of_ble_eq_true rfl, Nat.le_of_ble_eq_true rfl⟩, e_fine (u2 U.1 138 5 (U.1 138 7), U.2) (fun y => absurd (h6.symm.trans y) hr) (fun _ => And.intro (fun z => absurd rfl z) (fun _ => ⟨tM, ?_⟩))⟩
      show Qr (some (.int ((u2 U.1 138 5 (U.1 138 7), U.2).1 138 6 - 10))) (u2 U.1 138 5 (U.1 138 7), U.2)
      rw [h6, u7]
      obtain ⟨x1, x2, x3⟩ := fin U (nI pl) hU
      exact hq _ x1 x2 x3
    have tail : ∀ (U : Mem), MU T1 U → ((∃ wn n m, rT sg len = .inr wn ∧ WFt wn n m ∧ TR U wn ∧ U.1 138 6 = 0 ∧ U.1 138 7 = -1) ∨ FLA U (rT sg len)) → wpH 156 pX10_text (kX10_text 156) hd0 [] none 2 (some .int) Qr Qx [] 80 (jmp 94 pX10_text) 0 [(0, .ref 138), (1, .int x)] [] U := by
      intro U hU hs
      rcases hs with ⟨wn, n, m, hr, hf, tr, u6, u7⟩ | ⟨rr, pl, hr, hnz, u6, u7⟩
      · refine ⟨⟨Nat.le_of_ble_eq_true rfl, Nat.le_of_ble_eq_true rfl, Nat.le_of_ble_eq_true rfl⟩, e_fine U (fun _ => And.intro (fun z => absurd z (by decide)) (fun _ => ⟨⟨Nat.le_of_ble_eq_true rfl, Nat.le_of_ble_eq_true rfl, Nat.le_of_ble_eq_true rfl⟩, e_isDesk U tr hf (fun hp => And.intro (fun _ => ?_) (fun z => absurd z (by decide))) (fun hp => And.intro (fun z => absurd rfl z) (fun _ => ⟨tM, ⟨Nat.le_of_ble_eq_true rfl, Nat.le_of_ble_eq_true rfl, Nat.le_of_ble_eq_true rfl⟩, e_wrong 4 _ U u6 (fun V tV e6 e7 => ?_)⟩))⟩)) (fun y => absurd u6 y)⟩
        · obtain ⟨x1, x2, x3⟩ := fin U (U.1 138 7) hU
          have h6 : (u2 U.1 138 5 (U.1 138 7), U.2).1 138 6 = 0 := (u2_j U.1 138 138 (U.1 138 7) (show 6 ≠ 5 by decide)).trans u6
          refine ⟨tM, tM, ⟨Nat.le_of_ble_eq_true rfl, Nat.le_of_ble_eq_true rfl, Nat.le_of_ble_eq_true rfl⟩, e_fine (u2 U.1 138 5 (U.1 138 7), U.2) (fun _ => And.intro (fun _ => ⟨⟨Nat.le_of_ble_eq_true rfl, Nat.le_of_ble_eq_true rfl, Nat.le_of_ble_eq_true rfl⟩, e_remembers x1.2.2.2.2.2.1 _ x1.2.2.2.2.1 (fun V hV => ⟨tM, tM, ⟨Nat.le_of_ble_eq_true rfl, Nat.le_of_ble_eq_true rfl, Nat.le_of_ble_eq_true rfl⟩, ?_⟩)⟩) (fun z => absurd z (by decide))) (fun y => absurd h6 y)⟩
          obtain ⟨y1, y2, y3, y4⟩ := MI_remG x1 hV
          refine e_copies tTold tNow (by decide) V ⟨tM, 754, tNow, vp_nI (n := 0) (by decide), ?_⟩
          show Qr (some (.int (cpr V.2 142 141 754 141 0).toInt32)) (V.1, cpr V.2 142 141 754)
          have cw : ∀ i, i < 754 → cpr V.2 142 141 754 141 i = wn i := fun i hi => by
            rw [cpr, if_pos ⟨rfl, hi⟩, y4]; exact tr i hi
          rw [cw 0 (by decide)]
          obtain ⟨w1', w2'⟩ := y1.now (w' := wn) (cpr V.2 142 141 754) cw (fun c hc => funext fun j => by rw [cpr, if_neg (fun q => hc q.1)])
          rw [u7] at w1' x2 y2
          exact h1 len wn n m l2 e hr hf hp _ w1' (x2.trans (y2.trans w2')) (y3.trans x3)
        · exact endF V 4 len (hU.trans (tV.mt.mu (by decide))) (by decide) e6 (e7.trans (hU.2.2.2.2.1.trans b3)) (fun S' q1 q2 q3 => hW len wn n m l2 e hr hf hp S' q1 q2 q3)
      · exact ⟨⟨Nat.le_of_ble_eq_true rfl, Nat.le_of_ble_eq_true rfl, Nat.le_of_ble_eq_true rfl⟩, e_fine U (fun y => absurd (u6.symm.trans y) hnz) (fun _ => And.intro (fun _ => endF U rr pl hU hnz u6 u7 (fun S' q1 q2 q3 => hF len rr pl l2 e hr S' q1 q2 q3)) (fun z => absurd rfl z))⟩
    refine ⟨tM, runL (α := Mem × Nat) rfl 200 72 0 (fun b => [(0, .ref 138), (1, .int x)]) (fun b => b.1) (fun b => b.2) (fun b => MU T1 b.1 ∧ ((∃ k a st wn n m, ST b.1 len a ∧ TR b.1 wn ∧ WFt wn n m ∧ b.1.1 138 14 = (bif st then 1 else 0) ∧ b.1.1 138 7 = -1 ∧ 400 ≤ k + a ∧ pAll (gT sg len) len k a st wn = rT sg len ∧ b.2 = len - a + 1) ∨ (FLA b.1 (rT sg len) ∧ b.2 = 0))) ?_ ?_⟩
    · rintro ⟨U, μ⟩ ⟨hU, hs⟩
      dsimp only at hU hs
      have gU : tgM U (gT sg len) len := ⟨hU.2.2.2.2.1.trans b3, by omega, fun i hi => by rw [hU.2.1 140 (by decide)]; exact gM.2.2.1 i hi, g2⟩
      rcases hs with ⟨k, a, st, wn, n, m, sU, tr, hf, u14, u7, hk, hp, rfl⟩ | ⟨hF', rfl⟩
      · refine ⟨⟨Nat.le_of_ble_eq_true rfl, Nat.le_of_ble_eq_true rfl, Nat.le_of_ble_eq_true rfl⟩, e_fine U (fun _ => And.intro (fun z => absurd z (by decide)) (fun _ => ⟨⟨Nat.le_of_ble_eq_true rfl, Nat.le_of_ble_eq_true rfl, Nat.le_of_ble_eq_true rfl⟩, e_here U gU sU.2.1 sU.2.2.1 (fun V v tV V4 sv ve => And.intro (fun y => ?_) (fun y => ?_))⟩)) (fun y => absurd sU.1 y)⟩
        · have y : v = -1 := y
          have hge := ve.mp y
          refine tail V (hU.trans (tV.mt.mu (by decide))) (Or.inl ⟨wn, n, m, ?_, hf, fun i hi => by rw [tV.1]; exact tr i hi, (tV.2.2 6 (by decide)).trans sU.1, (tV.2.2 7 (by decide)).trans u7⟩)
          rw [← hp]
          rcases k with _ | k
          · rfl
          · exact if_neg (by omega)
        · have y : ¬ v = -1 := y
          have hlt : rend isBl (gT sg len) len a < len := by
            rcases Nat.lt_or_ge (rend isBl (gT sg len) len a) len with q | q
            · exact q
            · exact absurd (ve.mpr q) y
          have rl := rend_le (P := isBl) (g := gT sg len) sU.2.2.1
          obtain ⟨k', rfl⟩ : ∃ k', k = k' + 1 := ⟨k - 1, by have := sU.2.2.1; omega⟩
          have hp2 : (match pLine (gT sg len) len a st wn with | .inl x => .inl x | .inr (a', w') => pAll (gT sg len) len k' a' (st || decide (mtc (gT sg len) (rend isBl (gT sg len) len a) 3)) w') = rT sg len := by
            rw [← hp]; exact (if_pos hlt).symm
          have idm : rend isBl (gT sg len) len (rend isBl (gT sg len) len a) = rend isBl (gT sg len) len a := rend_no (fun h => (rend_spec (P := isBl) (g := gT sg len) _ a rfl sU.2.2.1).2.2.2 h)
          have pl : pLine (gT sg len) len (rend isBl (gT sg len) len a) st wn = pLine (gT sg len) len a st wn := by unfold pLine; rw [idm]
          have sV : ST V len (rend isBl (gT sg len) len a) := ⟨(tV.2.2 6 (by decide)).trans sU.1, V4, rl.2, (tV.2.2 7 (by decide)).trans sU.2.2.2⟩
          refine ⟨⟨Nat.le_of_ble_eq_true rfl, Nat.le_of_ble_eq_true rfl, Nat.le_of_ble_eq_true rfl⟩, e_line V (tV.tg (by decide) gU) sV wn (fun i hi => by rw [tV.1]; exact tr i hi) hf ((tV.2.2 14 (by decide)).trans u14) (fun W mW hW' => ?_)⟩
          rw [pl, idm] at hW'
          have hMU : MU T1 W := hU.trans ((tV.mt.mu (by decide)).trans (mW.mu (by decide)))
          rcases hW' with ⟨a', w', sW, hl, trW, w14⟩ | ⟨rr, q, hl, hnz, u6, u7'⟩
          · obtain ⟨⟨n', m', f'⟩, la, lb⟩ := pLine_wf g2 sU.2.2.1 hf hl
            rw [hl] at hp2
            have w7 : W.1 138 7 = -1 := sW.2.2.2
            exact ⟨rfl, rfl, (W, len - a' + 1), ⟨⟨hMU, Or.inl ⟨k', a', _, w', n', m', sW, trW, f', w14, w7, by omega, hp2, rfl⟩⟩, by show len - a' + 1 < len - a + 1; omega⟩, rfl, rfl, rfl, trivial⟩
          · rw [hl] at hp2
            exact ⟨rfl, rfl, (W, 0), ⟨⟨hMU, Or.inr ⟨⟨rr, q, hp2.symm, hnz, u6, u7'⟩, rfl⟩⟩, by show 0 < len - a + 1; omega⟩, rfl, rfl, rfl, trivial⟩
      · refine ⟨⟨Nat.le_of_ble_eq_true rfl, Nat.le_of_ble_eq_true rfl, Nat.le_of_ble_eq_true rfl⟩, e_fine U (fun y => ?_) (fun _ => And.intro (fun _ => tail U hU (Or.inr hF')) (fun z => absurd rfl z))⟩
        obtain ⟨rr, pl, -, hnz, u6, -⟩ := hF'
        exact absurd (u6.symm.trans y) hnz
    · refine ⟨tM, tM, ⟨Nat.le_of_ble_eq_true rfl, Nat.le_of_ble_eq_true rfl, Nat.le_of_ble_eq_true rfl⟩, ?_⟩
      show sX10_in 156 [.long x.toInt64, .long (lN 0), .long ((th0 S).1 138 2).toInt64] (th0 S) _ _
      rw [z2, nI_l (by omega)]
      refine e_inW x 0 tp (by decide) (by omega) (th0 S) (fun k _ _ _ => And.intro (fun _ => ⟨⟨Nat.le_of_ble_eq_true rfl, Nat.le_of_ble_eq_true rfl, Nat.le_of_ble_eq_true rfl⟩, e_bad (r := 1) (by decide) 0 1 (th0 S) t0 (by decide) (fun z => absurd rfl z) (fun _ => And.intro (fun _ => ?_) (fun z => absurd rfl z))⟩) (fun z => absurd z (by decide))) (fun q => absurd ⟨len, Nat.zero_le _, l2, e⟩ q)
      refine ⟨tM, tM, tM, tM, tM, tM, Or.inl rfl, tM, ⟨Nat.le_of_ble_eq_true rfl, Nat.le_of_ble_eq_true rfl, Nat.le_of_ble_eq_true rfl⟩, e_begins tTold _ ⟨rfl, rfl, (T1, len - 0 + 1), ⟨MU.re, Or.inl ⟨400, 0, false, w00, 0, 0, ⟨b6, b4, Nat.zero_le _, b7⟩, tr0, w00_wf, b14, b7, by omega, rfl, rfl⟩⟩, hT1, rfl, rfl, trivial⟩⟩
  · refine ⟨tM, runL (α := Nat) rfl 200 72 0 (fun _ => []) (fun _ => S) (fun k => k) (fun _ => False) (fun k hk => absurd hk id) ⟨tM, tM, ⟨Nat.le_of_ble_eq_true rfl, Nat.le_of_ble_eq_true rfl, Nat.le_of_ble_eq_true rfl⟩, ?_⟩⟩
    show sX10_in 156 [.long x.toInt64, .long (lN 0), .long ((th0 S).1 138 2).toInt64] (th0 S) _ _
    rw [z2, nI_l (by omega)]
    exact e_inW x 0 tp (by decide) (by omega) (th0 S) (fun k a b c => absurd ⟨k, a, b, c⟩ hx) (fun q => And.intro (fun z => absurd rfl z) (fun _ => ⟨⟨Nat.le_of_ble_eq_true rfl, Nat.le_of_ble_eq_true rfl, Nat.le_of_ble_eq_true rfl⟩, e_bad (r := 1) (by decide) 1 1 (th0 S) t0 (by decide) (fun _ => And.intro (fun z => absurd z (by decide)) (fun _ => hE q _ ib (f0.trans fb) eb)) (fun z => absurd z (by decide))⟩))
