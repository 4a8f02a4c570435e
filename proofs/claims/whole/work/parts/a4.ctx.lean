/-! ===== the class's text ===== -/
theorem deskR_new {S Z T S' : Mem} {J : List Nat} {w : Nat → Int64} {n m : Nat} (hz : dskZ S Z) (ht : TS J Z T) (hf : FRM T S') (hT : TD S' w n m) (z : ∀ i, zP i → w i = 0) : deskR S' w n m (fun _ => 0) := by
  obtain ⟨hw, h2, h3, h4, h5, h6, h7, h8⟩ := hT
  have n5 := hw.1
  have m4 := hw.2.1
  obtain ⟨zd, zp, ⟨-, -, -, q5, q6⟩, ⟨q7, q8, q9, q10⟩, -, -⟩ := hz
  have m1 : ∀ c j, c < 121 → (c = 1 ∧ 4 < j) ∨ (4 ≤ c ∧ c < 89 ∧ ((c - 4) % 17 ≠ 0 ∨ 8 ≤ j)) ∨ (89 ≤ c ∧ c < 101 ∧ ((c - 89) % 3 ≠ 0 ∨ 4 ≤ j)) → S'.1 c j = Z.1 c j := fun c j x y => (hf.1 c j (by omega)).trans (by rw [ht.2.1 c (by omega)])
  have m2 : ∀ c, c < 121 → c < 4 ∨ 89 ≤ c ∨ (c - 4) % 17 ≠ 1 → S'.2 c = Z.2 c := fun c x y => (hf.2 c y).trans (by rw [ht.1])
  have zz : ∀ i, 66 ≤ i → w i = 0 := fun i hi => z i (Or.inr (Or.inr hi))
  refine ⟨⟨h2, n5, h3, m4, hw.2.2.1, hw.2.2.2.1⟩, fun j hj => ?_, fun j hj => ?_, fun d hd => ?_, fun p hp => ?_⟩
  · rcases (show j = 0 ∨ j = 1 ∨ j = 2 by omega) with rfl | rfl | rfl
    · exact h4
    · rw [m1 1 _ (by decide) (by omega), q5, z 3 (Or.inl rfl)]; rfl
    · rw [m1 1 _ (by decide) (by omega), q6, z 4 (Or.inr (Or.inl rfl))]; rfl
  · rw [m2 1 (by decide) (by omega), zz _ (by omega)]
    rcases (show j = 0 ∨ j = 1 ∨ j = 2 ∨ j = 3 by omega) with rfl | rfl | rfl | rfl
    · exact q7
    · exact q8
    · exact q9
    · exact q10
  · obtain ⟨⟨-, -, -, -, -, -, -, a8, a9, a10⟩, -, b2, ⟨c0, c1, c2⟩, ⟨⟨e1, e2, e3, e4⟩, e5, e6, e7, e8, -, -⟩, -, -⟩ := zd d (by omega)
    have k5 : ∀ i, i < 12 → (4 + 17 * d + 5 + i - 4) % 17 ≠ 0 := fun i hi => by omega
    refine ⟨h5 d hd, ⟨fun j x y => ?_, fun j hj => ?_⟩, ⟨fun j hj => ?_, fun j hj => ?_⟩, ⟨⟨fun j hj => ?_, fun j hj => ?_, ?_, ?_, fun j x y => ?_, ?_, ?_, ?_⟩, ?_, ?_, ?_, fun j hj => ?_, ?_, ?_, ?_, ?_⟩, ?_⟩
    · rw [m2 _ (by omega) (by omega), zz _ (by omega), show 6 + 17 * d = 4 + 17 * d + 2 by omega]; exact b2 j y
    · rw [m1 _ _ (by omega) (by omega), zz _ (by omega)]
      rcases (show j = 0 ∨ j = 1 ∨ j = 2 by omega) with rfl | rfl | rfl
      · rw [a8]; rfl
      · rw [a9]; rfl
      · rw [a10]; rfl
    · rw [m1 _ _ (by omega) (by omega), zz _ (by omega), show 7 + 17 * d = 4 + 17 * d + 3 by omega]
      rcases (show j = 0 ∨ j = 1 by omega) with rfl | rfl
      · rw [c0]; rfl
      · rw [c1]; rfl
    · rw [m2 _ (by omega) (by omega), zz _ (by omega), show 8 + 17 * d = 4 + 17 * d + 4 by omega]; exact c2 j hj
    · rw [m1 _ _ (by omega) (by omega), zz _ (by omega), show 9 + 17 * d + 1 = 4 + 17 * d + 5 + 1 by omega]
      rcases (show j = 0 ∨ j = 1 by omega) with rfl | rfl
      · rw [e1]; rfl
      · rw [e2]; rfl
    · rw [m2 _ (by omega) (by omega), zz _ (by omega), show 9 + 17 * d + 2 = 4 + 17 * d + 5 + 2 by omega]; exact e6 j hj
    · rw [m1 _ _ (by omega) (by omega), zz _ (by omega), show 9 + 17 * d = 4 + 17 * d + 5 by omega, e5 3 (by decide) (by decide)]; rfl
    · rw [m2 _ (by omega) (by omega), zz _ (by omega), show 9 + 17 * d + 5 = 4 + 17 * d + 5 + 5 by omega]; exact e7 5 (by decide) (by decide) 0 (by decide)
    · rw [m2 _ (by omega) (by omega), zz _ (by omega), show 9 + 17 * d + 5 = 4 + 17 * d + 5 + 5 by omega]; exact e7 5 (by decide) (by decide) j y
    · rw [m1 _ _ (by omega) (by omega), zz _ (by omega), show 9 + 17 * d = 4 + 17 * d + 5 by omega, e5 4 (by decide) (by decide)]; rfl
    · rw [m1 _ _ (by omega) (by omega), zz _ (by omega), show 9 + 17 * d + 3 = 4 + 17 * d + 5 + 3 by omega, e3]; rfl
    · rw [m1 _ _ (by omega) (by omega), zz (131 + 55 * d + 13) (by omega), if_pos rfl, show 9 + 17 * d + 3 = 4 + 17 * d + 5 + 3 by omega, e4]; rfl
    · rw [m1 _ _ (by omega) (by omega), zz _ (by omega), show 9 + 17 * d = 4 + 17 * d + 5 by omega, e5 5 (by decide) (by decide)]; rfl
    · rw [m1 _ _ (by omega) (by omega), zz _ (by omega), show 9 + 17 * d = 4 + 17 * d + 5 by omega, e5 7 (by decide) (by decide)]; rfl
    · rw [m1 _ _ (by omega) (by omega), zz _ (by omega), show 9 + 17 * d = 4 + 17 * d + 5 by omega, e5 6 (by decide) (by decide)]; rfl
    · rw [show 9 + 17 * d = 4 + 17 * d + 5 by omega]
      have f : ∀ i, 4 ≤ i → i < 12 → S'.2 (4 + 17 * d + 5 + i) j = 0 := fun i x y => by rw [m2 _ (by omega) (by omega)]; exact e7 i x y j hj
      rw [f 4 (by decide) (by decide), f 6 (by decide) (by decide), f 7 (by decide) (by decide), f 8 (by decide) (by decide), f 9 (by decide) (by decide), f 10 (by decide) (by decide), f 11 (by decide) (by decide), zz _ (by omega), zz _ (by omega), zz _ (by omega), zz _ (by omega), zz _ (by omega), zz _ (by omega), zz _ (by omega), zz _ (by omega)]
      exact ⟨rfl, rfl, rfl, rfl, rfl, rfl, rfl, rfl⟩
    · rw [m2 _ (by omega) (by omega), zz _ (by omega), show 9 + 17 * d = 4 + 17 * d + 5 by omega, e8 14 (by decide) (by decide)]
    · rw [m2 _ (by omega) (by omega), zz _ (by omega), show 9 + 17 * d = 4 + 17 * d + 5 by omega, e8 15 (by decide) (by decide)]
    · rw [m2 _ (by omega) (by omega), zz _ (by omega), show 9 + 17 * d = 4 + 17 * d + 5 by omega, e8 16 (by decide) (by decide)]
    · rw [m2 _ (by omega) (by omega), zz _ (by omega), show 9 + 17 * d = 4 + 17 * d + 5 by omega, e8 17 (by decide) (by decide)]
    · rw [zz _ (by omega), zz (143 + 55 * d) (by omega), Int64.zero_mul]
  · obtain ⟨p1, p2, p3, p4, p5, -, -⟩ := zp p (by omega)
    refine ⟨h7 p hp, ?_, ?_, ?_, ?_, ?_, Nat.zero_le _, fun i hi => absurd hi (Nat.not_lt_zero i)⟩
    · rw [m1 _ _ (by omega) (by omega), zz _ (by omega), p1 4 (by decide)]; rfl
    · rw [m2 _ (by omega) (by omega), zz _ (by omega), p3]
    · rw [m2 _ (by omega) (by omega), zz _ (by omega), p4]
    · rw [m1 _ _ (by omega) (by omega), p2]; rfl
    · rw [zz _ (by omega)]; rfl
/-- the signs of a text of len bytes -/
def gT (sg : Nat → Int32) (len i : Nat) : Int32 := if i < len then sg i else -1
def rT (sg : Nat → Int32) (len : Nat) : RA := pAll (gT sg len) len 400 0 false w00
set_option maxHeartbeats 2000000 in
theorem e_cText {S : Mem} {tp : Nat} {sg : Nat → Int32} {fp : Int32} {r : Nat → Int32} {w : Nat → Int64} {H : HL} (hI : CI S tp sg fp r w H) (x : Int32) {Qr : QR} {Qx : QX} (hE : ¬ inR x 0 tp → Qx "java/lang/IllegalArgumentException" (refC S 1))
    (hF : ∀ len rr pl, len ≤ tp → x = nI len → rT sg len = .inl (rr, pl) → ∀ S', CI S' 0 sg (nI pl) r w H → FM S S' → Qr (some (.int (rr - 10))) S')
    (hW : ∀ len wn n m, len ≤ tp → x = nI len → rT sg len = .inr wn → WFt wn n m → ¬ pWhl wn n m → ∀ S', CI S' 0 sg (nI len) r w H → FM S S' → Qr (some (.int (4 - 10))) S')
    (h1 : ∀ len wn n m, len ≤ tp → x = nI len → rT sg len = .inr wn → WFt wn n m → pWhl wn n m → ∀ S', CI S' 0 sg (-1) r wn ((w :: H).take 8) → FM S S' → Qr (some (.int (wn 0).toInt32)) S') : vsp 156 9 (sX9_text 156) [.ref 0, .int x] S Qr Qx := by
  have hI' := hI
  obtain ⟨i1, i2, ⟨c1, c2, c3⟩, ⟨n0, m0, ns0, hD⟩, hH⟩ := hI'
  refine ⟨tP, runG rfl 120 ⟨tP, t8, ⟨Nat.le_of_ble_eq_true rfl, Nat.le_of_ble_eq_true rfl, Nat.le_of_ble_eq_true rfl⟩, ?_⟩⟩
  show vsp 156 9 (sX9_needWithin 156) [.ref 0, .int x, .int (nI 0), .int (S.1 121 1)] S _ _
  rw [c1]
  refine e_needW x 0 tp (by decide) (by omega) S (fun len _ l2 e => ?_) hE
  obtain ⟨nx, hR⟩ := hH
  refine ⟨tP, tP, ⟨Nat.le_of_ble_eq_true rfl, Nat.le_of_ble_eq_true rfl, Nat.le_of_ble_eq_true rfl⟩, e_histRow hR.1 S hR.2.1 ⟨⟨Nat.le_of_ble_eq_true rfl, Nat.le_of_ble_eq_true rfl, Nat.le_of_ble_eq_true rfl⟩, e_saveR S hR hD (fun T hP hT fT => ⟨tP, tP, ⟨Nat.le_of_ble_eq_true rfl, Nat.le_of_ble_eq_true rfl, Nat.le_of_ble_eq_true rfl⟩, ?_⟩)⟩⟩
  show vsp 156 8 (sX8_readInto 156) [.ref 121, .ref 1, .int x] T _ _
  rw [e]
  have g2 : ∀ i, len ≤ i → gT sg len i < 0 := fun i hi => by unfold gT; rw [if_neg (by omega)]; decide
  -- a reading that fails
  have fail : ∀ (Z T0 U : Mem) (rr : Int32) (pl : Nat), dskZ T Z → TS [1, 2, 3, 6, 7, 8] Z T0 → T0.1 121 1 = 0 → FRX T0 U → U.1 121 7 = rr → U.1 121 8 = nI pl → ¬ rr = 0 → (∀ S', CI S' 0 sg (nI pl) r w H → FM S S' → Qr (some (.int (rr - 10))) S') → wpH 156 pX9_text (kX9_text 156) hd0 [] none 2 (some .int) Qr Qx [] 90 (jmp 39 pX9_text) 0 [(0, .ref 0), (1, .int x)] [] U := by
    intro Z T0 U rr pl hz ht k1 fU u7 u8 hr hq
    refine ⟨tP, t8, tP, tP, t8, And.intro (fun y => ?_) (fun y => ?_)⟩
    · have y : u2 U.1 0 0 (U.1 121 8) 121 7 = 0 := y
      rw [u2_k _ _ _ _ (by decide), u7] at y
      exact absurd y hr
    · have uk : ∀ c, c ≠ 0 → u2 U.1 0 0 (U.1 121 8) c = U.1 c := fun c hc => u2_other _ _ _ hc
      have zt : ∀ c, c = 0 ∨ (101 ≤ c ∧ c ≠ 121) → U.1 c = T.1 c ∧ U.2 c = T.2 c := fun c hc => by
        obtain ⟨-, -, -, -, z1, z2⟩ := hz
        exact ⟨(fU.1 c hc).1.trans ((ht.2.1 c (by omega)).trans (z1 c (by omega))), (fU.1 c hc).2.trans (by rw [ht.1]; exact z2 c (by omega))⟩
      have hP2 : hisP (u2 U.1 0 0 (U.1 121 8), U.2) w H := hP.move (fun c x y => ⟨(uk c (by omega)).trans (zt c (by omega)).1, (zt c (by omega)).2⟩)
      obtain ⟨ny, hRy, gy⟩ := hP2
      refine ⟨tP, tP, ⟨Nat.le_of_ble_eq_true rfl, Nat.le_of_ble_eq_true rfl, Nat.le_of_ble_eq_true rfl⟩, e_histRow hRy.1 _ hRy.2.1 ⟨⟨Nat.le_of_ble_eq_true rfl, Nat.le_of_ble_eq_true rfl, Nat.le_of_ble_eq_true rfl⟩, e_backR _ hRy gy (fun V n m ns hV hDV fV f1 => ⟨tP, t8, ?_⟩)⟩⟩
      have v121 : ∀ j, V.1 121 j = U.1 121 j := fun j => by rw [(fV 121 (by omega)).1]; exact congrFun (uk 121 (by decide)) j
      show Qr (some (.int (V.1 121 7 - 10))) V
      rw [v121, u7]
      have v0 : ∀ j, V.1 0 j = u2 U.1 0 0 (U.1 121 8) 0 j := fun j => by rw [(fV 0 (by omega)).1]
      refine hq V ⟨?_, fun i hi => ?_, ⟨?_, (by decide), fun i hi => absurd hi (Nat.not_lt_zero i)⟩, ⟨n, m, ns, hDV⟩, hV⟩ (fun c hc => ⟨?_, ?_⟩)
      · rw [v0, u2_s, u8]
      · rw [v0, u2_j _ _ _ _ (by omega), (zt 0 (by omega)).1, (fT 0 (by omega)).1]; exact i2 i hi
      · rw [v121, fU.2 1 (by decide), k1]; rfl
      · rw [(fV c (by omega)).1]; exact (uk c (by omega)).trans ((zt c (by omega)).1.trans (fT c (by omega)).1)
      · rw [(fV c (by omega)).2]; exact (zt c (by omega)).2.trans (fT c (by omega)).2
  refine e_readInto (g := gT sg len) (hl := tp) T (by rw [(fT 121 (by omega)).1]; exact c1) c2 l2 (fun i hi => ?_) g2 (fun wn n m Z T0 U hp hw hz ht k1 k7 k8 fU tU => ?_) (fun wn n m Z T0 U hp hf hw hz ht k1 fU u7 u8 => ?_) (fun Z T0 U hp hz ht k1 fU => ?_)
  · refine Or.inl ?_
    unfold gT
    rw [if_pos hi, (fT 122 (by omega)).1]
    exact (c3 i (by omega)).symm
  · obtain ⟨-, z⟩ := pAll_ok g2 400 0 0 0 false w00 wn (Nat.zero_le _) w00_wf hp
    have hD2 := deskR_new hz ht fU tU (fun i hi => (z i hi).trans (by unfold zP at hi; unfold w00; rw [if_neg (by omega)]))
    have u7 : U.1 121 7 = 0 := (fU.1 121 7 (by omega)).trans k7
    have u8 : U.1 121 8 = -1 := (fU.1 121 8 (by omega)).trans k8
    have u1' : U.1 121 1 = 0 := (fU.1 121 1 (by omega)).trans k1
    have zt : ∀ c, c = 0 ∨ (101 ≤ c ∧ c ≠ 121) → U.1 c = T.1 c ∧ U.2 c = T.2 c := fun c hc => by
      obtain ⟨-, -, -, -, z1, z2⟩ := hz
      exact ⟨funext fun j => (fU.1 c j (by omega)).trans (by rw [ht.2.1 c (by omega), z1 c (by omega)]), (fU.2 c (by omega)).trans (by rw [ht.1]; exact z2 c (by omega))⟩
    have uk : ∀ c, c ≠ 0 → u2 U.1 0 0 (U.1 121 8) c = U.1 c := fun c hc => u2_other _ _ _ hc
    refine ⟨tP, t8, tP, tP, t8, And.intro (fun _ => ⟨tP, ⟨Nat.le_of_ble_eq_true rfl, Nat.le_of_ble_eq_true rfl, Nat.le_of_ble_eq_true rfl⟩, ?_⟩) (fun y => absurd ?_ y)⟩
    · refine e_keep (u2 U.1 0 0 (U.1 121 8), U.2) (hP.move (fun c x y => ⟨(uk c (by omega)).trans (zt c (by omega)).1, (zt c (by omega)).2⟩)) (fun V hV v2 v1 => ⟨tP, tD, ?_⟩)
      show Qr (some (.int (V.1 1 2))) V
      have v12 : V.1 1 2 = (wn 0).toInt32 := by
        rw [v1 1 (by decide), show (u2 U.1 0 0 (U.1 121 8), U.2).1 1 = U.1 1 from uk 1 (by decide), hD2.1.1, hD2.1.2.2.2.2.1, lN_i]
      rw [v12]
      have vc : ∀ c, c ≠ 101 → c ≠ 0 → V.1 c = U.1 c := fun c a b => (v1 c a).trans (uk c b)
      refine h1 len wn n m l2 e hp tU.1 hw V ⟨?_, fun i hi => ?_, ⟨?_, (by decide), fun i hi => absurd hi (Nat.not_lt_zero i)⟩, ⟨n, m, _, hD2.same (sameDesk_of hD2.1.2.1 hD2.1.2.2.2.1 (fun c x y => ⟨vc c (by omega) (by omega), by rw [v2]⟩))⟩, hV⟩ (fun c hc => ⟨?_, ?_⟩)
      · rw [v1 0 (by decide)]; exact (u2_s U.1 0 0 _).trans u8
      · rw [v1 0 (by decide)]
        exact (u2_j U.1 0 0 _ (by omega)).trans (by rw [(zt 0 (by omega)).1, (fT 0 (by omega)).1]; exact i2 i hi)
      · rw [vc 121 (by decide) (by decide), u1']; rfl
      · rw [vc c (by omega) (by omega)]; exact (zt c (by omega)).1.trans (fT c (by omega)).1
      · rw [v2]; exact (zt c (by omega)).2.trans (fT c (by omega)).2
    · show u2 U.1 0 0 (U.1 121 8) 121 7 = 0
      rw [u2_k _ _ _ _ (by decide)]; exact u7
  · exact fail Z T0 U 4 len hz ht k1 fU u7 u8 (by decide) (fun S' a b => hW len wn n m l2 e hp hf hw S' a b)
  · obtain ⟨rr, pl, hp, u7, u8⟩ := hp
    exact fail Z T0 U rr pl hz ht k1 fU u7 u8 (pAll_nz _ _ _ _ _ _ hp) (fun S' a b => hF len rr pl l2 e hp S' a b)
