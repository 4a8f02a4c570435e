/-! ===== the model reads numbers and ways ===== -/
theorem lessL_min {y : Nat} (hy : y < 2 ^ 31) : (lessL 100000 (lN y)).toInt32 = nI (min y 100000) := by
  unfold lessL
  have c : (100000 : Int64) = lN 100000 := rfl
  by_cases h : 100000 < y
  · rw [c, if_pos ((lN_lt (by decide) hy).mpr h), lN_i, Nat.min_eq_right (by omega)]
  · rw [c, if_neg (fun x => h ((lN_lt (by decide) hy).mp x)), lN_i, Nat.min_eq_left (by omega)]
set_option maxHeartbeats 2000000 in
theorem e_number {g : Nat → Int32} {len : Nat} (lo hi : Int32) (S : Mem) (hg : tgM S g len) (R : RR) (k : Nat → Nat → RR) (hs : (∃ a, ST S len a ∧ R = pNum g len a lo hi k) ∨ FL S R) {Qr : QR} {Qx : QX}
    (h : ∀ S' v, MS [4, 6, 7] S S' → (FL S R → FL S' R) → ((∃ a', ST S' len a' ∧ R = k a' v.toNatClampNeg ∧ v = nI v.toNatClampNeg ∧ v.toNatClampNeg ≤ 100000 ∧ ¬ v < lo ∧ v ≤ hi) ∨ FL S' R) → Qr (some (.int v)) S') : vsp 156 10 (sX10_number 156) [.ref 138, .int lo, .int hi] S Qr Qx := by
  have l4 := hg.2.1
  rcases hs with ⟨a, ⟨hf, ha, hal, h7⟩, hR⟩ | hs
  · have rl := rend_le (P := isBl) (g := g) hal
    refine ⟨tM, runL (α := Nat × Nat × Mem) rfl 100 38 0 (fun b => [(4, .int (nI b.2.1)), (3, .int (nI (rend isBl g len a))), (2, .int hi), (1, .int lo), (0, .ref 138)]) (fun b => b.2.2) (fun b => len - b.1) (fun b => b.1 ≤ len ∧ isDi (g (rend isBl g len a)) = true ∧ rend isDi g len b.1 = nuE g len a ∧ dval g len b.1 b.2.1 = nuV g len a ∧ b.2.1 ≤ 100000 ∧ MS [4] S b.2.2 ∧ b.2.2.1 138 4 = nI b.1) ?_ ?_⟩
    · rintro ⟨i, v, T⟩ ⟨hi', hd, hs, hv, hv5, ht, h3⟩
      dsimp only at hi' hs hv hv5 ht h3
      have gT := ht.tg (by decide) hg
      have fT : T.1 138 6 = 0 := (ht.2.2 6 (by decide)).trans hf
      have hda := hd
      refine ⟨tM, ⟨Nat.le_of_ble_eq_true rfl, Nat.le_of_ble_eq_true rfl, Nat.le_of_ble_eq_true rfl⟩, ?_⟩
      show vsp 156 10 (sX10_byteAt 156) [.ref 138, .int (T.1 138 4)] T _ _
      rw [h3]
      refine e_byteAt i (by omega) T gT (fun b sb _ => ⟨⟨Nat.le_of_ble_eq_true rfl, Nat.le_of_ble_eq_true rfl, Nat.le_of_ble_eq_true rfl⟩, e_mDigit b T ?_⟩)
      have e := sb.in (lo := 48) (hi := 57) (by decide) (by decide)
      by_cases z : isDi (g i) = true
      · rw [if_pos (e.mpr ((isDi_iff _).mp z))]
        have hlt : i < len := by
          rcases Nat.lt_or_ge i len with y | y
          · exact y
          · rw [isDi_neg (hg.2.2.2 i y)] at z; exact absurd z (by decide)
        rw [rend_yes hlt z] at hs
        rw [dval_yes hlt z] at hv
        obtain ⟨q, hq, gk, gc⟩ := di_nI z
        rw [gc, show 48 + q - 48 = q by omega] at hv
        refine And.intro (fun x => absurd x (by decide)) (fun _ => ⟨tM, ⟨Nat.le_of_ble_eq_true rfl, Nat.le_of_ble_eq_true rfl, Nat.le_of_ble_eq_true rfl⟩, ?_⟩)
        show vsp 156 10 (sX10_byteAt 156) [.ref 138, .int (T.1 138 4)] T _ _
        rw [h3]
        refine e_byteAt i (by omega) T gT (fun b sb _ => ?_)
        have bk : b = nI (48 + q) := (sb.eq (nI_pos (by omega)) (nI_lt (b := 128) (by omega) (by decide))).mpr gk
        have c1 : 10 * nI v + b - 48 = nI (10 * v + q) := by
          rw [bk]
          show nI 10 * nI v + nI (48 + q) - nI 48 = _
          rw [pk_mul, nI_add, pk_sub (by omega), show 10 * v + (48 + q) - 48 = 10 * v + q by omega]
        refine ⟨⟨Nat.le_of_ble_eq_true rfl, Nat.le_of_ble_eq_true rfl, Nat.le_of_ble_eq_true rfl⟩, ?_⟩
        show sX10_less 156 [.long 100000, .long (10 * nI v + b - 48).toInt64] T _ _
        rw [c1, nI_l (by omega)]
        refine e_less _ _ T ⟨tM, tM, rfl, rfl, (i + 1, min (10 * v + q) 100000, (u2 T.1 138 4 (T.1 138 4 + 1), T.2)), ⟨⟨hlt, hda, hs, hv, Nat.min_le_right _ _, (MS_u2 ht 4 _).w (by decide), (k_s T 4 _).trans (by rw [h3, nI_1])⟩, by show len - (i + 1) < len - i; omega⟩, rfl, ?_, rfl, rfl, rfl, rfl, trivial⟩
        exact congrArg (fun z => some (Value.int z)) (lessL_min (by omega))
      · rw [if_neg (fun x => z ((isDi_iff _).mpr (e.mp x)))]
        have z' : isDi (g i) = false := by simpa using z
        rw [rend_no (fun _ => z')] at hs
        rw [dval_no (fun _ => z')] at hv
        subst hv
        have cv : (nI (nuV g len a)).toNatClampNeg = nuV g len a := nI_clamp (by omega)
        have sT : ST T len (nuE g len a) := ⟨fT, by rw [h3, hs], nu_len hal, (ht.2.2 7 (by decide)).trans h7⟩
        refine And.intro (fun _ => ⟨⟨Nat.le_of_ble_eq_true rfl, Nat.le_of_ble_eq_true rfl, Nat.le_of_ble_eq_true rfl⟩, e_inI (nI (nuV g len a)) lo hi T (fun y1 y2 => ?_) (fun y => ?_)⟩) (fun x => absurd rfl x)
        · refine And.intro (fun _ => h T _ (ht.w (by decide)) (fun x => absurd hf x.no) (Or.inl ⟨nuE g len a, sT, ?_, by rw [cv], by rw [cv]; exact hv5, (I_nlt _ _).mpr y1, y2⟩)) (fun x => absurd x (by decide))
          rw [hR, cv]
          exact pNum_ok ⟨hd, (I_nlt _ _).mpr y1, y2⟩
        · refine And.intro (fun x => absurd rfl x) (fun _ => ⟨⟨Nat.le_of_ble_eq_true rfl, Nat.le_of_ble_eq_true rfl, Nat.le_of_ble_eq_true rfl⟩, e_wrong 2 _ T fT (fun U tU e6 e7 => h U _ ((ht.trans tU).w (by decide)) (fun x => absurd hf x.no) (Or.inr ⟨2, rend isBl g len a, ?_, by decide, e6, e7⟩))⟩)
          have y' : nI (nuV g len a) < lo ∨ ¬ nI (nuV g len a) ≤ hi := by
            by_cases q1 : nI (nuV g len a) < lo
            · exact Or.inl q1
            · exact Or.inr (fun q2 => y ⟨(I_nlt _ _).mp q1, q2⟩)
          rw [hR]
          unfold pNum
          rw [hd, if_pos y']
          rfl
    · refine ⟨⟨Nat.le_of_ble_eq_true rfl, Nat.le_of_ble_eq_true rfl, Nat.le_of_ble_eq_true rfl⟩, e_fine S (fun _ => And.intro (fun _ => ⟨⟨Nat.le_of_ble_eq_true rfl, Nat.le_of_ble_eq_true rfl, Nat.le_of_ble_eq_true rfl⟩, e_here S hg ha hal (fun T b ht h3 sb _ => ⟨⟨Nat.le_of_ble_eq_true rfl, Nat.le_of_ble_eq_true rfl, Nat.le_of_ble_eq_true rfl⟩, e_mDigit b T ?_⟩)⟩) (fun x => absurd x (by decide))) (fun x => absurd hf x)⟩
      have e := sb.in (lo := 48) (hi := 57) (by decide) (by decide)
      have fT : T.1 138 6 = 0 := (ht.2.2 6 (by decide)).trans hf
      by_cases z : isDi (g (rend isBl g len a)) = true
      · rw [if_pos (e.mpr ((isDi_iff _).mp z))]
        refine And.intro (fun _ => ⟨tM, rfl, rfl, (rend isBl g len a, 0, T), ⟨rl.2, z, rfl, rfl, Nat.zero_le _, ht, h3⟩, rfl, rfl, ?_, rfl, rfl, rfl, trivial⟩) (fun x => absurd x (by decide))
        exact congrArg (fun z => some (Value.int z)) h3
      · rw [if_neg (fun x => z ((isDi_iff _).mpr (e.mp x)))]
        have z' : isDi (g (rend isBl g len a)) = false := by simpa using z
        refine And.intro (fun x => absurd rfl x) (fun _ => ⟨tM, ⟨Nat.le_of_ble_eq_true rfl, Nat.le_of_ble_eq_true rfl, Nat.le_of_ble_eq_true rfl⟩, e_wrong 1 _ T fT (fun U tU e6 e7 => h U 0 ((ht.trans tU).w (by decide)) (fun x => absurd hf x.no) (Or.inr ⟨1, rend isBl g len a, ?_, by decide, e6, e7.trans h3⟩))⟩)
        rw [hR]
        unfold pNum
        rw [z']
        rfl
  · refine ⟨tM, runL (α := Nat) rfl 60 38 0 (fun _ => []) (fun _ => S) (fun k => k) (fun _ => False) (fun k hk => absurd hk id) ⟨⟨Nat.le_of_ble_eq_true rfl, Nat.le_of_ble_eq_true rfl, Nat.le_of_ble_eq_true rfl⟩, e_fine S (fun x => absurd x hs.no) (fun _ => And.intro (fun x => absurd rfl x) (fun _ => h S 0 MS.re id (Or.inr hs)))⟩⟩
set_option maxHeartbeats 1000000 in
theorem e_way {g : Nat → Int32} {len : Nat} (S : Mem) (hg : tgM S g len) (R : RR) (k : Nat → Int64 → RR) (hs : (∃ a, ST S len a ∧ R = pWay g len a k) ∨ FL S R) {Qr : QR} {Qx : QX}
    (h : ∀ S' v, MS [4, 6, 7] S S' → (v = 0 ∨ v = 1) → ((∃ a', ST S' len a' ∧ R = k a' v.toInt64) ∨ FL S' R) → Qr (some (.int v)) S') : vsp 156 10 (sX10_way 156) [.ref 138] S Qr Qx := by
  rcases hs with ⟨a, sA, hR⟩ | hs
  · have rl := rend_le (P := isBl) (g := g) sA.2.2.1
    unfold pWay at hR
    refine ⟨tM, runG rfl 80 ⟨⟨Nat.le_of_ble_eq_true rfl, Nat.le_of_ble_eq_true rfl, Nat.le_of_ble_eq_true rfl⟩, e_takesWord (i := 14) (by decide) S hg (fun x => absurd sA.1 x) (fun b sB => ?_) (Or.inr ⟨a, sA⟩)⟩⟩
    have ab : b = a := by
      have := sB.2.1.symm.trans sA.2.1
      have l4 := hg.2.1
      have b1 := sB.2.2.1
      have b2 := sA.2.2.1
      exact (nI_eq (by omega) (by omega)).mp this
    subst ab
    refine ⟨fun m T tT sT => And.intro (fun x => absurd x (by decide)) (fun _ => h T 0 (tT.w (by decide)) (Or.inl rfl) (Or.inl ⟨_, sT, ?_⟩)), fun m T tT sT => And.intro (fun _ => ⟨⟨Nat.le_of_ble_eq_true rfl, Nat.le_of_ble_eq_true rfl, Nat.le_of_ble_eq_true rfl⟩, e_fine T (fun _ => And.intro (fun x => absurd x (by decide)) (fun _ => ⟨⟨Nat.le_of_ble_eq_true rfl, Nat.le_of_ble_eq_true rfl, Nat.le_of_ble_eq_true rfl⟩, ?_⟩)) (fun x => absurd sT.1 x)⟩) (fun x => absurd rfl x)⟩
    · rw [hR]; exact if_pos m
    · have gT := tT.tg (by decide) hg
      have idm : rend isBl g len (rend isBl g len b) = rend isBl g len b := rend_no (fun h => (rend_spec (P := isBl) (g := g) _ b rfl sA.2.2.1).2.2.2 h)
      refine e_takesWord (i := 15) (by decide) T gT (fun x => absurd sT.1 x) (fun c sC => ?_) (Or.inr ⟨_, sT⟩)
      have cb : c = rend isBl g len b := by
        have := sC.2.1.symm.trans sT.2.1
        have l4 := hg.2.1
        have b1 := sC.2.2.1
        have b2 := sT.2.2.1
        exact (nI_eq (by omega) (by omega)).mp this
      subst cb
      rw [idm]
      refine ⟨fun m' U tU sU => And.intro (fun _ => h U 1 ((tT.trans tU).w (by decide)) (Or.inr rfl) (Or.inl ⟨_, sU, ?_⟩)) (fun x => absurd x (by decide)), fun m' U tU sU => And.intro (fun x => absurd rfl x) (fun _ => ⟨tM, ⟨Nat.le_of_ble_eq_true rfl, Nat.le_of_ble_eq_true rfl, Nat.le_of_ble_eq_true rfl⟩, e_wrong 1 _ U sU.1 (fun V tV e6 e7 => h V 1 ((tT.trans (tU.trans tV)).w (by decide)) (Or.inr rfl) (Or.inr ⟨1, rend isBl g len b, ?_, by decide, e6, e7.trans sU.2.1⟩))⟩)⟩
      · rw [hR]; exact (if_neg m).trans (if_pos m')
      · rw [hR]; exact (if_neg m).trans (if_neg m')
  · refine ⟨tM, runG rfl 80 ⟨⟨Nat.le_of_ble_eq_true rfl, Nat.le_of_ble_eq_true rfl, Nat.le_of_ble_eq_true rfl⟩, e_takesWord (i := 14) (by decide) S hg (fun _ => And.intro (fun _ => ⟨⟨Nat.le_of_ble_eq_true rfl, Nat.le_of_ble_eq_true rfl, Nat.le_of_ble_eq_true rfl⟩, e_fine S (fun x => absurd x hs.no) (fun _ => And.intro (fun _ => h S 1 MS.re (Or.inr rfl) (Or.inr hs)) (fun x => absurd rfl x))⟩) (fun x => absurd rfl x)) (fun a sA => absurd sA.1 hs.no) (Or.inl hs.no)⟩⟩
