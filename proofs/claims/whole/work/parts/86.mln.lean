/-! ===== the model reads a line ===== -/
theorem FL.mt {J : List Nat} {S S' : Mem} {R : RR} (h : FL S R) (t : MT J S S') (h6 : 6 ∉ J) (h7 : 7 ∉ J) : FL S' R := by
  obtain ⟨r, pl, a, b, c, d⟩ := h
  exact ⟨r, pl, a, b, (t.2.2 6 h6).trans c, (t.2.2 7 h7).trans d⟩
set_option maxHeartbeats 4000000 in
theorem e_line {g : Nat → Int32} {len a n m : Nat} {st : Bool} (S : Mem) (hg : tgM S g len) (sA : ST S len a) (w : Nat → Int64) (hw : TR S w) (hf : WFt w n m) (hst : S.1 138 14 = bif st then 1 else 0) {Qr : QR} {Qx : QX}
    (h : ∀ S', MT [4, 6, 7, 14] S S' → ((∃ a' w', ST S' len a' ∧ pLine g len a st w = .inr (a', w') ∧ TR S' w' ∧ S'.1 138 14 = (bif (st || decide (mtc g (rend isBl g len a) 3)) then 1 else 0)) ∨ FL S' (pLine g len a st w)) → Qr none S') : vsp 156 10 (sX10_line 156) [.ref 138] S Qr Qx := by
  have l4 := hg.2.1
  have rl := rend_le (P := isBl) (g := g) sA.2.2.1
  have hpl : pLine g len a st w = pEnd g len (pBody g len (rend isBl g len a) st w n m) := by
    unfold pLine
    rw [hf.cnt.1, hf.cnt.2]
  have idm : rend isBl g len (rend isBl g len a) = rend isBl g len a := rend_no (fun h => (rend_spec (P := isBl) (g := g) _ a rfl sA.2.2.1).2.2.2 h)
  generalize hF : rend isBl g len a = f at *
  have tail : ∀ (U : Mem), MT [4, 6, 7, 14] S U → ((∃ a' w', ST U len a' ∧ pBody g len f st w n m = .inr (a', w') ∧ TR U w' ∧ U.1 138 14 = (bif (st || decide (mtc g f 3)) then 1 else 0)) ∨ FL U (pBody g len f st w n m)) → wpH 156 pX10_line (kX10_line 156) hd0 [] none 2 none Qr Qx [] 60 (jmp 102 pX10_line) 0 [(1, .int (nI f)), (0, .ref 138)] [] U := by
    intro U mU hU
    have gU := mU.tg (by decide) hg
    rcases hU with ⟨a', w', sU, hb, rU, u14⟩ | hU
    · have ra := rend_le (P := isBl) (g := g) sU.2.2.1
      refine ⟨⟨Nat.le_of_ble_eq_true rfl, Nat.le_of_ble_eq_true rfl, Nat.le_of_ble_eq_true rfl⟩, e_fine U (fun _ => And.intro (fun _ => ⟨⟨Nat.le_of_ble_eq_true rfl, Nat.le_of_ble_eq_true rfl, Nat.le_of_ble_eq_true rfl⟩, e_here U gU sU.2.1 sU.2.2.1 (fun V v tV V4 sv _ => And.intro (fun x => ?_) (fun x => ?_))⟩) (fun x => absurd x (by decide))) (fun x => absurd sU.1 x)⟩
      · have x : ¬ v = 59 := x
        rw [sv.eq (by decide) (by decide)] at x
        have f6 : V.1 138 6 = 0 := (tV.2.2 6 (by decide)).trans sU.1
        refine ⟨tM, ⟨Nat.le_of_ble_eq_true rfl, Nat.le_of_ble_eq_true rfl, Nat.le_of_ble_eq_true rfl⟩, e_wrong 1 _ V f6 (fun W tW e6 e7 => ⟨rfl, h W ((mU.trans (tV.mt.trans tW.mt)).w (by decide)) (Or.inr ⟨1, rend isBl g len a', ?_, by decide, e6, e7.trans V4⟩)⟩)⟩
        rw [hpl, hb]; exact if_neg x
      · have x : v = 59 := x
        rw [sv.eq (by decide) (by decide)] at x
        have hlt : rend isBl g len a' < len := by
          rcases Nat.lt_or_ge (rend isBl g len a') len with q | q
          · exact q
          · exact absurd (x ▸ hg.2.2.2 _ q) (by decide)
        refine ⟨tM, tM, rfl, h _ ((mU.trans (MS_u2 tV 4 (V.1 138 4 + 1)).mt).w (by decide)) (Or.inl ⟨rend isBl g len a' + 1, w', ⟨(k_o V _ (show 6 ≠ 4 by decide)).trans ((tV.2.2 6 (by decide)).trans sU.1), (k_s V 4 _).trans (by rw [V4, nI_1]), hlt, (k_o V _ (show 7 ≠ 4 by decide)).trans ((tV.2.2 7 (by decide)).trans sU.2.2.2)⟩, ?_, fun i hi => ?_, (k_o V _ (show 14 ≠ 4 by decide)).trans ((tV.2.2 14 (by decide)).trans u14)⟩)⟩
        · rw [hpl, hb]; exact if_pos x
        · show V.2 142 i = w' i
          rw [tV.1]; exact rU i hi
    · refine ⟨⟨Nat.le_of_ble_eq_true rfl, Nat.le_of_ble_eq_true rfl, Nat.le_of_ble_eq_true rfl⟩, e_fine U (fun x => absurd x hU.no) (fun _ => And.intro (fun x => absurd rfl x) (fun _ => ⟨rfl, h U mU (Or.inr ?_)⟩))⟩
      obtain ⟨r, pl, x, y, z, u⟩ := hU
      refine ⟨r, pl, ?_, y, z, u⟩
      rw [hpl, x]; rfl
  have n3 : ∀ i, i < 3 → mtc g f i → ¬ mtc g f 3 := by
    intro i hi x y
    have := mtc_1 (by omega) (by decide) x y
    rcases (show i = 0 ∨ i = 1 ∨ i = 2 by omega) with rfl | rfl | rfl <;> exact absurd this (by decide)
  have st3 : ∀ U : Mem, ¬ mtc g f 3 → U.1 138 14 = (bif st then 1 else 0) → U.1 138 14 = (bif (st || decide (mtc g f 3)) then 1 else 0) := by
    intro U x y
    rw [decide_eq_false x, Bool.or_false]; exact y
  refine ⟨tM, runG rfl 160 ⟨⟨Nat.le_of_ble_eq_true rfl, Nat.le_of_ble_eq_true rfl, Nat.le_of_ble_eq_true rfl⟩, e_here S hg sA.2.1 sA.2.2.1 (fun T v tT T4 _ _ => ⟨tM, ⟨Nat.le_of_ble_eq_true rfl, Nat.le_of_ble_eq_true rfl, Nat.le_of_ble_eq_true rfl⟩, ?_⟩)⟩⟩
  rw [hF] at T4
  have gT := tT.tg (by decide) hg
  have sT : ST T len f := ⟨(tT.2.2 6 (by decide)).trans sA.1, T4, rl.2, (tT.2.2 7 (by decide)).trans sA.2.2.2⟩
  have rT : TR T w := fun i hi => by rw [tT.1]; exact hw i hi
  have T14 : T.1 138 14 = bif st then 1 else 0 := (tT.2.2 14 (by decide)).trans hst
  have n5 := hf.1
  have m4 := hf.2.1
  refine e_takesWord (i := 8) (by decide) T gT (fun x => absurd sT.1 x) (fun b sB => ?_) (Or.inr ⟨f, sT⟩)
  obtain rfl := ST.u l4 sT sB
  rw [idm]
  refine ⟨fun mt U tU sU => And.intro (fun x => absurd x (by decide)) (fun _ => ⟨⟨Nat.le_of_ble_eq_true rfl, Nat.le_of_ble_eq_true rfl, Nat.le_of_ble_eq_true rfl⟩, ?_⟩), fun w0 U tU sU => And.intro (fun _ => ⟨⟨Nat.le_of_ble_eq_true rfl, Nat.le_of_ble_eq_true rfl, Nat.le_of_ble_eq_true rfl⟩, ?_⟩) (fun x => absurd rfl x)⟩
  · have mt : mtc g b 0 := mt
    have sU : ST U len (b + 4) := sU
    have hb : pBody g len b st w n m = pDep g len b (b + 4) n w := if_pos mt
    have rU : TR U w := fun i hi => by rw [tU.1]; exact rT i hi
    show vsp 156 10 (sX10_readsDept 156) [.ref 138, .int (T.1 138 4)] U _ _
    rw [T4]
    refine e_readsDept U (tU.tg (by decide) gT) sU w rU hf.2.2.1 n5 (fun V mV hV => tail V ((tT.mt.trans (tU.mt.trans mV)).w (by decide)) ?_)
    rw [hb]
    refine hV.imp (fun ⟨a', w', x, y, z⟩ => ⟨a', w', x, y, z, st3 V (n3 0 (by decide) mt) ((mV.2.2 14 (by decide)).trans ((tU.2.2 14 (by decide)).trans T14))⟩) id
  · have w0 : ¬ mtc g b 0 := w0
    have gU := tU.tg (by decide) gT
    have rU : TR U w := fun i hi => by rw [tU.1]; exact rT i hi
    refine e_takesWord (i := 9) (by decide) U gU (fun x => absurd sU.1 x) (fun c sC => ?_) (Or.inr ⟨b, sU⟩)
    obtain rfl := ST.u l4 sU sC
    rw [idm]
    refine ⟨fun mt V tV sV => And.intro (fun x => absurd x (by decide)) (fun _ => ⟨⟨Nat.le_of_ble_eq_true rfl, Nat.le_of_ble_eq_true rfl, Nat.le_of_ble_eq_true rfl⟩, ?_⟩), fun w1' V tV sV => And.intro (fun _ => ⟨⟨Nat.le_of_ble_eq_true rfl, Nat.le_of_ble_eq_true rfl, Nat.le_of_ble_eq_true rfl⟩, ?_⟩) (fun x => absurd rfl x)⟩
    · have mt : mtc g c 1 := mt
      have sV : ST V len (c + 3) := sV
      have hb : pBody g len c st w n m = pMat g len c (c + 3) n w := (if_neg w0).trans (if_pos mt)
      have rV : TR V w := fun i hi => by rw [tV.1]; exact rU i hi
      show vsp 156 10 (sX10_readsMat 156) [.ref 138, .int (T.1 138 4)] V _ _
      rw [T4]
      refine e_readsMat V (tV.tg (by decide) gU) sV w rV hf.2.2.1 n5 (fun d hd => ?_) (fun W mW hW => tail W ((tT.mt.trans (tU.mt.trans (tV.mt.trans mW))).w (by decide)) ?_)
      · obtain ⟨-, -, -, -, ⟨k, k2, ek, -⟩, -⟩ := hf.2.2.2.2.2.1 d hd
        exact ⟨k, k2, ek⟩
      · rw [hb]
        refine hW.imp (fun ⟨a', w', x, y, z⟩ => ⟨a', w', x, y, z, st3 W (n3 1 (by decide) mt) ((mW.2.2 14 (by decide)).trans ((tV.2.2 14 (by decide)).trans ((tU.2.2 14 (by decide)).trans T14)))⟩) id
    · have w1' : ¬ mtc g c 1 := w1'
      have gV := tV.tg (by decide) gU
      have rV : TR V w := fun i hi => by rw [tV.1]; exact rU i hi
      refine e_takesWord (i := 10) (by decide) V gV (fun x => absurd sV.1 x) (fun e sE => ?_) (Or.inr ⟨c, sV⟩)
      obtain rfl := ST.u l4 sV sE
      rw [idm]
      refine ⟨fun mt W tW sW => And.intro (fun x => absurd x (by decide)) (fun _ => ⟨⟨Nat.le_of_ble_eq_true rfl, Nat.le_of_ble_eq_true rfl, Nat.le_of_ble_eq_true rfl⟩, ?_⟩), fun w2 W tW sW => And.intro (fun _ => ⟨tM, ?_⟩) (fun x => absurd rfl x)⟩
      · have mt : mtc g e 2 := mt
        have sW : ST W len (e + 7) := sW
        have hb : pBody g len e st w n m = pPro g len e (e + 7) m w := (if_neg w0).trans ((if_neg w1').trans (if_pos mt))
        have rW : TR W w := fun i hi => by rw [tW.1]; exact rV i hi
        show vsp 156 10 (sX10_readsProduct 156) [.ref 138, .int (T.1 138 4)] W _ _
        rw [T4]
        refine e_readsProduct W (tW.tg (by decide) gV) sW w rW hf.2.2.2.1 m4 (fun Y mY hY => tail Y ((tT.mt.trans (tU.mt.trans (tV.mt.trans (tW.mt.trans mY)))).w (by decide)) ?_)
        rw [hb]
        refine hY.imp (fun ⟨a', w', x, y, z⟩ => ⟨a', w', x, y, z, st3 Y (n3 2 (by decide) mt) ((mY.2.2 14 (by decide)).trans ((tW.2.2 14 (by decide)).trans ((tV.2.2 14 (by decide)).trans ((tU.2.2 14 (by decide)).trans T14))))⟩) id
      · have w2 : ¬ mtc g e 2 := w2
        have gW := tW.tg (by decide) gV
        have rW : TR W w := fun i hi => by rw [tW.1]; exact rV i hi
        have W14 : W.1 138 14 = bif st then 1 else 0 := (tW.2.2 14 (by decide)).trans ((tV.2.2 14 (by decide)).trans ((tU.2.2 14 (by decide)).trans T14))
        have hb2 : pBody g len e st w n m = if mtc g e 3 ∧ st = false then pSto g len (e + 5) w else .inl (1, e) := (if_neg w0).trans ((if_neg w1').trans (if_neg w2))
        have mW : MT [4, 6, 7, 14] S W := (tT.mt.trans (tU.mt.trans (tV.mt.trans tW.mt))).w (by decide)
        refine And.intro (fun x => ?_) (fun x => ?_)
        · have x : ¬ W.1 138 14 = 0 := x
          have st1 : st = true := by
            cases st with
            | true => rfl
            | false => exact absurd W14 x
          refine ⟨⟨Nat.le_of_ble_eq_true rfl, Nat.le_of_ble_eq_true rfl, Nat.le_of_ble_eq_true rfl⟩, e_wrong 1 _ W sW.1 (fun Y tY e6 e7 => tail Y ((mW.trans tY.mt).w (by decide)) (Or.inr ⟨1, e, ?_, by decide, e6, e7.trans T4⟩))⟩
          rw [hb2, if_neg (fun z => by rw [st1] at z; exact absurd z.2 (by decide))]
        · have x : W.1 138 14 = 0 := x
          have st0 : st = false := by
            cases st with
            | false => rfl
            | true => rw [W14] at x; exact absurd x (by decide)
          refine ⟨⟨Nat.le_of_ble_eq_true rfl, Nat.le_of_ble_eq_true rfl, Nat.le_of_ble_eq_true rfl⟩, e_takesWord (i := 11) (by decide) W gW (fun x => absurd sW.1 x) (fun q sQ => ?_) (Or.inr ⟨e, sW⟩)⟩
          obtain rfl := ST.u l4 sW sQ
          rw [idm]
          refine ⟨fun mt Y tY sY => And.intro (fun x => absurd x (by decide)) (fun _ => ⟨tM, Or.inr rfl, tM, ⟨Nat.le_of_ble_eq_true rfl, Nat.le_of_ble_eq_true rfl, Nat.le_of_ble_eq_true rfl⟩, ?_⟩), fun w3 Y tY sY => And.intro (fun _ => ⟨⟨Nat.le_of_ble_eq_true rfl, Nat.le_of_ble_eq_true rfl, Nat.le_of_ble_eq_true rfl⟩, e_wrong 1 _ Y sY.1 (fun Z tZ e6 e7 => tail Z ((mW.trans (tY.mt.trans tZ.mt)).w (by decide)) (Or.inr ⟨1, q, ?_, by decide, e6, e7.trans T4⟩))⟩) (fun x => absurd rfl x)⟩
          · have mt : mtc g q 3 := mt
            have sY : ST Y len (q + 5) := sY
            have hb : pBody g len q st w n m = pSto g len (q + 5) w := hb2.trans (if_pos ⟨mt, st0⟩)
            have mY : MS [14] Y (u2 Y.1 138 14 1, Y.2) := MS_u2 MS.re 14 1
            have gY := (tY.tg (by decide) gW)
            have sY2 : ST (u2 Y.1 138 14 1, Y.2) len (q + 5) := ⟨(k_o Y 1 (show 6 ≠ 14 by decide)).trans sY.1, (k_o Y 1 (show 4 ≠ 14 by decide)).trans sY.2.1, sY.2.2.1, (k_o Y 1 (show 7 ≠ 14 by decide)).trans sY.2.2.2⟩
            refine e_way (u2 Y.1 138 14 1, Y.2) (mY.tg (by decide) gY) (pSto g len (q + 5) w) (fun a wy => .inr (a, u1L w 2 wy)) (Or.inl ⟨_, sY2, rfl⟩) (fun Z v tZ v01 hZ => ?_)
            have rZ : ∀ i, i < 754 → Z.2 142 i = w i := fun i hi => by rw [tZ.1]; show Y.2 142 i = w i; rw [tY.1]; exact rW i hi
            have mZ : MT [4, 6, 7, 14] S (Z.1, u2 Z.2 142 2 v.toInt64) := ((mW.trans (tY.mt.trans (mY.mt.trans tZ.mt))).w (by decide)).row _ (fun c hc => u2_other _ _ _ hc)
            refine ⟨754, tTold, vp_nI (n := 2) (by decide), tail (Z.1, u2 Z.2 142 2 v.toInt64) mZ ?_⟩
            rw [hb]
            refine hZ.imp (fun ⟨a', x, y⟩ => ⟨a', _, x, y, fun i hi => ?_, ?_⟩) id
            · show u2 Z.2 142 2 v.toInt64 142 i = u1L w 2 v.toInt64 i
              rw [u2_rowL]
              exact u1L_c rZ rfl i hi
            · rw [decide_eq_true mt, Bool.or_true]
              exact (tZ.2.2 14 (by decide)).trans (k_s Y 14 1)
          · have w3 : ¬ mtc g q 3 := w3
            rw [hb2, if_neg (fun z => w3 z.1)]
