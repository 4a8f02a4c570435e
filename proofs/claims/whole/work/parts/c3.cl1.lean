/-! ===== close: the months of the class are those of the row ===== -/
theorem depT.mv {S S' : Mem} {w w' : Nat → Int64} {d : Nat} (h : depT S w d) (e1 : ∀ j, j < 8 → S'.1 (4 + 17 * d) j = S.1 (4 + 17 * d) j) (e2 : S'.2 (5 + 17 * d) = S.2 (5 + 17 * d)) (e : ∀ i, 5 + 9 * d ≤ i → i < 14 + 9 * d → w' i = w i) : depT S' w' d := by
  obtain ⟨h1, h2, h3, h4, ⟨m, m2, h5, h6, h7⟩, h8, h9⟩ := h
  unfold depT
  rw [e1 0 (by decide), e1 1 (by decide), e1 2 (by decide), e1 3 (by decide), e1 4 (by decide), e1 6 (by decide), e1 7 (by decide), e2, e _ (by omega) (by omega), e (5 + 9 * d + 1) (by omega) (by omega), e (5 + 9 * d + 2) (by omega) (by omega), e (5 + 9 * d + 3) (by omega) (by omega), e (5 + 9 * d + 4) (by omega) (by omega), e (5 + 9 * d + 7) (by omega) (by omega), e (5 + 9 * d + 8) (by omega) (by omega)]
  exact ⟨h1, h2, h3, h4, ⟨m, m2, h5, h6, fun i hi => by rw [e _ (by omega) (by omega)]; exact h7 i hi⟩, h8, h9⟩
theorem oW_o (w : Nat → Int64) (d : Nat) {i : Nat} (h : i < 131) : oW w d i = w i := by
  unfold oW
  rw [opW_o _ _ _ _ (by omega), mW_o _ _ (by omega)]
theorem oW_w (w : Nat → Int64) {d j : Nat} (hd : d < 5) (hj : j < 6) : oW w d ((131 + 55 * d) + j) = w (101 + 6 * d + j) := by
  unfold oW opW
  rw [segW_o _ _ (by omega), u1L_o _ _ (by omega), u1L_o _ _ (by omega), segW_i _ _ hj, mW_o _ _ (by omega)]
theorem oW_u (w : Nat → Int64) (d : Nat) : oW w d ((131 + 55 * d) + 6) = uIn (mW w d) d := by
  unfold oW opW
  rw [segW_o _ _ (by omega), u1L_o _ _ (by omega), u1L_s]
theorem oW_c (w : Nat → Int64) (d : Nat) : oW w d ((131 + 55 * d) + 7) = cIn (mW w d) d := by
  unfold oW opW
  rw [segW_o _ _ (by omega), u1L_s]
theorem oW_i (w : Nat → Int64) {d j : Nat} (hd : d < 5) (hj : j < 7) : oW w d ((131 + 55 * d) + 8 + j) = w (66 + 7 * d + j) := by
  unfold oW opW
  rw [segW_i _ _ hj, mW_o _ _ (by omega)]
theorem fi_o (w : Nat → Int64) {d : Nat} (hd : d < 5) : fiW (oW w d) d = w (101 + 6 * d) + uIn (mW w d) d - w (70 + 7 * d) - w (71 + 7 * d) := by
  unfold fiW
  have a := oW_w w (j := 0) hd (by decide)
  have b := oW_i w (j := 4) hd (by decide)
  have c := oW_i w (j := 5) hd (by decide)
  rw [show (131 + 55 * d) + 0 = (131 + 55 * d) from rfl, show 101 + 6 * d + 0 = 101 + 6 * d from rfl] at a
  rw [show (131 + 55 * d) + 8 + 4 = (131 + 55 * d) + 12 by omega, show 66 + 7 * d + 4 = 70 + 7 * d by omega] at b
  rw [show (131 + 55 * d) + 8 + 5 = (131 + 55 * d) + 13 by omega, show 66 + 7 * d + 5 = 71 + 7 * d by omega] at c
  rw [a, b, c, oW_u]
theorem uIn_s (w : Nat → Int64) (d : Nat) : uIn (mW w (d + 1)) (d + 1) = fiW (oW w d) d := by
  show (if d + 1 = 0 then _ else mW w (d + 1) ((131 + 55 * d) + 15)) = _
  rw [if_neg (Nat.succ_ne_zero d)]
  show ctW (oW w d) d (wyW w d) ((131 + 55 * d) + 15) = _
  rw [ctW_c _ _ _ (by omega)]
  exact (cnR_h _ _ _ 4 (by decide)).1
theorem fiV_eq {S : Mem} {w : Nat → Int64} {d t : Nat} {rc : Int32} (hd : d < 5) (hc : comR S w d) (hk : wrkR S w d) (he : WFe w d t) (e : rc.toInt64 = uIn (mW w d) d) (h0 : 0 ≤ (uIn (mW w d) d).toInt) (h1 : (uIn (mW w d) d).toInt ≤ 310000) : (fiV S (4 + 17 * d) rc).toInt64 = fiW (oW w d) d ∧ (fiW (oW w d) d).toInt ≤ (uIn (mW w d) d).toInt + 50000 := by
  obtain ⟨⟨-, -, c1, c2, -⟩, ⟨w1, -, -⟩, -⟩ := he
  have a1 := rgI c1 (by decide)
  have a2 := rgI c2 (by decide)
  have a3 := rgI w1 (by decide)
  have b1 : (S.1 (4 + 17 * d) 8).toInt64 = w (70 + 7 * d) := hc.2 0 (by decide)
  have b2 : (S.1 (4 + 17 * d) 9).toInt64 = w (71 + 7 * d) := by
    have := hc.2 1 (by decide)
    rw [show 70 + 7 * d + 1 = 71 + 7 * d by omega] at this
    exact this
  have b3 : (S.1 (7 + 17 * d) 0).toInt64 = w (101 + 6 * d) := hk.1 0 (by decide)
  have ef : (fiW (oW w d) d).toInt = (w (101 + 6 * d)).toInt + (uIn (mW w d) d).toInt - (w (70 + 7 * d)).toInt - (w (71 + 7 * d)).toInt := by
    rw [fi_o w hd]
    exact g_sub (g_sub (g_add rfl rfl (by omega)) rfl (by omega)) rfl (by omega)
  refine ⟨e64 ?_, by omega⟩
  rw [ef]
  unfold fiV
  rw [show (4 + 17 * d) + 3 = 7 + 17 * d by omega]
  exact s_sub (s_sub (s_add (t64 b3) (t64 e) (by omega)) (t64 b1) (by omega)) (t64 b2) (by omega)
theorem rc_eq {S : Mem} {w : Nat → Int64} {n m t : Nat} {ns : Nat → Nat} (hD : deskR S w n m ns) (hE : ∀ d, d < n → WFe w d t) (h4 : rg w 4 10000) : ∀ d, d ≤ n → (∀ e, e < d → cnM w e) → (rcV S d).toInt64 = uIn (mW w d) d ∧ 0 ≤ (uIn (mW w d) d).toInt ∧ (uIn (mW w d) d).toInt ≤ 10000 + 50000 * (d : Int)
  | 0, _, _ => by
    have a := rgI h4 (by decide)
    exact ⟨hD.2.1 2 (by decide), a.1, a.2⟩
  | d + 1, hd, can => by
    have n5 := hD.1.2.1
    obtain ⟨i1, i2, i3⟩ := rc_eq hD hE h4 d (by omega) (fun e he => can e (by omega))
    have dW := hD.2.2.2.1 d (by omega)
    obtain ⟨f1, f2⟩ := fiV_eq (by omega) dW.2.1 dW.2.2.1 (hE d (by omega)) i1 i2 (by omega)
    have c := (can d (Nat.lt_succ_self d)).1
    rw [Int64.lt_iff_toInt_lt, show (0 : Int64).toInt = 0 from rfl] at c
    rw [uIn_s]
    exact ⟨f1, by omega, by omega⟩
theorem canV_M {S : Mem} {w : Nat → Int64} {n m t : Nat} {ns : Nat → Nat} (hD : deskR S w n m ns) (hE : ∀ d, d < n → WFe w d t) (h4 : rg w 4 10000) {d : Nat} (hd : d < n) (can : ∀ e, e < d → cnM w e) : canV S (4 + 17 * d) (rcV S d) ↔ cnM w d := by
  have n5 := hD.1.2.1
  obtain ⟨i1, i2, i3⟩ := rc_eq hD hE h4 d (by omega) can
  have dW := hD.2.2.2.1 d hd
  obtain ⟨f1, f2⟩ := fiV_eq (by omega) dW.2.1 dW.2.2.1 (hE d hd) i1 i2 (by omega)
  have b3 : (S.1 (7 + 17 * d) 0).toInt64 = oW w d (131 + 55 * d) := (dW.2.2.1.1 0 (by decide)).trans (oW_w w (j := 0) (by omega) (by decide)).symm
  have wy : S.1 (4 + 17 * d) 0 = wyW w d := l_i dW.1.1
  unfold canV cnM canW
  rw [lt64 f1 (show (0 : Int32).toInt64 = 0 from rfl), show (4 + 17 * d) + 3 = 7 + 17 * d by omega, le64 b3 f1, wy]
theorem canA_W {S : Mem} {w : Nat → Int64} {n m t : Nat} {ns : Nat → Nat} (hD : deskR S w n m ns) (hE : ∀ d, d < n → WFe w d t) (h4 : rg w 4 10000) : canA S n ↔ ∀ d, d < n → cnM w d := by
  have key : ∀ j, j ≤ n → ((∀ d, d < j → canV S (4 + 17 * d) (rcV S d)) ↔ ∀ d, d < j → cnM w d) := by
    intro j
    induction j with
    | zero => exact fun _ => ⟨fun _ d hd => absurd hd (Nat.not_lt_zero d), fun _ d hd => absurd hd (Nat.not_lt_zero d)⟩
    | succ j ih =>
      intro hj
      have i := ih (by omega)
      constructor
      · intro h d hd
        have p : ∀ e, e < j → cnM w e := i.mp (fun e he => h e (by omega))
        by_cases z : d = j
        · subst z; exact (canV_M hD hE h4 (by omega) p).mp (h d hd)
        · exact p d (by omega)
      · intro h d hd
        by_cases z : d = j
        · subst z; exact (canV_M hD hE h4 (by omega) (fun e he => h e (by omega))).mpr (h d hd)
        · exact i.mpr (fun e he => h e (by omega)) d (by omega)
  exact key n (Nat.le_refl n)
theorem rgM_o {w : Nat → Int64} {d t : Nat} (hd : d < 5) (he : WFe w d t) (h0 : 0 ≤ (uIn (mW w d) d).toInt) (h1 : (uIn (mW w d) d).toInt ≤ 310000) : rgM (oW w d) d := by
  obtain ⟨⟨-, -, c1, c2, c3⟩, ⟨w1, w2, -⟩, -⟩ := he
  have cp : ∀ {i j B : Nat}, oW w d i = w j → rg w j B → rg (oW w d) i B := fun e h => by obtain ⟨v, a, b⟩ := h; exact ⟨v, a, e.trans b⟩
  refine ⟨cp (oW_w w (j := 0) hd (by decide)) w1, cp ?_ w2, ⟨(uIn (mW w d) d).toInt.toNat, by omega, ?_⟩, cp ?_ c1, cp ?_ c2, cp ?_ c3⟩
  · have := oW_w w (j := 1) hd (by decide)
    rw [show (131 + 55 * d) + 1 = 132 + 55 * d by omega, show 101 + 6 * d + 1 = 102 + 6 * d by omega] at this
    exact this
  · rw [show 137 + 55 * d = (131 + 55 * d) + 6 by omega, oW_u]
    refine Int64.toInt_inj.mp ?_
    rw [lN_toInt (by omega)]
    omega
  · have := oW_i w (j := 4) hd (by decide)
    rw [show (131 + 55 * d) + 8 + 4 = 143 + 55 * d by omega, show 66 + 7 * d + 4 = 70 + 7 * d by omega] at this
    exact this
  · have := oW_i w (j := 5) hd (by decide)
    rw [show (131 + 55 * d) + 8 + 5 = 144 + 55 * d by omega, show 66 + 7 * d + 5 = 71 + 7 * d by omega] at this
    exact this
  · have := oW_i w (j := 6) hd (by decide)
    rw [show (131 + 55 * d) + 8 + 6 = 145 + 55 * d by omega, show 66 + 7 * d + 6 = 72 + 7 * d by omega] at this
    exact this
theorem mon_cl {S S1 : Mem} {w : Nat → Int64} {n m t : Nat} {ns : Nat → Nat} (hD : deskR S w n m ns) (hf : WFt w n m) (hE : ∀ d, d < n → WFe w d t) (h4 : rg w 4 10000) (can : ∀ d, d < n → cnM w d) (hcl : closeR S S1 n) : ∀ d, d < n → monR S1 (mW w (d + 1)) (9 + 17 * d) (131 + 55 * d) := by
  intro d
  induction d using Nat.strongRecOn with
  | _ d ih =>
    intro hd
    have n5 := hD.1.2.1
    obtain ⟨i1, i2, i3⟩ := rc_eq hD hE h4 d (by omega) (fun e he => can e (by omega))
    obtain ⟨tD, cR, kR, -, -⟩ := hD.2.2.2.1 d hd
    have hw := hf.2.2.2.2.2.1 d hd
    obtain ⟨⟨p1, p2, p3, p4, p5, p6⟩, q1, q2, q3, rR, -, -, -, -, e1, e2⟩ := hcl.1 d hd
    rw [show (4 + 17 * d) + 5 = 9 + 17 * d by omega] at rR p3 p4
    rw [show (4 + 17 * d) + 6 = 9 + 17 * d + 1 by omega, show (4 + 17 * d) + 3 = 7 + 17 * d by omega] at p1 p2
    rw [show (4 + 17 * d) + 8 = 9 + 17 * d + 3 by omega] at p5 p6
    rw [show (4 + 17 * d) + 10 = 9 + 17 * d + 5 by omega] at q2 q3
    rw [show (4 + 17 * d) + 7 = 9 + 17 * d + 2 by omega, show (4 + 17 * d) + 4 = 8 + 17 * d by omega] at q1
    rw [show (4 + 17 * d) + 2 = 6 + 17 * d by omega] at q3
    rw [show (4 + 17 * d) + 1 = 5 + 17 * d by omega] at e2
    have ct : ctV S1 d = cIn (mW w d) d := by
      rcases d with _ | e
      · rfl
      · have := (ih e (Nat.lt_succ_self e) (by omega)).2.2.2.2.2.2.2.2
        show S1.2 (9 + 17 * e) 17 = (if e + 1 = 0 then 0 else mW w (e + 1) (131 + 55 * (e + 1 - 1) + 54))
        rw [if_neg (Nat.succ_ne_zero e), ← this, show e + 1 - 1 = e from rfl]
    have z9 : S.1 (4 + 17 * d) 9 = 0 ↔ w (71 + 7 * d) = 0 := by
      have := cR.2 1 (by decide)
      rw [show 70 + 7 * d + 1 = 71 + 7 * d by omega] at this
      exact eq64 this (show (0 : Int32).toInt64 = 0 from rfl)
    have hG : givR S1 (oW w d) (9 + 17 * d) (131 + 55 * d) := by
      refine ⟨fun j hj => ?_, fun j hj => ?_, ?_, ?_, fun j x y => ?_, ?_, ?_, ?_⟩
      · rw [oW_w w (by omega) (by omega)]
        rcases (show j = 0 ∨ j = 1 by omega) with rfl | rfl
        · rw [p1]; exact kR.1 0 (by decide)
        · rw [p2]; exact kR.1 1 (by decide)
      · rw [show (131 + 55 * d) + 2 + j = (131 + 55 * d) + (2 + j) by omega, oW_w w (by omega) (by omega), q1 j hj, kR.2 j hj, show 101 + 6 * d + (2 + j) = 103 + 6 * d + j by omega]
      · rw [oW_u, p3]; exact i1
      · rw [oW_c, q2]; exact ct
      · rw [oW_i w (by omega) (by omega), q3 j x y]; exact cR.1 j x y
      · rw [p4, show (131 + 55 * d) + 12 = (131 + 55 * d) + 8 + 4 by omega, oW_i w (by omega) (by decide), show 66 + 7 * d + 4 = 70 + 7 * d + 0 by omega]; exact cR.2 0 (by decide)
      · rw [p5, show (131 + 55 * d) + 13 = (131 + 55 * d) + 8 + 5 by omega, oW_i w (by omega) (by decide), show 66 + 7 * d + 5 = 70 + 7 * d + 1 by omega]; exact cR.2 1 (by decide)
      · rw [p6, show (131 + 55 * d) + 13 = (131 + 55 * d) + 8 + 5 by omega, show (131 + 55 * d) + 14 = (131 + 55 * d) + 8 + 6 by omega, oW_i w (by omega) (by decide), oW_i w (by omega) (by decide), show 66 + 7 * d + 5 = 71 + 7 * d by omega, show 66 + 7 * d + 6 = 70 + 7 * d + 2 by omega]
        by_cases z : S.1 (4 + 17 * d) 9 = 0
        · rw [if_pos z, if_pos (z9.mp z)]; rfl
        · rw [if_neg z, if_neg (fun y => z (z9.mpr y))]; exact cR.2 2 (by decide)
    have hT : depT S1 (oW w d) d := tD.mv e1 e2 (fun i x y => oW_o w d (by omega))
    have hW : WFd (oW w d) d := hw.move (fun i x y => oW_o w d (by omega))
    have wy : S.1 (4 + 17 * d) 0 = wyW w d := l_i tD.1
    have h01 : wyW w d = 0 ∨ wyW w d = 1 := by
      unfold wyW
      rcases hw.1 with z | z
      · rw [z]; exact Or.inl rfl
      · rw [z]; exact Or.inr rfl
    rw [wy] at rR
    exact monR_of h01 hG (rgM_o (by omega) (hE d hd) i2 (by omega)) hT hW rR
