/-! ===== readLine, the method ===== -/
theorem mtc_1 {g : Nat → Int32} {f i j : Nat} (hi : i < 16) (hj : j < 16) (h : mtc g f i) (k : mtc g f j) : (strB i).getD 0 0 = (strB j).getD 0 0 := (h.1 0 (strB_ps i hi).1).symm.trans (k.1 0 (strB_ps j hj).1)
theorem FRM.x {S S' : Mem} (h : FRM S S') : FRX S S' := ⟨fun c x => ⟨funext fun j => h.1 c j (by omega), h.2 c (by omega)⟩, fun j x => h.1 121 j (by omega)⟩
set_option maxHeartbeats 4000000 in
theorem e_readLine {g : Nat → Int32} {len a n m : Nat} {st : Bool} (S : Mem) (w : Nat → Int64) (hg : tg S g len) (ha : S.1 121 3 = nI a) (hal : a ≤ len) (hst : S.1 121 6 = bif st then 1 else 0) (hT : TD S w n m) {Qr : QR} {Qx : QX}
    (h1 : ∀ a' w' n' m' S', pLine g len a st w = .inr (a', w') → S'.1 121 3 = nI a' → TD S' w' n' m' → FRM S S' → S'.1 121 6 = (bif (st || decide (mtc g (rend isBl g len a) 3)) then 1 else 0) → Qr (some (.int 1)) S')
    (h0 : ∀ S', FRX S S' → fltR S' (pLine g len a st w) → Qr (some (.int 0)) S') : vsp 156 8 (sX8_readLine 156) [.ref 121, .ref 1] S Qr Qx := by
  have t1 : tyN 156 1 = (0, 1, 0, 0) := rfl
  have rl := rend_le (P := isBl) (g := g) hal
  have hpl : pLine g len a st w = pEnd g len (pBody g len (rend isBl g len a) st w n m) := by
    unfold pLine
    rw [hT.1.cnt.1, hT.1.cnt.2]
  have n5 := hT.1.1
  have m4 := hT.1.2.1
  have hn := hT.2.1
  have hm := hT.2.2.1
  generalize hf : rend isBl g len a = f at *
  have tail : ∀ (U : Mem) (a' : Nat) (w' : Nat → Int64) (n' m' : Nat), tg U g len → U.1 121 3 = nI a' → a' ≤ len → TD U w' n' m' → FRM S U → U.1 121 6 = (bif (st || decide (mtc g f 3)) then 1 else 0) → pBody g len f st w n m = .inr (a', w') → wpH 156 pX8_readLine (kX8_readLine 156) hd0 [] none 3 (some .boolean) Qr Qx [] 40 (jmp 93 pX8_readLine) 0 [(2, .int 1), (0, .ref 121), (1, .ref 1)] [] U := by
    intro U a' w' n' m' gU u3 la uT uF u6 hb
    refine And.intro (fun x => absurd x (by decide)) (fun _ => ⟨⟨Nat.le_of_ble_eq_true rfl, Nat.le_of_ble_eq_true rfl, Nat.le_of_ble_eq_true rfl⟩, e_readEnd U gU u3 la (fun e l V tV v3 => And.intro (fun x => absurd x (by decide)) (fun _ => ⟨Or.inr rfl, h1 _ w' n' m' V ?_ v3 (uT.ts tV) (uF.trans (FRM_ts tV (by decide) (by decide) (by decide) (by decide))) ((tV.2.2 6 (by decide)).trans u6)⟩)) (fun e V tV e7 e8 => And.intro (fun _ => ⟨Or.inl rfl, h0 V (uF.x.trans (tV.x (by decide))) ⟨1, _, ?_, e7, e8⟩⟩) (fun x => absurd rfl x))⟩)
    · rw [hpl, hb]; exact if_pos e
    · rw [hpl, hb]; exact if_neg e
  have tail0 : ∀ (U : Mem), FRX S U → fltR U (pLine g len a st w) → wpH 156 pX8_readLine (kX8_readLine 156) hd0 [] none 3 (some .boolean) Qr Qx [] 40 (jmp 93 pX8_readLine) 0 [(2, .int 0), (0, .ref 121), (1, .ref 1)] [] U := by
    intro U uF uf
    exact And.intro (fun _ => ⟨Or.inl rfl, h0 U uF uf⟩) (fun x => absurd rfl x)
  have flt : ∀ U, fltR U (pBody g len f st w n m) → fltR U (pLine g len a st w) := by
    intro U h
    obtain ⟨r, pl, e, x, y⟩ := h
    refine ⟨r, pl, ?_, x, y⟩
    rw [hpl, e]; rfl
  have ltr : ∀ U a' w', pBody g len f st w n m = .inr (a', w') → isLe (g a') = true → U.1 121 7 = 1 → U.1 121 8 = nI a' → fltR U (pLine g len a st w) := by
    intro U a' w' hb hL e7 e8
    have n32 : ¬ g a' = 32 := fun e => by rw [e] at hL; exact absurd hL (by decide)
    have n59 : ¬ g a' = 59 := fun e => by rw [e] at hL; exact absurd hL (by decide)
    have sk' : rend isBl g len a' = a' := rend_no (fun _ => decide_eq_false n32)
    refine ⟨1, a', ?_, e7, e8⟩
    rw [hpl, hb]
    show (if g (rend isBl g len a') = 59 then _ else _) = _
    rw [sk', if_neg n59]
  refine ⟨t8, runG rfl 120 ⟨⟨Nat.le_of_ble_eq_true rfl, Nat.le_of_ble_eq_true rfl, Nat.le_of_ble_eq_true rfl⟩, e_readWord S hg ha hal (fun T tT T4 T3 => ?_)⟩⟩
  rw [hf] at T4 T3
  have gT := tT.tg (by decide) hg
  have fT : FRM S T := FRM_ts tT (by decide) (by decide) (by decide) (by decide)
  have T6 : T.1 121 6 = bif st then 1 else 0 := (tT.2.2 6 (by decide)).trans hst
  have tdT := hT.ts tT
  have n3 : ∀ i, i < 3 → mtc g f i → ¬ mtc g f 3 := by
    intro i hi x y
    have := mtc_1 (by omega) (by decide) x y
    rcases (show i = 0 ∨ i = 1 ∨ i = 2 by omega) with rfl | rfl | rfl <;> exact absurd this (by decide)
  have st3 : ∀ U : Mem, ¬ mtc g f 3 → U.1 121 6 = (bif st then 1 else 0) → U.1 121 6 = (bif (st || decide (mtc g f 3)) then 1 else 0) := by
    intro U x y
    rw [decide_eq_false x, Bool.or_false]; exact y
  refine ⟨⟨Nat.le_of_ble_eq_true rfl, Nat.le_of_ble_eq_true rfl, Nat.le_of_ble_eq_true rfl⟩, e_isWord (i := 0) (by decide) T gT rl.2 T4 T3 (fun w0 e => ?_) (fun w0 => ?_)⟩
  · have hb : pBody g len f st w n m = pDep g len f (f + 4) n w := if_pos w0
    have T3' : T.1 121 3 = nI (f + 4) := by rw [T3, e]; rfl
    have l4 : f + 4 ≤ len := mtc_len (i := 0) (by decide) rl.2 gT.2.2.2 w0
    have s3 := n3 0 (by decide) w0
    refine And.intro (fun x => absurd x (by decide)) (fun _ => ⟨⟨Nat.le_of_ble_eq_true rfl, Nat.le_of_ble_eq_true rfl, Nat.le_of_ble_eq_true rfl⟩, e_readDepartment n5 T gT T3' l4 T4 tdT.2.1 w (fun h5 a' wy pt rt sc U la u3 dU u1' wy01 b1 b2 b3 hc => ?_) (fun U dU uf => ?_) (fun a' w' U dU hp hL e7 e8 => ?_)⟩)
    · have gU := dU.tg (by omega) gT
      have u6 : U.1 121 6 = bif st then 1 else 0 := (dU.2.2 6 (by decide)).trans T6
      rcases hc with ⟨hp, hk⟩ | ⟨bt, bs, hp, hk, b4, b5⟩
      · have wf := (pDep_wf gT.2.2.2 l4 hT.1 hp).1
        have df := tdT.2.2.2.2.2.1 n (Nat.le_refl n) h5
        refine tail U a' _ (n + 1) m gU u3 la (TD_dep tdT h5 wf dU u1' b1 b2 b3 ?_ ?_ ?_ ?_ ?_ ?_ ?_) (fT.trans (FRM_dep h5 dU u1' hk (fun j hj => ?_))) (st3 U s3 u6) (hb.trans hp)
        · rw [hk]; simp [dpF, u1]
        · rw [hk]; simp [dpF, u1]
        · rw [hk]; simp [dpF, u1]
        · rw [hk]; simp [dpF, u1]
        · rw [hk]; simp [dpF, u1]
        · rw [hk]; simp only [dpF, u1]; simp [df.2.1]
        · rw [hk]; simp only [dpF, u1]; simp [df.2.2]
        · have a0 : j ≠ 0 := by omega
          have a1 : j ≠ 1 := by omega
          have a2 : j ≠ 2 := by omega
          have a3 : j ≠ 3 := by omega
          simp [dpF, u1, a0, a1, a2, a3]
      · have wf := (pDep_wf gT.2.2.2 l4 hT.1 hp).1
        refine tail U a' _ (n + 1) m gU u3 la (TD_dep tdT h5 wf dU u1' b1 b2 b3 ?_ ?_ ?_ ?_ ?_ ?_ ?_) (fT.trans (FRM_dep h5 dU u1' hk (fun j hj => ?_))) (st3 U s3 u6) (hb.trans hp)
        · rw [hk]; simp [dpF, u1]
        · rw [hk]; simp [dpF, u1]
        · rw [hk]; simp [dpF, u1]
        · rw [hk]; simp [dpF, u1]
        · rw [hk]; simp [dpF, u1]
        · rw [hk, show u1 (u1 (dpF (T.1 (4 + 17 * n)) wy pt rt sc) 6 (nI bt)) 7 (nI bs) 6 = nI bt by simp [u1], nI_l (by omega)]
        · rw [hk, show u1 (u1 (dpF (T.1 (4 + 17 * n)) wy pt rt sc) 6 (nI bt)) 7 (nI bs) 7 = nI bs by simp [u1], nI_l (by omega)]
        · have a0 : j ≠ 0 := by omega
          have a1 : j ≠ 1 := by omega
          have a2 : j ≠ 2 := by omega
          have a3 : j ≠ 3 := by omega
          have a6 : j ≠ 6 := by omega
          have a7 : j ≠ 7 := by omega
          simp [dpF, u1, a0, a1, a2, a3, a6, a7]
    · exact tail0 U (fT.x.trans (dU.x (by omega) (by omega))) (flt U (by rw [hb]; exact uf))
    · exact tail0 U (fT.x.trans (dU.x (by omega) (by omega))) (ltr U a' w' (hb.trans hp) hL e7 e8)
  · refine And.intro (fun _ => ⟨⟨Nat.le_of_ble_eq_true rfl, Nat.le_of_ble_eq_true rfl, Nat.le_of_ble_eq_true rfl⟩, e_isWord (i := 1) (by decide) T gT rl.2 T4 T3 (fun w1' e => ?_) (fun w1' => ?_)⟩) (fun x => absurd rfl x)
    · have hb : pBody g len f st w n m = pMat g len f (f + 3) n w := (if_neg w0).trans (if_pos w1')
      have T3' : T.1 121 3 = nI (f + 3) := by rw [T3, e]; rfl
      have l4 : f + 3 ≤ len := mtc_len (i := 1) (by decide) rl.2 gT.2.2.2 w1'
      have s3 := n3 1 (by decide) w1'
      refine And.intro (fun x => absurd x (by decide)) (fun _ => ⟨⟨Nat.le_of_ble_eq_true rfl, Nat.le_of_ble_eq_true rfl, Nat.le_of_ble_eq_true rfl⟩, e_readMaterial n5 T gT T3' l4 T4 tdT.2.1 w (fun d hd => ?_) (fun d k far a' U hd hk hS hfar la hp tU u3 => ?_) (fun U tU uf => ?_)⟩)
      · obtain ⟨-, -, -, -, ⟨q, q2, a5, a6, -⟩, -⟩ := tdT.2.2.2.2.1 d hd
        exact ⟨q, q2, a5, a6⟩
      · have wf := (pMat_wf gT.2.2.2 l4 hT.1 hp).1
        have k121 : ∀ j, u2 U.1 (4 + 17 * d) 4 (nI (k + 1)) 121 j = T.1 121 j ∨ j = 3 ∨ j = 5 := fun j => by
          by_cases z : j = 3 ∨ j = 5
          · exact Or.inr z
          · refine Or.inl ((u2_k U.1 _ _ _ (by omega)).trans (tU.2.2 j (by simp; omega)))
        have f1 : FRM T (u2 U.1 (4 + 17 * d) 4 (nI (k + 1)), u2 U.2 (5 + 17 * d) k (lN far)) := by
          refine ⟨fun c j x => ?_, fun c x => (u2_other U.2 _ _ (by omega)).trans (by rw [tU.1])⟩
          show u2 U.1 (4 + 17 * d) 4 (nI (k + 1)) c j = T.1 c j
          by_cases z : c = 121
          · subst z
            rcases k121 j with y | y | y
            · exact y
            · omega
            · omega
          · by_cases z2 : j = 4
            · rw [u2_k _ _ _ _ (by omega), tU.2.1 c z]
            · rw [u2_j _ _ _ _ z2, tU.2.1 c z]
        refine tail _ a' _ n m ⟨?_, gT.2.1, fun i hi => ?_, gT.2.2.2⟩ ?_ la (TD_mat tdT hd hk hS hfar wf tU) (fT.trans f1) (st3 _ s3 ?_) (hb.trans hp)
        · exact (f1.1 121 2 (by omega)).trans gT.1
        · rw [f1.1 122 i (by omega)]; exact gT.2.2.1 i hi
        · exact (u2_k U.1 4 3 _ (by omega)).trans u3
        · exact (u2_k U.1 4 6 _ (by omega)).trans ((tU.2.2 6 (by decide)).trans T6)
      · exact tail0 U (fT.x.trans (tU.x (by decide))) (flt U (by rw [hb]; exact uf))
    · refine And.intro (fun _ => ⟨⟨Nat.le_of_ble_eq_true rfl, Nat.le_of_ble_eq_true rfl, Nat.le_of_ble_eq_true rfl⟩, e_isWord (i := 2) (by decide) T gT rl.2 T4 T3 (fun w2 e => ?_) (fun w2 => ?_)⟩) (fun x => absurd rfl x)
      · have hb : pBody g len f st w n m = pPro g len f (f + 7) m w := (if_neg w0).trans ((if_neg w1').trans (if_pos w2))
        have T3' : T.1 121 3 = nI (f + 7) := by rw [T3, e]; rfl
        have l4 : f + 7 ≤ len := mtc_len (i := 2) (by decide) rl.2 gT.2.2.2 w2
        have s3 := n3 2 (by decide) w2
        refine And.intro (fun x => absurd x (by decide)) (fun _ => ⟨⟨Nat.le_of_ble_eq_true rfl, Nat.le_of_ble_eq_true rfl, Nat.le_of_ble_eq_true rfl⟩, e_readProduct m4 T gT T3' l4 T4 tdT.2.2.1 w (fun h5 a' sh pr co U la u3 dU u1' b1 b2 b3 hc => ?_) (fun U xU uf => ?_) (fun a' w' U xU hp hL e7 e8 => ?_)⟩)
        · have gU := dU.tg (by omega) gT
          have u6 : U.1 121 6 = bif st then 1 else 0 := (dU.2.2 6 (by decide)).trans T6
          rcases hc with ⟨hp, hk⟩ | ⟨hp, hk⟩
          · have wf := (pPro_wf gT.2.2.2 l4 hT.1 hp).1
            have df := tdT.2.2.2.2.2.2.2 m (Nat.le_refl m) h5
            refine tail U a' _ n (m + 1) gU u3 la (TD_pro (v := 0) tdT h5 wf dU u1' b1 b2 b3 ?_ ?_ ?_ ?_) (fT.trans (FRM_pro h5 dU u1' hk (fun j hj => ?_))) (st3 U s3 u6) (hb.trans hp)
            · rw [hk]; simp [u1]
            · rw [hk]; simp [u1]
            · rw [hk]; simp [u1]
            · rw [hk]; simp only [u1]; simp [df]
            · have a0 : j ≠ 0 := by omega
              have a1 : j ≠ 1 := by omega
              have a2 : j ≠ 2 := by omega
              simp [u1, a0, a1, a2]
          · have wf := (pPro_wf gT.2.2.2 l4 hT.1 hp).1
            refine tail U a' _ n (m + 1) gU u3 la (TD_pro (v := 0) tdT h5 wf dU u1' b1 b2 b3 ?_ ?_ ?_ ?_) (fT.trans (FRM_pro h5 dU u1' hk (fun j hj => ?_))) (st3 U s3 u6) (hb.trans hp)
            · rw [hk]; simp [u1]
            · rw [hk]; simp [u1]
            · rw [hk]; simp [u1]
            · rw [hk]; simp [u1]
            · have a0 : j ≠ 0 := by omega
              have a1 : j ≠ 1 := by omega
              have a2 : j ≠ 2 := by omega
              have a3 : j ≠ 3 := by omega
              simp [u1, a0, a1, a2, a3]
        · exact tail0 U (fT.x.trans xU) (flt U (by rw [hb]; exact uf))
        · exact tail0 U (fT.x.trans xU) (ltr U a' w' (hb.trans hp) hL e7 e8)
      · have hb2 : pBody g len f st w n m = if mtc g f 3 ∧ st = false then pSto g len (f + 5) w else .inl (1, f) := (if_neg w0).trans ((if_neg w1').trans (if_neg w2))
        refine And.intro (fun _ => ⟨⟨Nat.le_of_ble_eq_true rfl, Nat.le_of_ble_eq_true rfl, Nat.le_of_ble_eq_true rfl⟩, e_isWord (i := 3) (by decide) T gT rl.2 T4 T3 (fun w3 e => ?_) (fun w3 => ?_)⟩) (fun x => absurd rfl x)
        · have T3' : T.1 121 3 = nI (f + 5) := by rw [T3, e]; rfl
          have l4 : f + 5 ≤ len := mtc_len (i := 3) (by decide) rl.2 gT.2.2.2 w3
          refine And.intro (fun x => absurd x (by decide)) (fun _ => ⟨t8, And.intro (fun x => ?_) (fun x => ?_)⟩)
          · have x : ¬ T.1 121 6 = 0 := x
            have st1 : st = true := by
              cases st with
              | true => rfl
              | false => exact absurd T6 x
            refine ⟨t8, ⟨Nat.le_of_ble_eq_true rfl, Nat.le_of_ble_eq_true rfl, Nat.le_of_ble_eq_true rfl⟩, e_refuse 1 _ T (fun U tU e7 e8 => tail0 U (fT.x.trans (tU.x (by decide))) (flt U ⟨1, f, ?_, e7, e8.trans T4⟩))⟩
            rw [hb2, if_neg (fun z => by rw [st1] at z; exact absurd z.2 (by decide))]
          · have x : T.1 121 6 = 0 := x
            have st0 : st = false := by
              cases st with
              | false => rfl
              | true => rw [T6] at x; exact absurd x (by decide)
            have hb : pBody g len f st w n m = pSto g len (f + 5) w := hb2.trans (if_pos ⟨w3, st0⟩)
            refine ⟨⟨Nat.le_of_ble_eq_true rfl, Nat.le_of_ble_eq_true rfl, Nat.le_of_ble_eq_true rfl⟩, e_readStore T gT T3' l4 w (fun v a' U v01 la hp tU u3 u6 => ?_) (fun U tU uf => ?_)⟩
            · have wf := (pSto_wf gT.2.2.2 l4 hT.1 hp).1
              have tdU := tdT.ts tU
              have f1 : FRM T (u2 U.1 1 4 v, U.2) := by
                refine ⟨fun c j x => ?_, fun c x => by rw [tU.1]⟩
                show u2 U.1 1 4 v c j = T.1 c j
                by_cases z : c = 1
                · subst z
                  rw [u2_j _ _ _ _ (by omega), tU.2.1 1 (by decide)]
                · rw [u2_k _ _ _ _ z]
                  by_cases z2 : c = 121
                  · subst z2
                    exact tU.2.2 j (by simp; omega)
                  · rw [tU.2.1 c z2]
              have o1 : ∀ i, i ≠ 2 → u1L w 2 v.toInt64 i = w i := fun i hi => u1L_o w _ hi
              have fk : ∀ c, c ≠ 1 → u2 U.1 1 4 v c = U.1 c := fun c hc => u2_other U.1 4 v hc
              refine tail _ a' _ n m ⟨?_, gT.2.1, fun i hi => ?_, gT.2.2.2⟩ ?_ la ⟨wf, ?_, ?_, ?_, fun d hd => ?_, fun d x y => ?_, fun p hp => ?_, fun p x y => ?_⟩ (fT.trans f1) ?_ (hb.trans hp)
              · exact (f1.1 121 2 (by omega)).trans gT.1
              · rw [f1.1 122 i (by omega)]; exact gT.2.2.1 i hi
              · exact (u2_k U.1 4 3 v (show 121 ≠ 1 by decide)).trans u3
              · exact (u2_j U.1 1 1 v (show 2 ≠ 4 by decide)).trans tdU.2.1
              · exact (u2_j U.1 1 1 v (show 3 ≠ 4 by decide)).trans tdU.2.2.1
              · rw [u1L_s]
                exact congrArg Int32.toInt64 (u2_s U.1 1 4 v)
              · exact (tdU.2.2.2.2.1 d hd).move (fk _ (by omega)) rfl (fun i x y => o1 i (by omega))
              · show u2 U.1 1 4 v (4 + 17 * d) 4 = 0 ∧ u2 U.1 1 4 v (4 + 17 * d) 6 = -1 ∧ u2 U.1 1 4 v (4 + 17 * d) 7 = -1
                rw [fk _ (by omega)]; exact tdU.2.2.2.2.2.1 d x y
              · exact (tdU.2.2.2.2.2.2.1 p hp).move (fk _ (by omega)) (fun i x y => o1 i (by omega))
              · show u2 U.1 1 4 v (89 + 3 * p) 3 = 0
                rw [fk _ (by omega)]; exact tdU.2.2.2.2.2.2.2 p x y
              · rw [decide_eq_true w3, Bool.or_true]
                exact (u2_k U.1 4 6 v (show 121 ≠ 1 by decide)).trans u6
            · exact tail0 U (fT.x.trans (tU.x (by decide))) (flt U (by rw [hb]; exact uf))
        · refine And.intro (fun _ => ⟨t8, ⟨Nat.le_of_ble_eq_true rfl, Nat.le_of_ble_eq_true rfl, Nat.le_of_ble_eq_true rfl⟩, e_refuse 1 _ T (fun U tU e7 e8 => tail0 U (fT.x.trans (tU.x (by decide))) (flt U ⟨1, f, ?_, e7, e8.trans T4⟩))⟩) (fun x => absurd rfl x)
          rw [hb2, if_neg (fun z => w3 z.1)]
