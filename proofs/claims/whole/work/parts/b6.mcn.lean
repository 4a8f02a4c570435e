/-! ===== the model: counts ===== -/
theorem tri_rd {X : Nat → Nat → Int64} {w : Nat → Int64} (h : ∀ i, X 143 i = w i) {i : Nat} (hi : i < 754) : X 143 (nI i).toNatClampNeg = w i := by rw [nI_clamp (by omega)]; exact h i
theorem tri_rd2 {X : Nat → Nat → Int64} {w : Nat → Int64} (h : ∀ i, X 143 i = w i) {d x : Nat} (hi : 5 + 9 * d + x < 754) : X 143 (nI 5 + nI 9 * nI d + nI x).toNatClampNeg = w (5 + 9 * d + x) := by rw [ix2, nI_clamp (by omega)]; exact h _
theorem cnY (X : Nat → Nat → Int64) (a c : Nat) (ha : a + 3 < 754) (hc : c + 3 < 754) (a0 a1 a2 a3 c0 c1 c2 c3 : Int64) (Y : Nat → Nat → Int64) (hY : Y = u2 (u2 (u2 (u2 (u2 (u2 (u2 (u2 X 143 (nI a).toNatClampNeg a0) 143 (nI a + nI 1).toNatClampNeg a1) 143 (nI a + nI 2).toNatClampNeg a2) 143 (nI a + nI 3).toNatClampNeg a3) 143 (nI c).toNatClampNeg c0) 143 (nI c + nI 1).toNatClampNeg c1) 143 (nI c + nI 2).toNatClampNeg c2) 143 (nI c + nI 3).toNatClampNeg c3) : Y 143 = u1L (u1L (u1L (u1L (u1L (u1L (u1L (u1L (X 143) a a0) (a + 1) a1) (a + 2) a2) (a + 3) a3) c c0) (c + 1) c1) (c + 2) c2) (c + 3) c3 ∧ ∀ k, k ≠ 143 → Y k = X k := by
  subst hY
  constructor
  · rw [u2_rowL, u2_rowL, u2_rowL, u2_rowL, u2_rowL, u2_rowL, u2_rowL, u2_rowL, nI_add, nI_add, nI_add, nI_add, nI_add, nI_add, nI_clamp (by omega), nI_clamp (by omega), nI_clamp (by omega), nI_clamp (by omega), nI_clamp (by omega), nI_clamp (by omega), nI_clamp (by omega), nI_clamp (by omega)]
  · intro k hk
    rw [u2_other _ _ _ hk, u2_other _ _ _ hk, u2_other _ _ _ hk, u2_other _ _ _ hk, u2_other _ _ _ hk, u2_other _ _ _ hk, u2_other _ _ _ hk, u2_other _ _ _ hk]
set_option maxRecDepth 20000 in
set_option maxHeartbeats 8000000 in
theorem e_counts {d : Nat} (hd : d < 5) (way : Int32) (w : Nat → Int64) (S : Mem) (hW : S.2 143 = w) {Qr : QR} {Qx : QX} (h0 : ¬ canW w d way → Qr (some (.int 0)) S)
    (h1 : canW w d way → ∀ X, X 143 = ctW w d way → (∀ c, c ≠ 143 → X c = S.2 c) → Qr (some (.int 1)) (S.1, X)) : sX10_counts 156 [.ref 143, .int (nI d), .int way] S Qr Qx := by
  have v0 : ∀ x, x < 754 → vp_in (nI x) 754 := fun x hx => vp_nI hx
  have v1 : ∀ x y, x + y < 754 → vp_in (nI x + nI y) 754 := fun x y hx => by rw [nI_add]; exact vp_nI hx
  have hw : ∀ i, S.2 143 i = w i := fun i => by rw [hW]
  have vd : ∀ x, x < 9 → vp_in (nI 5 + nI 9 * nI d + nI x) 754 := fun x hx => by rw [ix2]; exact vp_nI (by omega)
  have vd1 := vd 1 (by decide)
  have vd2 := vd 2 (by decide)
  have vd3 := vd 3 (by decide)
  obtain ⟨op, eop⟩ : ∃ v, w (131 + 55 * d) = v := ⟨_, rfl⟩
  obtain ⟨of, eof⟩ : ∃ v, w ((131 + 55 * d) + 1) = v := ⟨_, rfl⟩
  obtain ⟨lo, elo⟩ : ∃ v, w ((131 + 55 * d) + 12) = v := ⟨_, rfl⟩
  obtain ⟨le, ele⟩ : ∃ v, w ((131 + 55 * d) + 13) = v := ⟨_, rfl⟩
  obtain ⟨fr, efr⟩ : ∃ v, w ((131 + 55 * d) + 14) = v := ⟨_, rfl⟩
  obtain ⟨fi, efi⟩ : ∃ v, fiW w d = v := ⟨_, rfl⟩
  obtain ⟨lk, elk⟩ : ∃ v, w (5 + 9 * d + 1) = v := ⟨_, rfl⟩
  obtain ⟨ra, era⟩ : ∃ v, w (5 + 9 * d + 2) = v := ⟨_, rfl⟩
  obtain ⟨sc, esc⟩ : ∃ v, w (5 + 9 * d + 3) = v := ⟨_, rfl⟩
  obtain ⟨cm, ecm⟩ : ∃ v, cmW w d = v := ⟨_, rfl⟩
  obtain ⟨nm, enm⟩ : ∃ v, nmW w d = v := ⟨_, rfl⟩
  have ffi : op + w ((131 + 55 * d) + 6) - lo - le = fi := by rw [← efi, ← eop, ← elo, ← ele]; rfl
  have fcm : fi + lo + (if fr < lk then 0 else le) - (if of < lk then 0 else op) = cm := by rw [← ecm, ← efi, ← eop, ← elo, ← ele, ← eof, ← efr, ← elk]; rfl
  have fnm : lessL lo (moreL 0 cm * ra / 100) = nm := by rw [← enm, ← ecm, ← elo, ← era]; rfl
  have fcan : canW w d way ↔ ¬ fi < 0 ∧ (way = 0 → op ≤ fi) := by unfold canW; rw [efi, eop]
  refine runM (ι := Nat × LL × Mem × Nat) rfl 300 0 [47, 85, 121, 177, 216, 288, 337, 359, 388] (fun a => a.1) (fun a => a.2.1) (fun a => a.2.2.1) (fun a => a.2.2.2)
    (fun a => a = (47, [(0, .ref 143), (1, .int (nI d)), (2, .int way), (3, .long op), (5, .long of), (7, .long lo), (9, .long le), (11, .long fr)], S, 900) ∨ (canW w d way ∧ a = (85, [(13, .long fi), (0, .ref 143), (1, .int (nI d)), (2, .int way), (3, .long op), (5, .long of), (7, .long lo), (9, .long le), (11, .long fr)], S, 800)) ∨ (canW w d way ∧ a = (121, [(17, .long ra), (15, .long lk), (19, .long sc), (13, .long fi), (0, .ref 143), (1, .int (nI d)), (2, .int way), (3, .long op), (5, .long of), (7, .long lo), (9, .long le), (11, .long fr)], S, 700)) ∨ (canW w d way ∧ a = (177, [(21, .long cm), (23, .long nm), (15, .long lk), (19, .long sc), (13, .long fi), (0, .ref 143), (1, .int (nI d)), (2, .int way), (3, .long op), (5, .long of), (7, .long lo), (9, .long le), (11, .long fr)], S, 600)) ∨
      (∃ k X sA sO pf ps al fn pl tl ts tf, canW w d way ∧ k ≤ 4 ∧ X 143 = cnR w d way k ∧ (∀ c, c ≠ 143 → X c = S.2 c) ∧ sumN (tsW w d way) k = sA ∧ sumN (tfW w d way) k = sO ∧ (a = (216, [(29, .int (nI k)), (25, .long sA), (27, .long sO), (15, .long lk), (19, .long sc), (13, .long fi), (0, .ref 143), (1, .int (nI d)), (2, .int way), (3, .long op), (5, .long of), (7, .long lo), (9, .long le), (11, .long fr)], (S.1, X), (4 - k) * 10 + 9) ∨ (k < 4 ∧ lfW w d k = pf ∧ lsW w d k = ps ∧ alW w d way k = al ∧ fnW w d way k = fn ∧ (a = (288, [(30, .long pf), (32, .long ps), (36, .long al), (34, .long fn), (29, .int (nI k)), (25, .long sA), (27, .long sO), (15, .long lk), (19, .long sc), (13, .long fi), (0, .ref 143), (1, .int (nI d)), (2, .int way), (3, .long op), (5, .long of), (7, .long lo), (9, .long le), (11, .long fr)], (S.1, X), (4 - k) * 10 + 8) ∨ (plW w d way k = pl ∧ (a = (337, [(38, .long pl), (30, .long pf), (32, .long ps), (36, .long al), (34, .long fn), (29, .int (nI k)), (25, .long sA), (27, .long sO), (15, .long lk), (19, .long sc), (13, .long fi), (0, .ref 143), (1, .int (nI d)), (2, .int way), (3, .long op), (5, .long of), (7, .long lo), (9, .long le), (11, .long fr)], (S.1, X), (4 - k) * 10 + 7) ∨ (tlW w d way k = tl ∧ tsW w d way k = ts ∧ (a = (359, [(40, .long tl), (42, .long ts), (38, .long pl), (30, .long pf), (32, .long ps), (36, .long al), (34, .long fn), (29, .int (nI k)), (25, .long sA), (27, .long sO), (15, .long lk), (19, .long sc), (13, .long fi), (0, .ref 143), (1, .int (nI d)), (2, .int way), (3, .long op), (5, .long of), (7, .long lo), (9, .long le), (11, .long fr)], (S.1, X), (4 - k) * 10 + 6) ∨ (tfW w d way k = tf ∧ a = (388, [(44, .long tf), (40, .long tl), (42, .long ts), (38, .long pl), (30, .long pf), (32, .long ps), (36, .long al), (34, .long fn), (29, .int (nI k)), (25, .long sA), (27, .long sO), (15, .long lk), (19, .long sc), (13, .long fi), (0, .ref 143), (1, .int (nI d)), (2, .int way), (3, .long op), (5, .long of), (7, .long lo), (9, .long le), (11, .long fr)], (S.1, X), (4 - k) * 10 + 5)))))))))))  ?_ ?_
  · rintro a (rfl | ⟨can, rfl⟩ | ⟨can, rfl⟩ | ⟨can, rfl⟩ | ⟨k, X, sA, sO, pf, ps, al, fn, pl, tl, ts, tf, can, hk, hX, hc, esA, esO, (rfl | ⟨hk4, epf, eps, eal, efn, (rfl | ⟨epl, (rfl | ⟨etl, ets, (rfl | ⟨etf, rfl⟩)⟩)⟩)⟩)⟩)
    · -- 47
      have hf : op + S.2 143 (nI ((131 + 55 * d) + 6)).toNatClampNeg - lo - le = fi := by rw [tri_rd hw (by omega)]; exact ffi
      refine ⟨⟨Nat.le_of_ble_eq_true rfl, Nat.le_of_ble_eq_true rfl, Nat.le_of_ble_eq_true rfl⟩, e_latest d 6 _ ⟨754, tTri, v0 _ (by omega), And.intro (fun q => ⟨Or.inl rfl, h0 (fun z => ?_)⟩) (fun q => And.intro (fun q2 => ?_) (fun q2 => And.intro (fun q3 => ?_) (fun q3 => ⟨Or.inl rfl, h0 (fun z => ?_)⟩)))⟩⟩
      · have q := (lg_cmp_lt _ _).mp q
        rw [hf] at q
        exact (fcan.mp z).1 q
      · have q : ¬ fi < 0 := fun z => q ((lg_cmp_lt _ _).mpr (by rw [hf]; exact z))
        exact ⟨rfl, rfl, (85, [(13, .long fi), (0, .ref 143), (1, .int (nI d)), (2, .int way), (3, .long op), (5, .long of), (7, .long lo), (9, .long le), (11, .long fr)], S, 800), rfl, ⟨Or.inr (Or.inl ⟨fcan.mpr ⟨q, fun z => absurd z q2⟩, rfl⟩), show 800 < 900 by decide⟩, rfl, congrArg (fun z => some (Value.long z)) hf, rfl, rfl, rfl, rfl, rfl, rfl, rfl, rfl, trivial⟩
      · have q : ¬ fi < 0 := fun z => q ((lg_cmp_lt _ _).mpr (by rw [hf]; exact z))
        have q3 : op ≤ fi := by rw [← hf]; exact (lg_cmp_ge _ _).mp q3
        exact ⟨rfl, rfl, (85, [(13, .long fi), (0, .ref 143), (1, .int (nI d)), (2, .int way), (3, .long op), (5, .long of), (7, .long lo), (9, .long le), (11, .long fr)], S, 800), rfl, ⟨Or.inr (Or.inl ⟨fcan.mpr ⟨q, fun _ => q3⟩, rfl⟩), show 800 < 900 by decide⟩, rfl, congrArg (fun z => some (Value.long z)) hf, rfl, rfl, rfl, rfl, rfl, rfl, rfl, rfl, trivial⟩
      · exact q3 ((lg_cmp_ge _ _).mpr (by rw [hf]; exact (fcan.mp z).2 q2))
    · -- 85
      exact ⟨754, tTri, vd1, 754, tTri, vd2, 754, tTri, vd3, rfl, rfl, (121, [(17, .long ra), (15, .long lk), (19, .long sc), (13, .long fi), (0, .ref 143), (1, .int (nI d)), (2, .int way), (3, .long op), (5, .long of), (7, .long lo), (9, .long le), (11, .long fr)], S, 700), rfl, ⟨Or.inr (Or.inr (Or.inl ⟨can, rfl⟩)), show 700 < 800 by decide⟩, rfl, congrArg (fun z => some (Value.long z)) ((tri_rd2 (x := 2) hw (by omega)).trans era), congrArg (fun z => some (Value.long z)) ((tri_rd2 (x := 1) hw (by omega)).trans elk), congrArg (fun z => some (Value.long z)) ((tri_rd2 (x := 3) hw (by omega)).trans esc), rfl, rfl, rfl, rfl, rfl, rfl, rfl, rfl, rfl, trivial⟩
    · -- 121
      have fin : ∀ x : Int64, x = cm → lessL lo (moreL 0 x * ra / 100) = nm := fun x e => by rw [e]; exact fnm
      refine And.intro (fun q => And.intro (fun q' => ?_) (fun q' => ?_)) (fun q => And.intro (fun q' => ?_) (fun q' => ?_))
      · have e : fi + lo + 0 - 0 = cm := by rw [← fcm, if_pos ((lg_cmp_lt _ _).mp q), if_pos ((lg_cmp_lt _ _).mp q')]
        exact ⟨⟨Nat.le_of_ble_eq_true rfl, Nat.le_of_ble_eq_true rfl, Nat.le_of_ble_eq_true rfl⟩, e_moreV (congrArg (moreL 0) e) _ ⟨(by decide), ⟨Nat.le_of_ble_eq_true rfl, Nat.le_of_ble_eq_true rfl, Nat.le_of_ble_eq_true rfl⟩, e_lessV fnm _ ⟨rfl, rfl, (177, [(21, .long cm), (23, .long nm), (15, .long lk), (19, .long sc), (13, .long fi), (0, .ref 143), (1, .int (nI d)), (2, .int way), (3, .long op), (5, .long of), (7, .long lo), (9, .long le), (11, .long fr)], S, 600), rfl, ⟨Or.inr (Or.inr (Or.inr (Or.inl ⟨can, rfl⟩))), show 600 < 700 by decide⟩, rfl, congrArg (fun z => some (Value.long z)) e, rfl, rfl, rfl, rfl, rfl, rfl, rfl, rfl, rfl, rfl, rfl, rfl, trivial⟩⟩⟩
      · have e : fi + lo + 0 - op = cm := by rw [← fcm, if_pos ((lg_cmp_lt _ _).mp q), if_neg (fun z => q' ((lg_cmp_lt _ _).mpr z))]
        exact ⟨⟨Nat.le_of_ble_eq_true rfl, Nat.le_of_ble_eq_true rfl, Nat.le_of_ble_eq_true rfl⟩, e_moreV (congrArg (moreL 0) e) _ ⟨(by decide), ⟨Nat.le_of_ble_eq_true rfl, Nat.le_of_ble_eq_true rfl, Nat.le_of_ble_eq_true rfl⟩, e_lessV fnm _ ⟨rfl, rfl, (177, [(21, .long cm), (23, .long nm), (15, .long lk), (19, .long sc), (13, .long fi), (0, .ref 143), (1, .int (nI d)), (2, .int way), (3, .long op), (5, .long of), (7, .long lo), (9, .long le), (11, .long fr)], S, 600), rfl, ⟨Or.inr (Or.inr (Or.inr (Or.inl ⟨can, rfl⟩))), show 600 < 700 by decide⟩, rfl, congrArg (fun z => some (Value.long z)) e, rfl, rfl, rfl, rfl, rfl, rfl, rfl, rfl, rfl, rfl, rfl, rfl, trivial⟩⟩⟩
      · have e : fi + lo + le - 0 = cm := by rw [← fcm, if_neg (fun z => q ((lg_cmp_lt _ _).mpr z)), if_pos ((lg_cmp_lt _ _).mp q')]
        exact ⟨⟨Nat.le_of_ble_eq_true rfl, Nat.le_of_ble_eq_true rfl, Nat.le_of_ble_eq_true rfl⟩, e_moreV (congrArg (moreL 0) e) _ ⟨(by decide), ⟨Nat.le_of_ble_eq_true rfl, Nat.le_of_ble_eq_true rfl, Nat.le_of_ble_eq_true rfl⟩, e_lessV fnm _ ⟨rfl, rfl, (177, [(21, .long cm), (23, .long nm), (15, .long lk), (19, .long sc), (13, .long fi), (0, .ref 143), (1, .int (nI d)), (2, .int way), (3, .long op), (5, .long of), (7, .long lo), (9, .long le), (11, .long fr)], S, 600), rfl, ⟨Or.inr (Or.inr (Or.inr (Or.inl ⟨can, rfl⟩))), show 600 < 700 by decide⟩, rfl, congrArg (fun z => some (Value.long z)) e, rfl, rfl, rfl, rfl, rfl, rfl, rfl, rfl, rfl, rfl, rfl, rfl, trivial⟩⟩⟩
      · have e : fi + lo + le - op = cm := by rw [← fcm, if_neg (fun z => q ((lg_cmp_lt _ _).mpr z)), if_neg (fun z => q' ((lg_cmp_lt _ _).mpr z))]
        exact ⟨⟨Nat.le_of_ble_eq_true rfl, Nat.le_of_ble_eq_true rfl, Nat.le_of_ble_eq_true rfl⟩, e_moreV (congrArg (moreL 0) e) _ ⟨(by decide), ⟨Nat.le_of_ble_eq_true rfl, Nat.le_of_ble_eq_true rfl, Nat.le_of_ble_eq_true rfl⟩, e_lessV fnm _ ⟨rfl, rfl, (177, [(21, .long cm), (23, .long nm), (15, .long lk), (19, .long sc), (13, .long fi), (0, .ref 143), (1, .int (nI d)), (2, .int way), (3, .long op), (5, .long of), (7, .long lo), (9, .long le), (11, .long fr)], S, 600), rfl, ⟨Or.inr (Or.inr (Or.inr (Or.inl ⟨can, rfl⟩))), show 600 < 700 by decide⟩, rfl, congrArg (fun z => some (Value.long z)) e, rfl, rfl, rfl, rfl, rfl, rfl, rfl, rfl, rfl, rfl, rfl, rfl, trivial⟩⟩⟩
    · -- 177
      refine ⟨⟨Nat.le_of_ble_eq_true rfl, Nat.le_of_ble_eq_true rfl, Nat.le_of_ble_eq_true rfl⟩, e_latest d 15 _ ⟨754, tTri, v0 _ (by omega), ⟨Nat.le_of_ble_eq_true rfl, Nat.le_of_ble_eq_true rfl, Nat.le_of_ble_eq_true rfl⟩, e_latest d 16 _ ⟨754, tTri, v0 _ (by omega), ⟨Nat.le_of_ble_eq_true rfl, Nat.le_of_ble_eq_true rfl, Nat.le_of_ble_eq_true rfl⟩, e_latest d 17 _ ⟨754, tTri, v0 _ (by omega), rfl, rfl, (216, [(29, .int (nI 0)), (25, .long 0), (27, .long 0), (15, .long lk), (19, .long sc), (13, .long fi), (0, .ref 143), (1, .int (nI d)), (2, .int way), (3, .long op), (5, .long of), (7, .long lo), (9, .long le), (11, .long fr)], (S.1, u2 (u2 (u2 S.2 143 (nI ((131 + 55 * d) + 15)).toNatClampNeg fi) 143 (nI ((131 + 55 * d) + 16)).toNatClampNeg nm) 143 (nI ((131 + 55 * d) + 17)).toNatClampNeg cm), (4 - 0) * 10 + 9), rfl, ⟨Or.inr (Or.inr (Or.inr (Or.inr ⟨0, _, 0, 0, 0, 0, 0, 0, 0, 0, 0, 0, can, (by decide), ?_, fun c hc => ?_, rfl, rfl, Or.inl rfl⟩))), show (4 - 0) * 10 + 9 < 600 by decide⟩, rfl, rfl, rfl, rfl, rfl, rfl, rfl, rfl, rfl, rfl, rfl, rfl, rfl, rfl, rfl, trivial⟩⟩⟩⟩
      · rw [u2_rowL, u2_rowL, u2_rowL, nI_clamp (by omega), nI_clamp (by omega), nI_clamp (by omega), hW, ← efi, ← enm, ← ecm]
        rfl
      · rw [u2_other _ _ _ hc, u2_other _ _ _ hc, u2_other _ _ _ hc]
    · -- 216
      have hX' : ∀ i, i < (131 + 55 * d) + 15 ∨ (131 + 55 * d) + 50 ≤ i → X 143 i = w i := fun i hi => by rw [hX]; exact cnR_o w d way k hk i hi
      refine And.intro (fun q => ?_) (fun q => ?_)
      · have q : nI 4 ≤ nI k := q
        obtain rfl := le_of_nI (by decide) hk q
        obtain ⟨c1, c2, c3⟩ := cnR_h w d way 4 (by decide)
        have g1 : X 143 ((131 + 55 * d) + 12) = lo := (hX' _ (by omega)).trans elo
        have g2 : X 143 ((131 + 55 * d) + 16) = nm := by rw [hX, c2]; exact enm
        have g3 : X 143 ((131 + 55 * d) + 15) = fi := by rw [hX, c1]; exact efi
        have fA : cAL w d way = sA := esA
        have fO : cOU w d way = sO := esO
        have rest : ∀ lt : Int64, ltW w d = lt → ∀ Y, Y 143 = losR (X 143) (131 + 55 * d) (cNT w d way) (cTL w d way) (lsA sA (cFN w d way) nm lo sc (cNT w d way) lt fi) (lo * sc) (lsO sO (cNT w d way) (cTL w d way) lt fi) → (∀ c, c ≠ 143 → Y c = X c) → Qr (some (.int 1)) (S.1, Y) := fun lt hlt Y y1 y2 => by
          refine h1 can Y (y1.trans ?_) (fun c hc' => (y2 c hc').trans (hc c hc'))
          rw [hX, ← hlt, ← fA, ← fO, ← enm, ← elo, ← esc, ← efi]
          rfl
        have eF : cut sA nm lo = cFN w d way := by rw [← fA, ← enm, ← elo]; rfl
        have eN : lsN (cFN w d way) nm sc = cNT w d way := by rw [← enm, ← esc]; rfl
        have eT : ∀ lt : Int64, ltW w d = lt → lsT (cNT w d way) lt fi = cTL w d way := fun lt hlt => by rw [← hlt, ← efi]; rfl
        refine And.intro (fun q' => ?_) (fun q' => ?_)
        · have e : ltW w d = 0 := by unfold ltW; rw [efr, elk, if_pos ((lg_cmp_lt _ _).mp q')]
          exact ⟨⟨Nat.le_of_ble_eq_true rfl, Nat.le_of_ble_eq_true rfl, Nat.le_of_ble_eq_true rfl⟩, e_losses hd sA sO 0 sc lo nm fi _ _ _ (S.1, X) g1 g2 g3 eF eN (eT 0 e) (fun Y y1 y2 => ⟨Or.inr rfl, rest 0 e Y y1 y2⟩)⟩
        · have e : ltW w d = le := by unfold ltW; rw [efr, elk, ele, if_neg (fun z => q' ((lg_cmp_lt _ _).mpr z))]
          exact ⟨⟨Nat.le_of_ble_eq_true rfl, Nat.le_of_ble_eq_true rfl, Nat.le_of_ble_eq_true rfl⟩, e_losses hd sA sO le sc lo nm fi _ _ _ (S.1, X) g1 g2 g3 eF eN (eT le e) (fun Y y1 y2 => ⟨Or.inr rfl, rest le e Y y1 y2⟩)⟩
      · have q : ¬ nI 4 ≤ nI k := q
        have hk4 := lt_of_nI (by decide) hk q
        have dn : ∀ f, dnW (X 143) d k f = dnW w d k f := fun f => dnW_congr (fun i _ hi => hX' i (by omega)) hk4 f
        obtain ⟨pf, epf⟩ : ∃ v, lfW w d k = v := ⟨_, rfl⟩
        obtain ⟨ps, eps⟩ : ∃ v, lsW w d k = v := ⟨_, rfl⟩
        obtain ⟨al, eal⟩ : ∃ v, alW w d way k = v := ⟨_, rfl⟩
        obtain ⟨fn, efn⟩ : ∃ v, fnW w d way k = v := ⟨_, rfl⟩
        obtain ⟨d1, e1⟩ : ∃ v, dnW w d k fr = v := ⟨_, rfl⟩
        obtain ⟨d2, e2⟩ : ∃ v, dnW w d k lk = v := ⟨_, rfl⟩
        obtain ⟨d3, e3⟩ : ∃ v, dnW w d k of = v := ⟨_, rfl⟩
        have a1 : le * d1 = pf := by rw [← epf, ← e1, ← ele, ← efr]; rfl
        have a2 : lo * d2 = ps := by rw [← eps, ← e2, ← elo, ← elk]; rfl
        have a3 : 100 * fi - (if way = 0 then op * d3 else 0) = fn := by rw [← efn, ← e3, ← eop, ← eof, ← efi]; rfl
        have a4 : pf + ps + fn = al := by rw [← epf, ← eps, ← efn, ← eal]; rfl
        refine ⟨⟨Nat.le_of_ble_eq_true rfl, Nat.le_of_ble_eq_true rfl, Nat.le_of_ble_eq_true rfl⟩, e_mdoneV hd hk4 (S.1, X) ((dn fr).trans e1) ⟨⟨Nat.le_of_ble_eq_true rfl, Nat.le_of_ble_eq_true rfl, Nat.le_of_ble_eq_true rfl⟩, e_mdoneV hd hk4 (S.1, X) ((dn lk).trans e2) (And.intro (fun q' => ?_) (fun q' => ⟨⟨Nat.le_of_ble_eq_true rfl, Nat.le_of_ble_eq_true rfl, Nat.le_of_ble_eq_true rfl⟩, e_mdoneV hd hk4 (S.1, X) ((dn of).trans e3) ?_⟩))⟩⟩
        · have b3 : 100 * fi - 0 = fn := by rw [← a3, if_neg q']
          have b4 : le * d1 + lo * d2 + (100 * fi - 0) = al := by rw [a1, a2, b3]; exact a4
          exact ⟨rfl, rfl, (288, [(30, .long pf), (32, .long ps), (36, .long al), (34, .long fn), (29, .int (nI k)), (25, .long sA), (27, .long sO), (15, .long lk), (19, .long sc), (13, .long fi), (0, .ref 143), (1, .int (nI d)), (2, .int way), (3, .long op), (5, .long of), (7, .long lo), (9, .long le), (11, .long fr)], (S.1, X), (4 - k) * 10 + 8), rfl, ⟨Or.inr (Or.inr (Or.inr (Or.inr ⟨k, X, sA, sO, pf, ps, al, fn, 0, 0, 0, 0, can, hk, hX, hc, esA, esO, Or.inr ⟨hk4, epf, eps, eal, efn, Or.inl rfl⟩⟩))), show (4 - k) * 10 + 8 < (4 - k) * 10 + 9 by omega⟩, rfl, congrArg (fun z => some (Value.long z)) a1, congrArg (fun z => some (Value.long z)) a2, congrArg (fun z => some (Value.long z)) b4, congrArg (fun z => some (Value.long z)) b3, rfl, rfl, rfl, rfl, rfl, rfl, rfl, rfl, rfl, rfl, rfl, rfl, rfl, rfl, trivial⟩
        · have b3 : 100 * fi - op * d3 = fn := by rw [← a3, if_pos q']
          have b4 : le * d1 + lo * d2 + (100 * fi - op * d3) = al := by rw [a1, a2, b3]; exact a4
          exact ⟨rfl, rfl, (288, [(30, .long pf), (32, .long ps), (36, .long al), (34, .long fn), (29, .int (nI k)), (25, .long sA), (27, .long sO), (15, .long lk), (19, .long sc), (13, .long fi), (0, .ref 143), (1, .int (nI d)), (2, .int way), (3, .long op), (5, .long of), (7, .long lo), (9, .long le), (11, .long fr)], (S.1, X), (4 - k) * 10 + 8), rfl, ⟨Or.inr (Or.inr (Or.inr (Or.inr ⟨k, X, sA, sO, pf, ps, al, fn, 0, 0, 0, 0, can, hk, hX, hc, esA, esO, Or.inr ⟨hk4, epf, eps, eal, efn, Or.inl rfl⟩⟩))), show (4 - k) * 10 + 8 < (4 - k) * 10 + 9 by omega⟩, rfl, congrArg (fun z => some (Value.long z)) a1, congrArg (fun z => some (Value.long z)) a2, congrArg (fun z => some (Value.long z)) b4, congrArg (fun z => some (Value.long z)) b3, rfl, rfl, rfl, rfl, rfl, rfl, rfl, rfl, rfl, rfl, rfl, rfl, rfl, rfl, trivial⟩
    · -- 288
      have hX' : ∀ i, i < (131 + 55 * d) + 15 ∨ (131 + 55 * d) + 50 ≤ i → X 143 i = w i := fun i hi => by rw [hX]; exact cnR_o w d way k hk i hi
      obtain ⟨pl, epl⟩ : ∃ v, plW w d way k = v := ⟨_, rfl⟩
      obtain ⟨p1, ep1⟩ : ∃ v, (if k = 0 then w ((131 + 55 * d) + 7) else w ((131 + 55 * d) + (8 + k))) = v := ⟨_, rfl⟩
      obtain ⟨p2, ep2⟩ : ∃ v, w ((131 + 55 * d) + (2 + k)) = v := ⟨_, rfl⟩
      have ff : p1 + (if way = 1 then p2 else 0) = pl := by rw [← epl, ← ep1, ← ep2]; rfl
      have r2 : X 143 (nI ((131 + 55 * d) + (2 + k))).toNatClampNeg = p2 := by rw [nI_clamp (by omega)]; exact (hX' _ (by omega)).trans ep2
      have n2 : nI 2 + nI k = nI (2 + k) := nI_add _ _
      have n8 : nI 8 + nI k = nI (8 + k) := nI_add _ _
      refine And.intro (fun q => ⟨⟨Nat.le_of_ble_eq_true rfl, Nat.le_of_ble_eq_true rfl, Nat.le_of_ble_eq_true rfl⟩, e_latestV n8 _ ⟨754, tTri, v0 _ (by omega), And.intro (fun q' => ?_) (fun q' => ⟨⟨Nat.le_of_ble_eq_true rfl, Nat.le_of_ble_eq_true rfl, Nat.le_of_ble_eq_true rfl⟩, e_latestV n2 _ ⟨754, tTri, v0 _ (by omega), ?_⟩⟩)⟩⟩) (fun q => ⟨⟨Nat.le_of_ble_eq_true rfl, Nat.le_of_ble_eq_true rfl, Nat.le_of_ble_eq_true rfl⟩, e_latest d 7 _ ⟨754, tTri, v0 _ (by omega), And.intro (fun q' => ?_) (fun q' => ⟨⟨Nat.le_of_ble_eq_true rfl, Nat.le_of_ble_eq_true rfl, Nat.le_of_ble_eq_true rfl⟩, e_latestV n2 _ ⟨754, tTri, v0 _ (by omega), ?_⟩⟩)⟩⟩)
      · have q : ¬ k = 0 := fun z => q (by rw [z]; rfl)
        have r1 : X 143 (nI ((131 + 55 * d) + (8 + k))).toNatClampNeg = p1 := by rw [nI_clamp (by omega), ← ep1, if_neg q]; exact hX' _ (by omega)
        have g1 : X 143 (nI ((131 + 55 * d) + (8 + k))).toNatClampNeg + 0 = pl := by rw [r1, ← ff, if_neg q']
        exact ⟨rfl, rfl, (337, [(38, .long pl), (30, .long pf), (32, .long ps), (36, .long al), (34, .long fn), (29, .int (nI k)), (25, .long sA), (27, .long sO), (15, .long lk), (19, .long sc), (13, .long fi), (0, .ref 143), (1, .int (nI d)), (2, .int way), (3, .long op), (5, .long of), (7, .long lo), (9, .long le), (11, .long fr)], (S.1, X), (4 - k) * 10 + 7), rfl, ⟨Or.inr (Or.inr (Or.inr (Or.inr ⟨k, X, sA, sO, pf, ps, al, fn, pl, 0, 0, 0, can, hk, hX, hc, esA, esO, Or.inr ⟨hk4, epf, eps, eal, efn, Or.inr ⟨epl, Or.inl rfl⟩⟩⟩))), show (4 - k) * 10 + 7 < (4 - k) * 10 + 8 by omega⟩, rfl, congrArg (fun z => some (Value.long z)) g1, rfl, rfl, rfl, rfl, rfl, rfl, rfl, rfl, rfl, rfl, rfl, rfl, rfl, rfl, rfl, rfl, rfl, rfl, trivial⟩
      · have q : ¬ k = 0 := fun z => q (by rw [z]; rfl)
        have r1 : X 143 (nI ((131 + 55 * d) + (8 + k))).toNatClampNeg = p1 := by rw [nI_clamp (by omega), ← ep1, if_neg q]; exact hX' _ (by omega)
        have g1 : X 143 (nI ((131 + 55 * d) + (8 + k))).toNatClampNeg + X 143 (nI ((131 + 55 * d) + (2 + k))).toNatClampNeg = pl := by rw [r1, r2, ← ff, if_pos q']
        exact ⟨rfl, rfl, (337, [(38, .long pl), (30, .long pf), (32, .long ps), (36, .long al), (34, .long fn), (29, .int (nI k)), (25, .long sA), (27, .long sO), (15, .long lk), (19, .long sc), (13, .long fi), (0, .ref 143), (1, .int (nI d)), (2, .int way), (3, .long op), (5, .long of), (7, .long lo), (9, .long le), (11, .long fr)], (S.1, X), (4 - k) * 10 + 7), rfl, ⟨Or.inr (Or.inr (Or.inr (Or.inr ⟨k, X, sA, sO, pf, ps, al, fn, pl, 0, 0, 0, can, hk, hX, hc, esA, esO, Or.inr ⟨hk4, epf, eps, eal, efn, Or.inr ⟨epl, Or.inl rfl⟩⟩⟩))), show (4 - k) * 10 + 7 < (4 - k) * 10 + 8 by omega⟩, rfl, congrArg (fun z => some (Value.long z)) g1, rfl, rfl, rfl, rfl, rfl, rfl, rfl, rfl, rfl, rfl, rfl, rfl, rfl, rfl, rfl, rfl, rfl, rfl, trivial⟩
      · have q : k = 0 := (nI_eq (by omega) (by decide)).mp q
        have r1 : X 143 (nI ((131 + 55 * d) + 7)).toNatClampNeg = p1 := by rw [nI_clamp (by omega), ← ep1, if_pos q]; exact hX' _ (by omega)
        have g1 : X 143 (nI ((131 + 55 * d) + 7)).toNatClampNeg + 0 = pl := by rw [r1, ← ff, if_neg q']
        exact ⟨rfl, rfl, (337, [(38, .long pl), (30, .long pf), (32, .long ps), (36, .long al), (34, .long fn), (29, .int (nI k)), (25, .long sA), (27, .long sO), (15, .long lk), (19, .long sc), (13, .long fi), (0, .ref 143), (1, .int (nI d)), (2, .int way), (3, .long op), (5, .long of), (7, .long lo), (9, .long le), (11, .long fr)], (S.1, X), (4 - k) * 10 + 7), rfl, ⟨Or.inr (Or.inr (Or.inr (Or.inr ⟨k, X, sA, sO, pf, ps, al, fn, pl, 0, 0, 0, can, hk, hX, hc, esA, esO, Or.inr ⟨hk4, epf, eps, eal, efn, Or.inr ⟨epl, Or.inl rfl⟩⟩⟩))), show (4 - k) * 10 + 7 < (4 - k) * 10 + 8 by omega⟩, rfl, congrArg (fun z => some (Value.long z)) g1, rfl, rfl, rfl, rfl, rfl, rfl, rfl, rfl, rfl, rfl, rfl, rfl, rfl, rfl, rfl, rfl, rfl, rfl, trivial⟩
      · have q : k = 0 := (nI_eq (by omega) (by decide)).mp q
        have r1 : X 143 (nI ((131 + 55 * d) + 7)).toNatClampNeg = p1 := by rw [nI_clamp (by omega), ← ep1, if_pos q]; exact hX' _ (by omega)
        have g1 : X 143 (nI ((131 + 55 * d) + 7)).toNatClampNeg + X 143 (nI ((131 + 55 * d) + (2 + k))).toNatClampNeg = pl := by rw [r1, r2, ← ff, if_pos q']
        exact ⟨rfl, rfl, (337, [(38, .long pl), (30, .long pf), (32, .long ps), (36, .long al), (34, .long fn), (29, .int (nI k)), (25, .long sA), (27, .long sO), (15, .long lk), (19, .long sc), (13, .long fi), (0, .ref 143), (1, .int (nI d)), (2, .int way), (3, .long op), (5, .long of), (7, .long lo), (9, .long le), (11, .long fr)], (S.1, X), (4 - k) * 10 + 7), rfl, ⟨Or.inr (Or.inr (Or.inr (Or.inr ⟨k, X, sA, sO, pf, ps, al, fn, pl, 0, 0, 0, can, hk, hX, hc, esA, esO, Or.inr ⟨hk4, epf, eps, eal, efn, Or.inr ⟨epl, Or.inl rfl⟩⟩⟩))), show (4 - k) * 10 + 7 < (4 - k) * 10 + 8 by omega⟩, rfl, congrArg (fun z => some (Value.long z)) g1, rfl, rfl, rfl, rfl, rfl, rfl, rfl, rfl, rfl, rfl, rfl, rfl, rfl, rfl, rfl, rfl, rfl, rfl, trivial⟩
    · -- 337
      obtain ⟨tl, etl⟩ : ∃ v, tlW w d way k = v := ⟨_, rfl⟩
      obtain ⟨ts, ets⟩ : ∃ v, tsW w d way k = v := ⟨_, rfl⟩
      have c1 : cut pl pf al = tl := by rw [← etl, ← epl, ← epf, ← eal]; rfl
      have c2 : cut pl ps al = ts := by rw [← ets, ← epl, ← eps, ← eal]; rfl
      exact ⟨⟨Nat.le_of_ble_eq_true rfl, Nat.le_of_ble_eq_true rfl, Nat.le_of_ble_eq_true rfl⟩, e_mcutV c1 _ ⟨⟨Nat.le_of_ble_eq_true rfl, Nat.le_of_ble_eq_true rfl, Nat.le_of_ble_eq_true rfl⟩, e_mcutV c2 _ ⟨rfl, rfl, (359, [(40, .long tl), (42, .long ts), (38, .long pl), (30, .long pf), (32, .long ps), (36, .long al), (34, .long fn), (29, .int (nI k)), (25, .long sA), (27, .long sO), (15, .long lk), (19, .long sc), (13, .long fi), (0, .ref 143), (1, .int (nI d)), (2, .int way), (3, .long op), (5, .long of), (7, .long lo), (9, .long le), (11, .long fr)], (S.1, X), (4 - k) * 10 + 6), rfl, ⟨Or.inr (Or.inr (Or.inr (Or.inr ⟨k, X, sA, sO, pf, ps, al, fn, pl, tl, ts, 0, can, hk, hX, hc, esA, esO, Or.inr ⟨hk4, epf, eps, eal, efn, Or.inr ⟨epl, Or.inr ⟨etl, ets, Or.inl rfl⟩⟩⟩⟩))), show (4 - k) * 10 + 6 < (4 - k) * 10 + 7 by omega⟩, rfl, rfl, rfl, rfl, rfl, rfl, rfl, rfl, rfl, rfl, rfl, rfl, rfl, rfl, rfl, rfl, rfl, rfl, rfl, rfl, rfl, rfl, trivial⟩⟩⟩
    · -- 359
      have hX' : ∀ i, i < (131 + 55 * d) + 15 ∨ (131 + 55 * d) + 50 ≤ i → X 143 i = w i := fun i hi => by rw [hX]; exact cnR_o w d way k hk i hi
      obtain ⟨tf, etf⟩ : ∃ v, tfW w d way k = v := ⟨_, rfl⟩
      obtain ⟨p2, ep2⟩ : ∃ v, w ((131 + 55 * d) + (2 + k)) = v := ⟨_, rfl⟩
      have ff : pl - tl - ts + (if way = 0 then p2 else 0) = tf := by rw [← etf, ← epl, ← etl, ← ets, ← ep2]; rfl
      have r2 : X 143 (nI ((131 + 55 * d) + (2 + k))).toNatClampNeg = p2 := by rw [nI_clamp (by omega)]; exact (hX' _ (by omega)).trans ep2
      have n2 : nI 2 + nI k = nI (2 + k) := nI_add _ _
      refine And.intro (fun q' => ?_) (fun q' => ⟨⟨Nat.le_of_ble_eq_true rfl, Nat.le_of_ble_eq_true rfl, Nat.le_of_ble_eq_true rfl⟩, e_latestV n2 _ ⟨754, tTri, v0 _ (by omega), ?_⟩⟩)
      · have g1 : pl - tl - ts + 0 = tf := by rw [← ff, if_neg q']
        exact ⟨rfl, rfl, (388, [(44, .long tf), (40, .long tl), (42, .long ts), (38, .long pl), (30, .long pf), (32, .long ps), (36, .long al), (34, .long fn), (29, .int (nI k)), (25, .long sA), (27, .long sO), (15, .long lk), (19, .long sc), (13, .long fi), (0, .ref 143), (1, .int (nI d)), (2, .int way), (3, .long op), (5, .long of), (7, .long lo), (9, .long le), (11, .long fr)], (S.1, X), (4 - k) * 10 + 5), rfl, ⟨Or.inr (Or.inr (Or.inr (Or.inr ⟨k, X, sA, sO, pf, ps, al, fn, pl, tl, ts, tf, can, hk, hX, hc, esA, esO, Or.inr ⟨hk4, epf, eps, eal, efn, Or.inr ⟨epl, Or.inr ⟨etl, ets, Or.inr ⟨etf, rfl⟩⟩⟩⟩⟩))), show (4 - k) * 10 + 5 < (4 - k) * 10 + 6 by omega⟩, rfl, congrArg (fun z => some (Value.long z)) g1, rfl, rfl, rfl, rfl, rfl, rfl, rfl, rfl, rfl, rfl, rfl, rfl, rfl, rfl, rfl, rfl, rfl, rfl, rfl, rfl, rfl, trivial⟩
      · have g1 : pl - tl - ts + X 143 (nI ((131 + 55 * d) + (2 + k))).toNatClampNeg = tf := by rw [r2, ← ff, if_pos q']
        exact ⟨rfl, rfl, (388, [(44, .long tf), (40, .long tl), (42, .long ts), (38, .long pl), (30, .long pf), (32, .long ps), (36, .long al), (34, .long fn), (29, .int (nI k)), (25, .long sA), (27, .long sO), (15, .long lk), (19, .long sc), (13, .long fi), (0, .ref 143), (1, .int (nI d)), (2, .int way), (3, .long op), (5, .long of), (7, .long lo), (9, .long le), (11, .long fr)], (S.1, X), (4 - k) * 10 + 5), rfl, ⟨Or.inr (Or.inr (Or.inr (Or.inr ⟨k, X, sA, sO, pf, ps, al, fn, pl, tl, ts, tf, can, hk, hX, hc, esA, esO, Or.inr ⟨hk4, epf, eps, eal, efn, Or.inr ⟨epl, Or.inr ⟨etl, ets, Or.inr ⟨etf, rfl⟩⟩⟩⟩⟩))), show (4 - k) * 10 + 5 < (4 - k) * 10 + 6 by omega⟩, rfl, congrArg (fun z => some (Value.long z)) g1, rfl, rfl, rfl, rfl, rfl, rfl, rfl, rfl, rfl, rfl, rfl, rfl, rfl, rfl, rfl, rfl, rfl, rfl, rfl, rfl, rfl, trivial⟩
    · -- 388
      have na : nI 18 + nI 4 * nI k = nI (18 + 4 * k) := by rw [pk_mul, nI_add]
      have nc : nI 34 + nI 4 * nI k = nI (34 + 4 * k) := by rw [pk_mul, nI_add]
      refine ⟨⟨Nat.le_of_ble_eq_true rfl, Nat.le_of_ble_eq_true rfl, Nat.le_of_ble_eq_true rfl⟩, e_latestV na _ ⟨⟨Nat.le_of_ble_eq_true rfl, Nat.le_of_ble_eq_true rfl, Nat.le_of_ble_eq_true rfl⟩, e_latestV nc _ ⟨754, tTri, v0 _ (by omega), 754, tTri, v1 _ 1 (by omega), 754, tTri, v1 _ 2 (by omega), 754, tTri, v1 _ 3 (by omega), 754, tTri, v0 _ (by omega), 754, tTri, v1 _ 1 (by omega), 754, tTri, v1 _ 2 (by omega), 754, tTri, v1 _ 3 (by omega), ?_⟩⟩⟩
      have fin : ∀ Y, Y = u2 (u2 (u2 (u2 (u2 (u2 (u2 (u2 X 143 (nI ((131 + 55 * d) + (18 + 4 * k))).toNatClampNeg al) 143 (nI ((131 + 55 * d) + (18 + 4 * k)) + nI 1).toNatClampNeg fn) 143 (nI ((131 + 55 * d) + (18 + 4 * k)) + nI 2).toNatClampNeg pf) 143 (nI ((131 + 55 * d) + (18 + 4 * k)) + nI 3).toNatClampNeg ps) 143 (nI ((131 + 55 * d) + (34 + 4 * k))).toNatClampNeg pl) 143 (nI ((131 + 55 * d) + (34 + 4 * k)) + nI 1).toNatClampNeg tf) 143 (nI ((131 + 55 * d) + (34 + 4 * k)) + nI 2).toNatClampNeg tl) 143 (nI ((131 + 55 * d) + (34 + 4 * k)) + nI 3).toNatClampNeg ts → Y 143 = cnR w d way (k + 1) ∧ ∀ c, c ≠ 143 → Y c = S.2 c := fun Y hY => by
        obtain ⟨y1, y2⟩ := cnY X ((131 + 55 * d) + (18 + 4 * k)) ((131 + 55 * d) + (34 + 4 * k)) (by omega) (by omega) _ _ _ _ _ _ _ _ Y hY
        refine ⟨y1.trans ?_, fun c hc' => (y2 c hc').trans (hc c hc')⟩
        rw [hX, ← eal, ← efn, ← epf, ← eps, ← epl, ← etf, ← etl, ← ets]
        rfl
      obtain ⟨Y, eY⟩ : ∃ Y, Y = u2 (u2 (u2 (u2 (u2 (u2 (u2 (u2 X 143 (nI ((131 + 55 * d) + (18 + 4 * k))).toNatClampNeg al) 143 (nI ((131 + 55 * d) + (18 + 4 * k)) + nI 1).toNatClampNeg fn) 143 (nI ((131 + 55 * d) + (18 + 4 * k)) + nI 2).toNatClampNeg pf) 143 (nI ((131 + 55 * d) + (18 + 4 * k)) + nI 3).toNatClampNeg ps) 143 (nI ((131 + 55 * d) + (34 + 4 * k))).toNatClampNeg pl) 143 (nI ((131 + 55 * d) + (34 + 4 * k)) + nI 1).toNatClampNeg tf) 143 (nI ((131 + 55 * d) + (34 + 4 * k)) + nI 2).toNatClampNeg tl) 143 (nI ((131 + 55 * d) + (34 + 4 * k)) + nI 3).toNatClampNeg ts := ⟨_, rfl⟩
      obtain ⟨f1, f2⟩ := fin Y eY
      have s1 : sumN (tsW w d way) (k + 1) = sA + ts := by rw [← esA, ← ets]; rfl
      have s2 : sumN (tfW w d way) (k + 1) = sO + tf := by rw [← esO, ← etf]; rfl
      exact ⟨rfl, rfl, (216, [(29, .int (nI (k + 1))), (25, .long (sA + ts)), (27, .long (sO + tf)), (15, .long lk), (19, .long sc), (13, .long fi), (0, .ref 143), (1, .int (nI d)), (2, .int way), (3, .long op), (5, .long of), (7, .long lo), (9, .long le), (11, .long fr)], (S.1, Y), (4 - (k + 1)) * 10 + 9), rfl, ⟨Or.inr (Or.inr (Or.inr (Or.inr ⟨k + 1, Y, sA + ts, sO + tf, 0, 0, 0, 0, 0, 0, 0, 0, can, hk4, f1, f2, s1, s2, Or.inl rfl⟩))), show (4 - (k + 1)) * 10 + 9 < (4 - k) * 10 + 5 by omega⟩, congrArg (fun z => (S.1, z)) eY.symm, congrArg (fun z => some (Value.int z)) (nI_succ k).symm, rfl, rfl, rfl, rfl, rfl, rfl, rfl, rfl, rfl, rfl, rfl, rfl, rfl, trivial⟩
  · exact ⟨⟨Nat.le_of_ble_eq_true rfl, Nat.le_of_ble_eq_true rfl, Nat.le_of_ble_eq_true rfl⟩, e_latest d 0 _ ⟨754, tTri, v0 _ (by omega), ⟨Nat.le_of_ble_eq_true rfl, Nat.le_of_ble_eq_true rfl, Nat.le_of_ble_eq_true rfl⟩, e_latest d 1 _ ⟨754, tTri, v0 _ (by omega), ⟨Nat.le_of_ble_eq_true rfl, Nat.le_of_ble_eq_true rfl, Nat.le_of_ble_eq_true rfl⟩, e_latest d 12 _ ⟨754, tTri, v0 _ (by omega), ⟨Nat.le_of_ble_eq_true rfl, Nat.le_of_ble_eq_true rfl, Nat.le_of_ble_eq_true rfl⟩, e_latest d 13 _ ⟨754, tTri, v0 _ (by omega), ⟨Nat.le_of_ble_eq_true rfl, Nat.le_of_ble_eq_true rfl, Nat.le_of_ble_eq_true rfl⟩, e_latest d 14 _ ⟨754, tTri, v0 _ (by omega), rfl, rfl, (47, [(0, .ref 143), (1, .int (nI d)), (2, .int way), (3, .long op), (5, .long of), (7, .long lo), (9, .long le), (11, .long fr)], S, 900), rfl, Or.inl rfl, rfl, rfl, rfl, rfl, congrArg (fun z => some (Value.long z)) ((tri_rd hw (by omega)).trans eop), congrArg (fun z => some (Value.long z)) ((tri_rd hw (by omega)).trans eof), congrArg (fun z => some (Value.long z)) ((tri_rd hw (by omega)).trans elo), congrArg (fun z => some (Value.long z)) ((tri_rd hw (by omega)).trans ele), congrArg (fun z => some (Value.long z)) ((tri_rd hw (by omega)).trans efr), trivial⟩⟩⟩⟩⟩⟩
