/-! ===== acts of the class: start, lost, left, spend, undo ===== -/
theorem e_saveR {nx : Nat} {H : HL} {w : Nat → Int64} {n m : Nat} {ns : Nat → Nat} (S : Mem) (hR : hisR S H nx) (hD : deskR S w n m ns) {Qr : QR} {Qx : QX} (h : ∀ S', hisP S' w H → deskR S' w n m ns → (∀ c, c < 103 ∨ 121 ≤ c → S'.1 c = S.1 c ∧ S'.2 c = S.2 c) → Qr none S') : vsp 156 1 (sX1_save 156) [.ref 1, .ref (103 + 2 * nx)] (u2 S.1 (103 + 2 * nx) 1 0, S.2) Qr Qx := by
  obtain ⟨a, b, c, d, f⟩ := hR
  have e := PW_nil S (103 + 2 * nx)
  rw [← e]
  refine e_dskSave (isRow_at nx a) (by omega) S hD.dN ?_
  have fr : ∀ c, c < 103 ∨ 121 ≤ c → (PW S (103 + 2 * nx) 0 (dskL S n m ns)).1 c = S.1 c ∧ (PW S (103 + 2 * nx) 0 (dskL S n m ns)).2 c = S.2 c := fun c hc => ⟨funext fun j => PW_I j (by omega), funext fun j => PW_X j (by omega)⟩
  refine h _ ⟨nx, ⟨a, by rw [(fr 101 (by decide)).1]; exact b, by rw [(fr 101 (by decide)).1]; exact c, d, fun i hi => ?_⟩, ⟨S, n, m, ns, hD, ?_⟩⟩ (hD.same (sameDesk_of hD.1.2.1 hD.1.2.2.2.1 (fun c x y => fr c (by omega)))) fr
  · have : (PW S (103 + 2 * nx) 0 (dskL S n m ns)).2 (104 + 2 * ((nx + 8 - i) % 9)) = S.2 (104 + 2 * ((nx + 8 - i) % 9)) := funext fun j => PW_X j (by omega)
    rw [this]; exact f i hi
  · have := rowHas_PW S (103 + 2 * nx) (dskL S n m ns)
    rw [show 103 + 2 * nx + 1 = 104 + 2 * nx by omega] at this
    exact this
theorem e_backR {nx : Nat} {H : HL} {w : Nat → Int64} (S : Mem) (hR : hisR S H nx) (g : rowO (S.2 (104 + 2 * nx)) w) {Qr : QR} {Qx : QX} (h : ∀ S' n m ns, hisC S' H → deskR S' w n m ns → (∀ c, c = 0 ∨ 121 ≤ c → S'.1 c = S.1 c ∧ S'.2 c = S.2 c) → S'.1 101 = S.1 101 → Qr none S') : vsp 156 1 (sX1_load 156) [.ref 1, .ref (103 + 2 * nx)] (u2 S.1 (103 + 2 * nx) 1 0, S.2) Qr Qx := by
  obtain ⟨a, b, c, d, f⟩ := hR
  obtain ⟨O, n, m, ns, hO, hX⟩ := g
  refine e_dskBack (O := O) (isRow_at nx a) (by omega) (u2 S.1 (103 + 2 * nx) 1 0, S.2) (u2_s _ _ _ _) hO.dN hO.dM (by rw [show 103 + 2 * nx + 1 = 104 + 2 * nx by omega]; exact hX) (fun S' e1 e2 e3 => ?_)
  have f1 : ∀ c, c = 0 ∨ 101 ≤ c → c ≠ 103 + 2 * nx → S'.1 c = S.1 c := fun c x y => (e2 c x y).trans (u2_other _ _ _ y)
  refine h S' n m ns ⟨nx, ⟨a, by rw [f1 101 (by decide) (by omega)]; exact b, by rw [f1 101 (by decide) (by omega)]; exact c, d, fun i hi => ?_⟩⟩ (hO.same e1) (fun c x => ⟨f1 c (by omega) (by omega), e3 c (by omega)⟩) (f1 101 (by decide) (by omega))
  rw [e3 _ (by omega)]; exact f i hi
theorem CI_act {S S' U V : Mem} {tp : Nat} {sg : Nat → Int32} {fp : Int32} {r : Nat → Int32} {w w' : Nat → Int64} {H H' : HL} {n m : Nat} {ns : Nat → Nat} (hI : CI S tp sg fp r w H) (f1 : ∀ c, c < 103 ∨ 121 ≤ c → S'.1 c = S.1 c ∧ S'.2 c = S.2 c) (f2 : ∀ c, c = 0 ∨ 101 ≤ c → U.1 c = S'.1 c ∧ U.2 c = S'.2 c) (hU : deskR U w' n m ns) (e2 : V.2 = U.2) (e1 : ∀ c, c ≠ 101 → V.1 c = U.1 c) (hH : hisC V H') : CI V tp sg fp r w' H' ∧ FM S V := by
  have g : ∀ c, c = 0 ∨ 121 ≤ c → V.1 c = S.1 c ∧ V.2 c = S.2 c := fun c hc => ⟨(e1 c (by omega)).trans ((f2 c (by omega)).1.trans (f1 c (by omega)).1), by rw [e2]; exact (f2 c (by omega)).2.trans (f1 c (by omega)).2⟩
  obtain ⟨a, b, ⟨c1, c2, c3⟩, -, -⟩ := hI
  refine ⟨⟨by rw [(g 0 (by omega)).1]; exact a, fun i hi => by rw [(g 0 (by omega)).1]; exact b i hi, ⟨by rw [(g 121 (by omega)).1]; exact c1, c2, fun i hi => by rw [(g 122 (by omega)).1]; exact c3 i hi⟩, ⟨n, m, ns, hU.same (sameDesk_of hU.1.2.1 hU.1.2.2.2.1 (fun c x y => ⟨e1 c (by omega), by rw [e2]⟩))⟩, hH⟩, fun c hc => g c (by omega)⟩
def inR (x : Int32) (lo hi : Nat) : Prop := ∃ k, lo ≤ k ∧ k ≤ hi ∧ x = nI k
theorem inR_iff {x : Int32} {lo hi : Nat} (h : hi < 2 ^ 31) (hl : lo < 2 ^ 31) : (nI lo ≤ x ∧ x ≤ nI hi) ↔ inR x lo hi := by
  constructor
  · rintro ⟨a, b⟩
    have x0 : ¬ x < 0 := fun y => neg_le (nI_pos hl) y a
    obtain ⟨k, hk, rfl⟩ := nI_of x0
    exact ⟨k, (nI_leI hl hk).mp a, (nI_leI hk h).mp b, rfl⟩
  · rintro ⟨k, a, b, rfl⟩
    exact ⟨nI_le a (by omega), nI_le b h⟩
theorem e_needW (x : Int32) (lo hi : Nat) (hl : lo < 2 ^ 31) (hh : hi < 2 ^ 31) (S : Mem) {Qr : QR} {Qx : QX} (h1 : ∀ k, lo ≤ k → k ≤ hi → x = nI k → Qr none S) (h0 : ¬ inR x lo hi → Qx "java/lang/IllegalArgumentException" (refC S 1)) : vsp 156 9 (sX9_needWithin 156) [.ref 0, .int x, .int (nI lo), .int (nI hi)] S Qr Qx :=
  e_needWithin x (nI lo) (nI hi) S (fun a b => by obtain ⟨k, c, d, e⟩ := (inR_iff hh hl).mp ⟨a, b⟩; exact h1 k c d e) (fun a => h0 (fun b => a ((inR_iff hh hl).mpr b)))
theorem e_inW (x : Int32) (lo hi : Nat) (hl : lo < 2 ^ 31) (hh : hi < 2 ^ 31) (S : Mem) {Qr : QR} {Qx : QX} (h1 : ∀ k, lo ≤ k → k ≤ hi → x = nI k → Qr (some (.int 1)) S) (h0 : ¬ inR x lo hi → Qr (some (.int 0)) S) : sX10_in 156 [.long x.toInt64, .long (lN lo), .long (lN hi)] S Qr Qx := by
  rw [← nI_l hl, ← nI_l hh]
  exact e_inI x (nI lo) (nI hi) S (fun a b => by obtain ⟨k, c, d, e⟩ := (inR_iff hh hl).mp ⟨a, b⟩; exact h1 k c d e) (fun a => h0 (fun b => a ((inR_iff hh hl).mpr b)))
set_option maxHeartbeats 1000000 in
theorem e_cStart {S : Mem} {tp : Nat} {sg : Nat → Int32} {fp : Int32} {r : Nat → Int32} {w : Nat → Int64} {H : HL} {s : Nat} (hI : CI S tp sg fp r w H) (hs : w 4 = lN s) (hs4 : s ≤ 10000) (x : Int32) {Qr : QR} {Qx : QX} (hA : ¬ inR x 1 10000 → Qx "java/lang/IllegalArgumentException" (refC S 1)) (hS : ∀ k, 1 ≤ k → k ≤ 10000 → x = nI k → 10000 < s + k → Qx "java/lang/IllegalStateException" (refC S 2))
    (h1 : ∀ k, 1 ≤ k → k ≤ 10000 → x = nI k → s + k ≤ 10000 → ∀ S', CI S' tp sg fp r (u1L w 4 (lN (s + k))) ((w :: H).take 8) → FM S S' → Qr (some (.int (nI (s + k)))) S') : vsp 156 9 (sX9_start 156) [.ref 0, .int x] S Qr Qx := by
  have hI' := hI
  obtain ⟨-, -, -, ⟨n, m, ns, hD⟩, hH⟩ := hI'
  have s6 : S.1 1 6 = nI s := i_of_l ((hD.2.1 2 (by decide)).trans hs)
  refine ⟨tP, runG rfl 80 ⟨⟨Nat.le_of_ble_eq_true rfl, Nat.le_of_ble_eq_true rfl, Nat.le_of_ble_eq_true rfl⟩, e_needW x 1 10000 (by decide) (by decide) S (fun k k1 k2 e => ?_) hA⟩⟩
  have sk : S.1 1 6 + x = nI (s + k) := by rw [s6, e, nI_add]
  refine ⟨tP, tD, And.intro (fun y => ?_) (fun y => ?_)⟩
  · have y : nI 10000 < S.1 1 6 + x := y
    rw [sk] at y
    have y := (nI_ltI (by decide) (by omega)).mp y
    exact ⟨⟨Nat.le_of_ble_eq_true rfl, Nat.le_of_ble_eq_true rfl, Nat.le_of_ble_eq_true rfl⟩, e_needState 0 S (fun z => absurd rfl z) (fun _ => hS k k1 k2 e y)⟩
  · have y : ¬ nI 10000 < S.1 1 6 + x := y
    rw [sk] at y
    have y : s + k ≤ 10000 := by
      rcases Nat.lt_or_ge 10000 (s + k) with z | z
      · exact absurd (nI_lt z (by omega)) y
      · exact z
    refine ⟨⟨Nat.le_of_ble_eq_true rfl, Nat.le_of_ble_eq_true rfl, Nat.le_of_ble_eq_true rfl⟩, e_needState 1 S (fun _ => ?_) (fun z => absurd z (by decide))⟩
    obtain ⟨nx, hR⟩ := hH
    refine ⟨tP, tP, ⟨Nat.le_of_ble_eq_true rfl, Nat.le_of_ble_eq_true rfl, Nat.le_of_ble_eq_true rfl⟩, e_histRow hR.1 S hR.2.1 ⟨⟨Nat.le_of_ble_eq_true rfl, Nat.le_of_ble_eq_true rfl, Nat.le_of_ble_eq_true rfl⟩, e_saveR S hR hD (fun T hP hT fT => ?_)⟩⟩
    have t6 : T.1 1 6 + x = nI (s + k) := by rw [(fT 1 (by decide)).1]; exact sk
    refine ⟨tP, tD, tD, tP, ⟨Nat.le_of_ble_eq_true rfl, Nat.le_of_ble_eq_true rfl, Nat.le_of_ble_eq_true rfl⟩, ?_⟩
    have hU := deskR_hd hT (j := 2) (by decide) (T.1 1 6 + x)
    have f2 : ∀ c, c = 0 ∨ 101 ≤ c → (u2 T.1 1 6 (T.1 1 6 + x), T.2).1 c = T.1 c ∧ (u2 T.1 1 6 (T.1 1 6 + x), T.2).2 c = T.2 c := fun c hc => ⟨u2_other _ _ _ (by omega), rfl⟩
    refine e_keep (u2 T.1 1 6 (T.1 1 6 + x), T.2) (hP.move (fun c a b => f2 c (by omega))) (fun V hV v2 v1 => ?_)
    obtain ⟨q1, q2⟩ := CI_act hI fT f2 hU v2 v1 hV
    refine ⟨tP, tD, ?_⟩
    show Qr (some (.int (V.1 1 6))) V
    have v6 : V.1 1 6 = nI (s + k) := by
      rw [v1 1 (by decide)]
      exact (u2_s T.1 1 6 _).trans t6
    rw [v6]
    rw [t6, nI_l (by omega)] at q1
    exact h1 k k1 k2 e y V q1 q2
set_option maxHeartbeats 1000000 in
theorem e_cLost {S : Mem} {tp : Nat} {sg : Nat → Int32} {fp : Int32} {r : Nat → Int32} {w : Nat → Int64} {H : HL} {n : Nat} (hI : CI S tp sg fp r w H) (hn : w 0 = lN n) (hn5 : n ≤ 5) (x y : Int32) {Qr : QR} {Qx : QX} (hE : ¬ (∃ d, d < n ∧ x = nI d) → Qx "java/util/NoSuchElementException" (refC S 0)) (hA : ∀ d, d < n → x = nI d → ¬ inR y 0 50000 → Qx "java/lang/IllegalArgumentException" (refC S 1))
    (h1 : ∀ d k, d < n → x = nI d → k ≤ 50000 → y = nI k → ∀ S', CI S' tp sg fp r (u1L w (70 + 7 * d) (lN k)) ((w :: H).take 8) → FM S S' → Qr (some (.int (w (70 + 7 * d)).toInt32)) S') : vsp 156 9 (sX9_lost 156) [.ref 0, .int x, .int y] S Qr Qx := by
  have hI' := hI
  obtain ⟨-, -, -, ⟨n', m, ns, hD⟩, hH⟩ := hI'
  have nn : n' = n := by
    have := hD.1.2.2.2.2.1.symm.trans hn
    have h5 := hD.1.2.1
    exact (lN_eq (by omega) (by omega)).mp this
  subst nn
  refine ⟨tP, runG rfl 80 ⟨⟨Nat.le_of_ble_eq_true rfl, Nat.le_of_ble_eq_true rfl, Nat.le_of_ble_eq_true rfl⟩, e_needDepartment x S hD.1.1 hn5 (fun d hd e => ⟨⟨Nat.le_of_ble_eq_true rfl, Nat.le_of_ble_eq_true rfl, Nat.le_of_ble_eq_true rfl⟩, e_needW y 0 50000 (by decide) (by decide) S (fun k k1 k2 e' => ?_) (hA d hd e)⟩) hE⟩⟩
  have hk := (depN (N := 156) (d := d) (by decide) (by omega)).1
  obtain ⟨nx, hR⟩ := hH
  refine ⟨tP, tP, ⟨Nat.le_of_ble_eq_true rfl, Nat.le_of_ble_eq_true rfl, Nat.le_of_ble_eq_true rfl⟩, e_histRow hR.1 S hR.2.1 ⟨⟨Nat.le_of_ble_eq_true rfl, Nat.le_of_ble_eq_true rfl, Nat.le_of_ble_eq_true rfl⟩, e_saveR S hR hD (fun T hP hT fT => ?_)⟩⟩
  refine ⟨hk, hk, tP, ⟨Nat.le_of_ble_eq_true rfl, Nat.le_of_ble_eq_true rfl, Nat.le_of_ble_eq_true rfl⟩, ?_⟩
  have hU := deskR_nx hT hd (j := 0) (by decide) y
  have f2 : ∀ c, c = 0 ∨ 101 ≤ c → (u2 T.1 (4 + 17 * d) 8 y, T.2).1 c = T.1 c ∧ (u2 T.1 (4 + 17 * d) 8 y, T.2).2 c = T.2 c := fun c hc => ⟨u2_other _ _ _ (by omega), rfl⟩
  refine e_keep (u2 T.1 (4 + 17 * d) 8 y, T.2) (hP.move (fun c a b => f2 c (by omega))) (fun V hV v2 v1 => ?_)
  obtain ⟨q1, q2⟩ := CI_act hI fT f2 hU v2 v1 hV
  show Qr (some (.int (T.1 (4 + 17 * d) 8))) V
  have t8' : T.1 (4 + 17 * d) 8 = (w (70 + 7 * d)).toInt32 := by
    have := ((hT.2.2.2.1 d hd).2.1.2 0 (by decide))
    have := congrArg Int64.toInt32 this
    rw [← show (w (70 + 7 * d + 0)).toInt32 = (w (70 + 7 * d)).toInt32 from rfl, ← this]
    simp
  rw [t8']
  rw [e', nI_l (by omega)] at q1
  exact h1 d k hd e k2 e' V q1 q2
set_option maxHeartbeats 1000000 in
theorem e_cLeft {S : Mem} {tp : Nat} {sg : Nat → Int32} {fp : Int32} {r : Nat → Int32} {w : Nat → Int64} {H : HL} {n : Nat} (hI : CI S tp sg fp r w H) (hn : w 0 = lN n) (hn5 : n ≤ 5) (x y z : Int32) {Qr : QR} {Qx : QX} (hE : ¬ (∃ d, d < n ∧ x = nI d) → Qx "java/util/NoSuchElementException" (refC S 0)) (hA : ∀ d, d < n → x = nI d → ¬ (inR y 0 50000 ∧ inR z 0 100) → Qx "java/lang/IllegalArgumentException" (refC S 1))
    (h1 : ∀ d k j, d < n → x = nI d → k ≤ 50000 → y = nI k → j ≤ 100 → z = nI j → ∀ S', CI S' tp sg fp r (u1L (u1L w (71 + 7 * d) (lN k)) (72 + 7 * d) (lN j)) ((w :: H).take 8) → FM S S' → Qr (some (.int (w (71 + 7 * d)).toInt32)) S') : vsp 156 9 (sX9_left 156) [.ref 0, .int x, .int y, .int z] S Qr Qx := by
  have hI' := hI
  obtain ⟨-, -, -, ⟨n', m, ns, hD⟩, hH⟩ := hI'
  have nn : n' = n := by
    have := hD.1.2.2.2.2.1.symm.trans hn
    have h5 := hD.1.2.1
    exact (lN_eq (by omega) (by omega)).mp this
  subst nn
  refine ⟨tP, runG rfl 80 ⟨⟨Nat.le_of_ble_eq_true rfl, Nat.le_of_ble_eq_true rfl, Nat.le_of_ble_eq_true rfl⟩, e_needDepartment x S hD.1.1 hn5 (fun d hd e => ⟨⟨Nat.le_of_ble_eq_true rfl, Nat.le_of_ble_eq_true rfl, Nat.le_of_ble_eq_true rfl⟩, e_needW y 0 50000 (by decide) (by decide) S (fun k k1 k2 e' => ⟨⟨Nat.le_of_ble_eq_true rfl, Nat.le_of_ble_eq_true rfl, Nat.le_of_ble_eq_true rfl⟩, e_needW z 0 100 (by decide) (by decide) S (fun j j1 j2 e'' => ?_) (fun q => hA d hd e (fun q' => q q'.2))⟩) (fun q => hA d hd e (fun q' => q q'.1))⟩) hE⟩⟩
  have hk := (depN (N := 156) (d := d) (by decide) (by omega)).1
  obtain ⟨nx, hR⟩ := hH
  refine ⟨tP, tP, ⟨Nat.le_of_ble_eq_true rfl, Nat.le_of_ble_eq_true rfl, Nat.le_of_ble_eq_true rfl⟩, e_histRow hR.1 S hR.2.1 ⟨⟨Nat.le_of_ble_eq_true rfl, Nat.le_of_ble_eq_true rfl, Nat.le_of_ble_eq_true rfl⟩, e_saveR S hR hD (fun T hP hT fT => ?_)⟩⟩
  refine ⟨hk, hk, hk, tP, ⟨Nat.le_of_ble_eq_true rfl, Nat.le_of_ble_eq_true rfl, Nat.le_of_ble_eq_true rfl⟩, ?_⟩
  have hU := deskR_nx (deskR_nx hT hd (j := 1) (by decide) y) hd (j := 2) (by decide) z
  have f2 : ∀ c, c = 0 ∨ 101 ≤ c → (u2 (u2 T.1 (4 + 17 * d) 9 y) (4 + 17 * d) 10 z, T.2).1 c = T.1 c ∧ (u2 (u2 T.1 (4 + 17 * d) 9 y) (4 + 17 * d) 10 z, T.2).2 c = T.2 c := fun c hc => ⟨(u2_other _ _ _ (by omega)).trans (u2_other _ _ _ (by omega)), rfl⟩
  refine e_keep (u2 (u2 T.1 (4 + 17 * d) 9 y) (4 + 17 * d) 10 z, T.2) (hP.move (fun c a b => f2 c (by omega))) (fun V hV v2 v1 => ?_)
  obtain ⟨q1, q2⟩ := CI_act hI fT f2 hU v2 v1 hV
  show Qr (some (.int (T.1 (4 + 17 * d) 9))) V
  have t8' : T.1 (4 + 17 * d) 9 = (w (71 + 7 * d)).toInt32 := by
    have := ((hT.2.2.2.1 d hd).2.1.2 1 (by decide))
    have := congrArg Int64.toInt32 this
    rw [show 70 + 7 * d + 1 = 71 + 7 * d by omega] at this
    rw [← this]
    simp
  rw [t8']
  rw [e', e'', nI_l (by omega), nI_l (by omega), show 70 + 7 * d + 1 = 71 + 7 * d by omega, show 70 + 7 * d + 2 = 72 + 7 * d by omega] at q1
  exact h1 d k j hd e k2 e' j2 e'' V q1 q2
