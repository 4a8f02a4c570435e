/-! ===== the model: how far done, losses ===== -/
def dnW (w : Nat → Int64) (d kind : Nat) (far : Int64) : Int64 := match kind with
  | 0 => 100
  | 3 => far
  | j => if ¬ w (5 + 9 * d + 4 + j) = -1 ∧ w (5 + 9 * d + 4 + j) ≤ far then 100 else 0
set_option maxHeartbeats 1000000 in
theorem e_mdoneAt {d kind : Nat} (hd : d < 5) (hi : kind < 4) (far : Int64) (S : Mem) {Qr : QR} {Qx : QX} (h : Qr (some (.long (dnW (S.2 143) d kind far))) S) : sX10_doneAt 156 [.ref 143, .int (nI d), .int (nI kind), .long far] S Qr Qx := by
  have ix : ∀ j : Nat, nI 5 + nI 9 * nI d + nI 5 + nI (j + 1) - nI 1 = nI (5 + 9 * d + 4 + (j + 1)) := fun j => by
    rw [pk_mul, nI_add, nI_add, nI_add, show 5 + 9 * d + 5 + (j + 1) = 5 + 9 * d + 4 + (j + 1) + 1 by omega]
    exact nI_pred _
  refine runG rfl 60 ?_
  rcases (show kind = 0 ∨ kind = 3 ∨ kind = 1 ∨ kind = 2 by omega) with rfl | rfl | hk
  · exact And.intro (fun h1 => absurd rfl h1) (fun _ => ⟨rfl, h⟩)
  · exact And.intro (fun _ => And.intro (fun x => absurd rfl x) (fun _ => ⟨rfl, h⟩)) (fun h2 => absurd h2 (by decide))
  · obtain ⟨j, rfl, hj⟩ : ∃ j, kind = j + 1 ∧ j < 2 := ⟨kind - 1, by omega, by omega⟩
    have hdn : dnW (S.2 143) d (j + 1) far = if ¬ S.2 143 (5 + 9 * d + 4 + (j + 1)) = -1 ∧ S.2 143 (5 + 9 * d + 4 + (j + 1)) ≤ far then 100 else 0 := by
      rcases (show j = 0 ∨ j = 1 by omega) with rfl | rfl <;> rfl
    rw [hdn] at h
    have n0 : ¬ nI (j + 1) = nI 0 := fun z => absurd ((nI_eq (by omega) (by decide)).mp z) (by omega)
    have n3 : ¬ nI (j + 1) = nI 3 := fun z => absurd ((nI_eq (by omega) (by decide)).mp z) (by omega)
    refine And.intro (fun _ => And.intro (fun _ => ⟨754, tTri, ?_, And.intro (fun q => ?_) (fun q => And.intro (fun q2 => ?_) (fun q2 => ?_))⟩) (fun z => absurd z n3)) (fun z => absurd z n0)
    · show vp_in (nI 5 + nI 9 * nI d + nI 5 + nI (j + 1) - nI 1) 754
      rw [ix]; exact vp_nI (by omega)
    · have q : S.2 143 (nI 5 + nI 9 * nI d + nI 5 + nI (j + 1) - nI 1).toNatClampNeg = -1 := (lg_cmp_eq _ _).mp q
      rw [ix, nI_clamp (by omega)] at q
      rw [if_neg (fun z => z.1 q)] at h
      exact ⟨rfl, h⟩
    · have q2 : far < S.2 143 (nI 5 + nI 9 * nI d + nI 5 + nI (j + 1) - nI 1).toNatClampNeg := (lg_cmp_gt _ _).mp q2
      rw [ix, nI_clamp (by omega)] at q2
      rw [if_neg (fun z => Int64.not_le.mpr q2 z.2)] at h
      exact ⟨rfl, h⟩
    · have q : ¬ S.2 143 (nI 5 + nI 9 * nI d + nI 5 + nI (j + 1) - nI 1).toNatClampNeg = -1 := fun z => q ((lg_cmp_eq _ _).mpr z)
      have q2 : ¬ far < S.2 143 (nI 5 + nI 9 * nI d + nI 5 + nI (j + 1) - nI 1).toNatClampNeg := fun z => q2 ((lg_cmp_gt _ _).mpr z)
      rw [ix, nI_clamp (by omega)] at q q2
      rw [if_pos ⟨q, Int64.not_lt.mp q2⟩] at h
      exact ⟨rfl, h⟩
theorem e_mcutV {a p w v : Int64} (hv : cut a p w = v) (S : Mem) {Qr : QR} {Qx : QX} (h : Qr (some (.long v)) S) : sX10_cut 156 [.long a, .long p, .long w] S Qr Qx := e_mcut a p w S (by rw [hv]; exact h)
theorem e_moreV {a b v : Int64} (hv : moreL a b = v) (S : Mem) {Qr : QR} {Qx : QX} (h : Qr (some (.long v)) S) : sX10_more 156 [.long a, .long b] S Qr Qx := e_more a b S (by rw [hv]; exact h)
theorem e_lessV {a b v : Int64} (hv : lessL a b = v) (S : Mem) {Qr : QR} {Qx : QX} (h : Qr (some (.long v)) S) : sX10_less 156 [.long a, .long b] S Qr Qx := e_less a b S (by rw [hv]; exact h)
theorem e_mdoneV {d kind : Nat} (hd : d < 5) (hi : kind < 4) {far v : Int64} (S : Mem) (hv : dnW (S.2 143) d kind far = v) {Qr : QR} {Qx : QX} (h : Qr (some (.long v)) S) : sX10_doneAt 156 [.ref 143, .int (nI d), .int (nI kind), .long far] S Qr Qx := e_mdoneAt hd hi far S (by rw [hv]; exact h)
/-- a place of the trial -/
theorem tri_at {S : Mem} {i : Nat} {v : Int64} (hi : i < 754) (h : S.2 143 i = v) : S.2 143 (nI i).toNatClampNeg = v := by rw [nI_clamp (by omega)]; exact h
/-- what the losses come to -/
def lsN (F no sc : Int64) : Int64 := moreL 0 (F - no * sc)
def lsT (nt lt fi : Int64) : Int64 := cut nt lt (lt + fi)
def lsA (al F no lo sc nt lt fi : Int64) : Int64 := if lt + fi = 0 then al - F - (lo - no) * sc + nt else al - F - (lo - no) * sc
def lsO (out nt tl lt fi : Int64) : Int64 := out + (if lt + fi = 0 then 0 else nt - tl)
def losR (w : Nat → Int64) (o : Nat) (nt tl ab sc ou : Int64) : Nat → Int64 := u1L (u1L (u1L (u1L (u1L w (o + 50) nt) (o + 51) tl) (o + 52) ab) (o + 53) sc) (o + 54) ou
theorem losY (X : Nat → Nat → Int64) (o : Nat) (ho : o + 54 < 754) (a b c e f : Int64) (Y : Nat → Nat → Int64) (hY : Y = u2 (u2 (u2 (u2 (u2 X 143 (nI (o + 50)).toNatClampNeg a) 143 (nI (o + 50) + nI 1).toNatClampNeg b) 143 (nI (o + 50) + nI 2).toNatClampNeg c) 143 (nI (o + 50) + nI 3).toNatClampNeg e) 143 (nI (o + 50) + nI 4).toNatClampNeg f) : Y 143 = losR (X 143) o a b c e f ∧ ∀ k, k ≠ 143 → Y k = X k := by
  subst hY
  constructor
  · rw [u2_rowL, u2_rowL, u2_rowL, u2_rowL, u2_rowL, nI_add, nI_add, nI_add, nI_add, nI_clamp (by omega), nI_clamp (by omega), nI_clamp (by omega), nI_clamp (by omega), nI_clamp (by omega)]
    rfl
  · intro k hk
    rw [u2_other _ _ _ hk, u2_other _ _ _ hk, u2_other _ _ _ hk, u2_other _ _ _ hk, u2_other _ _ _ hk]
set_option maxHeartbeats 2000000 in
theorem e_losses {d : Nat} (hd : d < 5) (al out lt sc lo no fi F N T : Int64) (S : Mem) (h1 : S.2 143 ((131 + 55 * d) + 12) = lo) (h2 : S.2 143 ((131 + 55 * d) + 16) = no) (h3 : S.2 143 ((131 + 55 * d) + 15) = fi) (hF : cut al no lo = F) (hN : lsN F no sc = N) (hT : lsT N lt fi = T) {Qr : QR} {Qx : QX}
    (h : ∀ X, X 143 = losR (S.2 143) (131 + 55 * d) N T (lsA al F no lo sc N lt fi) (lo * sc) (lsO out N T lt fi) → (∀ c, c ≠ 143 → X c = S.2 c) → Qr none (S.1, X)) : sX10_losses 156 [.ref 143, .int (nI d), .long al, .long out, .long lt, .long sc] S Qr Qx := by
  have v0 : ∀ x, x < 754 → vp_in (nI x) 754 := fun x hx => vp_nI hx
  have v1 : ∀ x y, x + y < 754 → vp_in (nI x + nI y) 754 := fun x y hx => by rw [nI_add]; exact vp_nI hx
  have u1 : vp_in (nI ((131 + 55 * d) + 50) + nI 1) 754 := v1 _ _ (by omega)
  have u2' : vp_in (nI ((131 + 55 * d) + 50) + nI 2) 754 := v1 _ _ (by omega)
  have u3 : vp_in (nI ((131 + 55 * d) + 50) + nI 3) 754 := v1 _ _ (by omega)
  have u4 : vp_in (nI ((131 + 55 * d) + 50) + nI 4) 754 := v1 _ _ (by omega)
  have u0 : vp_in (nI ((131 + 55 * d) + 50)) 754 := v0 _ (by omega)
  have a1 := tri_at (by omega) h1
  have a2 := tri_at (by omega) h2
  have a3 := tri_at (by omega) h3
  have fin : ∀ (Y : Nat → Nat → Int64) (A O : Int64), A = lsA al F no lo sc N lt fi → O = lsO out N T lt fi → Y = u2 (u2 (u2 (u2 (u2 S.2 143 (nI ((131 + 55 * d) + 50)).toNatClampNeg N) 143 (nI ((131 + 55 * d) + 50) + nI 1).toNatClampNeg T) 143 (nI ((131 + 55 * d) + 50) + nI 2).toNatClampNeg A) 143 (nI ((131 + 55 * d) + 50) + nI 3).toNatClampNeg (lo * sc)) 143 (nI ((131 + 55 * d) + 50) + nI 4).toNatClampNeg O → Qr none (S.1, Y) := fun Y A O hA hO hY => by
    obtain ⟨y1, y2⟩ := losY S.2 (131 + 55 * d) (by omega) _ _ _ _ _ Y hY
    rw [hA, hO] at y1
    exact h Y y1 y2
  refine runM (ι := Nat × LL × Mem × Nat) rfl 160 0 [30] (fun a => a.1) (fun a => a.2.1) (fun a => a.2.2.1) (fun a => a.2.2.2) (fun a => a = (30, [(10, .long lo), (12, .long no), (14, .long fi), (0, .ref 143), (1, .int (nI d)), (2, .long al), (4, .long out), (6, .long lt), (8, .long sc)], S, 0)) ?_ ?_
  · rintro a rfl
    refine ⟨⟨Nat.le_of_ble_eq_true rfl, Nat.le_of_ble_eq_true rfl, Nat.le_of_ble_eq_true rfl⟩, e_mcutV hF _ ⟨⟨Nat.le_of_ble_eq_true rfl, Nat.le_of_ble_eq_true rfl, Nat.le_of_ble_eq_true rfl⟩, e_moreV hN _ ⟨⟨Nat.le_of_ble_eq_true rfl, Nat.le_of_ble_eq_true rfl, Nat.le_of_ble_eq_true rfl⟩, e_mcutV hT _ (And.intro (fun q => ⟨⟨Nat.le_of_ble_eq_true rfl, Nat.le_of_ble_eq_true rfl, Nat.le_of_ble_eq_true rfl⟩, e_latest d 50 _ ⟨754, tTri, u0, 754, tTri, u1, 754, tTri, u2', 754, tTri, u3, And.intro (fun _ => ⟨754, tTri, u4, ?_⟩) (fun q2 => absurd q2 q)⟩⟩) (fun q => ⟨⟨Nat.le_of_ble_eq_true rfl, Nat.le_of_ble_eq_true rfl, Nat.le_of_ble_eq_true rfl⟩, e_latest d 50 _ ⟨754, tTri, u0, 754, tTri, u1, 754, tTri, u2', 754, tTri, u3, And.intro (fun q2 => absurd q q2) (fun _ => ⟨754, tTri, u4, ?_⟩)⟩⟩))⟩⟩⟩
    · have q : ¬ lt + fi = 0 := fun z => q ((lg_cmp_eq _ _).mpr z)
      exact ⟨rfl, fin _ _ _ (if_neg q).symm (by unfold lsO; rw [if_neg q]) rfl⟩
    · have q : lt + fi = 0 := (lg_cmp_eq _ _).mp q
      exact ⟨rfl, fin _ _ _ (if_pos q).symm (by unfold lsO; rw [if_pos q]) rfl⟩
  · exact ⟨⟨Nat.le_of_ble_eq_true rfl, Nat.le_of_ble_eq_true rfl, Nat.le_of_ble_eq_true rfl⟩, e_latest d 12 _ ⟨754, tTri, v0 _ (by omega), ⟨Nat.le_of_ble_eq_true rfl, Nat.le_of_ble_eq_true rfl, Nat.le_of_ble_eq_true rfl⟩, e_latest d 16 _ ⟨754, tTri, v0 _ (by omega), ⟨Nat.le_of_ble_eq_true rfl, Nat.le_of_ble_eq_true rfl, Nat.le_of_ble_eq_true rfl⟩, e_latest d 15 _ ⟨754, tTri, v0 _ (by omega), rfl, rfl, _, rfl, rfl, rfl, congrArg (fun z => some (Value.long z)) a1, congrArg (fun z => some (Value.long z)) a2, congrArg (fun z => some (Value.long z)) a3, rfl, rfl, rfl, rfl, rfl, rfl, trivial⟩⟩⟩⟩
