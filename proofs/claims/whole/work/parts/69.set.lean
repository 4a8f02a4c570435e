/-! ===== Plan.settle, passing ===== -/
def flw (rt sh : Nat → Int64) (bt : Nat → Int32) (nn : Int64) (m : Nat) : Nat → Nat → Int64
  | 0 => fun _ => 0
  | r + 1 => fun d => rnd rt sh bt nn (flw rt sh bt nn m r) m d
theorem rnd_congr {rt sh rt' sh' : Nat → Int64} {bt bt' : Nat → Int32} {nn : Int64} {x y : Nat → Int64} {m : Nat} (h : ∀ d, d < m → x d = y d) (h1 : ∀ d, d < m → rt d = rt' d) (h2 : ∀ d, d < m → sh d = sh' d) (h3 : ∀ d, d < m → bt d = bt' d) : ∀ k d, k ≤ m → d < m → rnd rt sh bt nn x k d = rnd rt' sh' bt' nn y k d := by
  intro k
  induction k with
  | zero =>
    intro d _ hd
    show (if d = 0 then nn else x (d - 1) - x (d - 1) * rt (d - 1) / 100) = (if d = 0 then nn else y (d - 1) - y (d - 1) * rt' (d - 1) / 100)
    rw [h (d - 1) (by omega), h1 (d - 1) (by omega)]
  | succ e ih =>
    intro d he hd
    show rnd rt sh bt nn x e d + (if bt e = nI d then x e * rt e / 100 * sh e / 100 else 0) = rnd rt' sh' bt' nn y e d + (if bt' e = nI d then y e * rt' e / 100 * sh' e / 100 else 0)
    rw [ih d (by omega) hd, h e (by omega), h1 e (by omega), h2 e (by omega), h3 e (by omega)]
theorem flw_congr {rt sh rt' sh' : Nat → Int64} {bt bt' : Nat → Int32} {nn : Int64} {m : Nat} (h1 : ∀ d, d < m → rt d = rt' d) (h2 : ∀ d, d < m → sh d = sh' d) (h3 : ∀ d, d < m → bt d = bt' d) : ∀ r d, d < m → flw rt sh bt nn m r d = flw rt' sh' bt' nn m r d := by
  intro r
  induction r with
  | zero => intro d _; rfl
  | succ r ih => intro d hd; exact rnd_congr ih h1 h2 h3 m d (Nat.le_refl m) hd
/-- T rounds change a flow, the next one none -/
def stl (rt sh : Nat → Int64) (bt : Nat → Int32) (nn : Int64) (m T : Nat) : Prop := (∀ r, r < T → ∃ d, d < m ∧ flw rt sh bt nn m (r + 1) d ≠ flw rt sh bt nn m r d) ∧ ∀ d, d < m → flw rt sh bt nn m (T + 1) d = flw rt sh bt nn m T d
def flS (S : Mem) (nn : Int32) (m : Nat) : Nat → Nat → Int64 := flw (rtS S) (shS S) (btS S) (nn.toInt64 * 1000000) m
set_option maxHeartbeats 1000000 in
theorem e_settle {m T : Nat} (hm0 : 0 < m) (hm : m ≤ 5) (nn : Int32) (S : Mem) (hd : S.1 1 2 = nI m) (hb : okB S m) (hT : stl (rtS S) (shS S) (btS S) (nn.toInt64 * 1000000) m T) (hT6 : T < 1000000) {Qr : QR} {Qx : QX}
    (h : ∀ X : Nat → Nat → Int64, (∀ d, d < m → X 124 d = flS S nn m T d) → (∀ c, c ≠ 124 → c ≠ 125 → X c = S.2 c) → Qr none (u2 S.1 123 2 (nI T), X)) : vsp 156 5 (sX5_settle 156) [.ref 123, .ref 1, .int nn] S Qr Qx := by
  have t0 : tyN 156 123 = (0, 5, 0, 0) := rfl
  have t4 : tyN 156 124 = (1, 5, 0, 0) := rfl
  have cT : ((1000000 : Int32) = nI 1000000) := by decide
  refine ⟨t0, runL (α := Nat × (Nat → Nat → Int64)) rfl 60 12 0 (fun a => [(2, .int nn), (1, .ref 1), (0, .ref 123)]) (fun a => (u2 S.1 123 2 (nI a.1), a.2)) (fun a => T - a.1) (fun a => a.1 ≤ T ∧ (∀ d, d < m → a.2 124 d = flS S nn m a.1 d) ∧ ∀ c, c ≠ 124 → c ≠ 125 → a.2 c = S.2 c) ?_ ?_⟩
  · rintro ⟨r, X⟩ ⟨hr, hx, hz⟩
    dsimp only at hr hx hz
    have r0 : u2 S.1 123 2 (nI r) 123 2 = nI r := u2_s _ _ _ _
    have dk : ∀ e j, e < m → u2 S.1 123 2 (nI r) (4 + 17 * e) j = S.1 (4 + 17 * e) j := fun e j x => u2_k _ _ _ _ (by omega)
    have rs : ∀ d, d < m → rndS (u2 S.1 123 2 (nI r), X) (nn.toInt64 * 1000000) m d = flS S nn m (r + 1) d := fun d x => rnd_congr hx (fun e y => congrArg Int32.toInt64 (dk e 2 y)) (fun e y => congrArg Int32.toInt64 (dk e 7 y)) (fun e y => dk e 6 y) m d (Nat.le_refl m) x
    refine ⟨t0, And.intro (fun a1 => ?_) (fun a1 => ?_)⟩
    · have a1 : nI 1000000 ≤ u2 S.1 123 2 (nI r) 123 2 := cT ▸ a1
      rw [r0] at a1
      exact absurd a1 (nI_ge (by omega) (by decide))
    · refine ⟨⟨Nat.le_of_ble_eq_true rfl, Nat.le_of_ble_eq_true rfl, Nat.le_of_ble_eq_true rfl⟩, e_turn hm0 hm nn (u2 S.1 123 2 (nI r), X) ((u2_k S.1 2 2 (nI r) (show 1 ≠ 123 by decide)).trans hd) (fun e x => ?_) (fun w Y y1 y2 => ?_) (fun w Y y1 y2 => ?_)⟩
      · rw [show (u2 S.1 123 2 (nI r), X).1 (4 + 17 * e) 6 = S.1 (4 + 17 * e) 6 from dk e 6 x]
        exact hb e x
      · have hlt : r < T := by
          rcases Nat.lt_or_ge r T with q | q
          · exact q
          · obtain rfl : r = T := by omega
            obtain ⟨d, x, y⟩ := w
            rw [rs d x] at y
            exact absurd ((hT.2 d x).trans (hx d x).symm) y
        refine And.intro (fun x => absurd x (by decide)) (fun _ => ⟨t0, t0, rfl, rfl, (r + 1, Y), ⟨⟨hlt, fun d x => ?_, fun c x y => ?_⟩, by show T - (r + 1) < T - r; omega⟩, ?_, rfl, rfl, rfl, trivial⟩)
        · exact (y1 d x).trans (rs d x)
        · exact (y2 c x y).trans (hz c x y)
        · show (u2 (u2 S.1 123 2 (nI r)) 123 2 (u2 S.1 123 2 (nI r) 123 2 + 1), Y) = (u2 S.1 123 2 (nI (r + 1)), Y)
          rw [r0, u2_u2, nI_1]
      · have he : r = T := by
          rcases Nat.lt_or_ge r T with q | q
          · obtain ⟨d, x, y⟩ := hT.1 r q
            have := w d x
            rw [rs d x] at this
            exact absurd (this.trans (hx d x)) y
          · omega
        subst he
        refine And.intro (fun _ => ⟨rfl, h Y (fun d x => ?_) (fun c x y => ?_)⟩) (fun x => absurd rfl x)
        · rw [y1 d x]; exact hx d x
        · rw [y2 c x y]; exact hz c x y
  · refine ⟨t0, ⟨Nat.le_of_ble_eq_true rfl, Nat.le_of_ble_eq_true rfl, Nat.le_of_ble_eq_true rfl⟩, e_clearAll t4 (by decide) (by decide) S ⟨t0, rfl, rfl, (0, zr S.2 124 5), ⟨Nat.zero_le _, fun d x => ?_, fun c x y => ?_⟩, rfl, rfl, rfl, rfl, trivial⟩⟩
    · show zr S.2 124 5 124 d = 0
      exact if_pos ⟨rfl, by omega⟩
    · funext j
      exact if_neg (fun e => x e.1)
theorem e_passing {m : Nat} (hm : m < 5) (S : Mem) (hd : S.1 1 2 = nI (m + 1)) {Qr : QR} {Qx : QX} (h : Qr (some (.long (S.2 124 m - S.2 124 m * rtS S m / 100))) S) : vsp 156 5 (sX5_passing 156) [.ref 123, .ref 1] S Qr Qx := by
  have t0 : tyN 156 123 = (0, 5, 0, 0) := rfl
  have t1 : tyN 156 1 = (0, 1, 0, 0) := rfl
  have t2 : tyN 156 2 = (4, 5, 4, 17) := rfl
  have t4 : tyN 156 124 = (1, 5, 0, 0) := rfl
  have e : (if S.1 1 2 - 1 < (0 : Int32) then (0 : Int32) else S.1 1 2 - 1) = nI m := by
    rw [hd, nI_pr (by omega), Nat.add_sub_cancel, if_neg (nI_pos (by omega))]
  have v5 : vp_in (if S.1 1 2 - 1 < (0 : Int32) then (0 : Int32) else S.1 1 2 - 1) 5 := by rw [e]; exact vp_nI hm
  have cl : (if S.1 1 2 - 1 < (0 : Int32) then (0 : Int32) else S.1 1 2 - 1).toNatClampNeg = m := by rw [e]; exact nI_clamp (by omega)
  refine ⟨t0, runG rfl 40 ⟨t1, ⟨Nat.le_of_ble_eq_true rfl, Nat.le_of_ble_eq_true rfl, Nat.le_of_ble_eq_true rfl⟩, t1, 0, 5, 4, 17, t2, by decide, v5, t0, 5, t4, v5, ⟨Nat.le_of_ble_eq_true rfl, Nat.le_of_ble_eq_true rfl, Nat.le_of_ble_eq_true rfl⟩, ?_⟩⟩
  show vsp 156 0 (sX0_passingOf 156) [.ref (4 + 17 * (if S.1 1 2 - 1 < (0 : Int32) then (0 : Int32) else S.1 1 2 - 1).toNatClampNeg), .long (S.2 124 (if S.1 1 2 - 1 < (0 : Int32) then (0 : Int32) else S.1 1 2 - 1).toNatClampNeg)] S _ _
  rw [cl]
  exact e_passingOf (depN (by decide) hm) _ S ⟨rfl, h⟩
