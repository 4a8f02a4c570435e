/-! ===== the acts' history, in the class and in the model ===== -/
def rowO (X : Nat → Int64) (w : Nat → Int64) : Prop := ∃ (O : Mem) (n m : Nat) (ns : Nat → Nat), deskR O w n m ns ∧ rowHas X 0 (dskL O n m ns)
/-- rows of the acts' states; the newest first -/
def hisR (S : Mem) (H : List (Nat → Int64)) (nx : Nat) : Prop := nx < 9 ∧ S.1 101 1 = nI nx ∧ S.1 101 2 = nI H.length ∧ H.length ≤ 8 ∧ ∀ i (hi : i < H.length), rowO (S.2 (104 + 2 * ((nx + 8 - i) % 9))) H[i]
def hisC (S : Mem) (H : List (Nat → Int64)) : Prop := ∃ nx, hisR S H nx
/-- the state is saved, the act not yet done -/
def hisP (S : Mem) (w : Nat → Int64) (H : List (Nat → Int64)) : Prop := ∃ nx, hisR S H nx ∧ rowO (S.2 (104 + 2 * nx)) w
theorem hisP.move {S S' : Mem} {w : Nat → Int64} {H : List (Nat → Int64)} (h : hisP S w H) (e : ∀ c, 101 ≤ c → c < 121 → S'.1 c = S.1 c ∧ S'.2 c = S.2 c) : hisP S' w H := by
  obtain ⟨nx, ⟨a, b, c, d, f⟩, g⟩ := h
  refine ⟨nx, ⟨a, by rw [(e 101 (by decide) (by decide)).1]; exact b, by rw [(e 101 (by decide) (by decide)).1]; exact c, d, fun i hi => ?_⟩, ?_⟩
  · rw [(e _ (by omega) (by omega)).2]; exact f i hi
  · rw [(e _ (by omega) (by omega)).2]; exact g
theorem hisC.move {S S' : Mem} {H : List (Nat → Int64)} (h : hisC S H) (e1 : S'.1 101 = S.1 101) (e : ∀ c, 101 ≤ c → c < 121 → S'.2 c = S.2 c) : hisC S' H := by
  obtain ⟨nx, ⟨a, b, c, d, f⟩⟩ := h
  refine ⟨nx, ⟨a, by rw [e1]; exact b, by rw [e1]; exact c, d, fun i hi => ?_⟩⟩
  rw [e _ (by omega) (by omega)]; exact f i hi
theorem PW_nil (S : Mem) (r : Nat) : PW S r 0 [] = (u2 S.1 r 1 0, S.2) := by
  refine Prod.ext rfl ?_
  funext c i
  show wrt S.2 (r + 1) 0 [] c i = S.2 c i
  unfold wrt
  rw [if_neg (by simp)]
/-- history.row(), then now.save(..) -/
theorem e_save {H : List (Nat → Int64)} {w : Nat → Int64} {n m : Nat} {ns : Nat → Nat} (S : Mem) (hH : hisC S H) (hD : deskR S w n m ns) {Qr : QR} {Qx : QX} (h : ∀ r S', isRow r → hisP S' w H → deskR S' w n m ns → (∀ c, c < 103 ∨ 121 ≤ c → S'.1 c = S.1 c ∧ S'.2 c = S.2 c) → Qr none S') :
    vsp 156 2 (sX2_row 156) [.ref 101] S (fun v S1 => ∃ r, v = some (.ref r) ∧ vsp 156 1 (sX1_save 156) [.ref 1, .ref r] S1 Qr Qx) Qx := by
  obtain ⟨nx, ⟨a, b, c, d, f⟩⟩ := hH
  refine e_histRow a S b ⟨_, rfl, ?_⟩
  have e := PW_nil S (103 + 2 * nx)
  rw [← e]
  refine e_dskSave (isRow_at nx a) (by omega) S hD.dN ?_
  have fr : ∀ c, c < 103 ∨ 121 ≤ c → (PW S (103 + 2 * nx) 0 (dskL S n m ns)).1 c = S.1 c ∧ (PW S (103 + 2 * nx) 0 (dskL S n m ns)).2 c = S.2 c := fun c hc => ⟨funext fun j => PW_I j (by omega), funext fun j => PW_X j (by omega)⟩
  refine h (103 + 2 * nx) _ (isRow_at nx a) ⟨nx, ⟨a, by rw [(fr 101 (by decide)).1]; exact b, by rw [(fr 101 (by decide)).1]; exact c, d, fun i hi => ?_⟩, ⟨S, n, m, ns, hD, ?_⟩⟩ (hD.same (sameDesk_of hD.1.2.1 hD.1.2.2.2.1 (fun c x y => fr c (by omega)))) fr
  · have : (PW S (103 + 2 * nx) 0 (dskL S n m ns)).2 (104 + 2 * ((nx + 8 - i) % 9)) = S.2 (104 + 2 * ((nx + 8 - i) % 9)) := funext fun j => PW_X j (by omega)
    rw [this]; exact f i hi
  · have := rowHas_PW S (103 + 2 * nx) (dskL S n m ns)
    rw [show 103 + 2 * nx + 1 = 104 + 2 * nx by omega] at this
    exact this
/-- history.keep() -/
theorem e_keep {H : List (Nat → Int64)} {w : Nat → Int64} (S : Mem) (hH : hisP S w H) {Qr : QR} {Qx : QX} (h : ∀ S', hisC S' ((w :: H).take 8) → S'.2 = S.2 → (∀ c, c ≠ 101 → S'.1 c = S.1 c) → Qr none S') : vsp 156 2 (sX2_keep 156) [.ref 101] S Qr Qx := by
  obtain ⟨nx, ⟨a, b, c, d, f⟩, g⟩ := hH
  refine e_histKeep a d S b c (h _ ⟨nx9 nx, ?_⟩ rfl (fun c hc => (u2_other _ _ _ hc).trans (u2_other _ _ _ hc)))
  have n9 : nx9 nx < 9 ∧ (nx9 nx = nx + 1 ∨ (nx9 nx = 0 ∧ nx = 8)) := by
    unfold nx9
    by_cases e : nx + 1 < 9
    · rw [if_pos e]; omega
    · rw [if_neg e]; omega
  have hl : ((w :: H).take 8).length = min (H.length + 1) 8 := by rw [List.length_take, List.length_cons, Nat.min_comm]
  refine ⟨n9.1, ?_, ?_, by rw [hl]; omega, fun i hi => ?_⟩
  · show u2 (u2 S.1 101 1 (nI (nx9 nx))) 101 2 (nI (min (H.length + 1) 8)) 101 1 = _
    rw [u2_j _ _ _ _ (by decide), u2_s]
  · rw [hl]; exact u2_s (u2 S.1 101 1 (nI (nx9 nx))) 101 2 (nI (min (H.length + 1) 8))
  · rw [hl] at hi
    rw [List.getElem_take]
    show rowO (S.2 (104 + 2 * ((nx9 nx + 8 - i) % 9))) _
    rcases i with _ | i
    · rw [show (nx9 nx + 8 - 0) % 9 = nx by omega]
      exact g
    · rw [show (nx9 nx + 8 - (i + 1)) % 9 = (nx + 8 - i) % 9 by omega]
      exact f i (by omega)
/-- history.row(), then now.load(..): what was saved is there again -/
theorem e_back {H : List (Nat → Int64)} {w : Nat → Int64} (S : Mem) (hH : hisP S w H) {Qr : QR} {Qx : QX} (h : ∀ S' n m ns, hisC S' H → deskR S' w n m ns → (∀ c, c = 0 ∨ 121 ≤ c → S'.1 c = S.1 c ∧ S'.2 c = S.2 c) → S'.1 101 = S.1 101 → Qr none S') :
    vsp 156 2 (sX2_row 156) [.ref 101] S (fun v S1 => ∃ r, v = some (.ref r) ∧ vsp 156 1 (sX1_load 156) [.ref 1, .ref r] S1 Qr Qx) Qx := by
  obtain ⟨nx, ⟨a, b, c, d, f⟩, ⟨O, n, m, ns, hO, hX⟩⟩ := hH
  refine e_histRow a S b ⟨_, rfl, ?_⟩
  refine e_dskBack (O := O) (isRow_at nx a) (by omega) (u2 S.1 (103 + 2 * nx) 1 0, S.2) (u2_s _ _ _ _) hO.dN hO.dM (by rw [show 103 + 2 * nx + 1 = 104 + 2 * nx by omega]; exact hX) (fun S' e1 e2 e3 => ?_)
  have f1 : ∀ c, c = 0 ∨ 101 ≤ c → c ≠ 103 + 2 * nx → S'.1 c = S.1 c := fun c x y => (e2 c x y).trans (u2_other _ _ _ y)
  refine h S' n m ns ⟨nx, ⟨a, by rw [f1 101 (by decide) (by omega)]; exact b, by rw [f1 101 (by decide) (by omega)]; exact c, d, fun i hi => ?_⟩⟩ (hO.same e1) (fun c x => ⟨f1 c (by omega) (by omega), e3 c (by omega)⟩) (f1 101 (by decide) (by omega))
  rw [e3 _ (by omega)]; exact f i hi
/-- history.stepBack() -/
theorem e_step {H : List (Nat → Int64)} (S : Mem) (hH : hisC S H) {Qr : QR} {Qx : QX} (h0 : H = [] → Qr (some (.int 0)) S) (h : ∀ w H' S', H = w :: H' → hisP S' w H' → S'.2 = S.2 → (∀ c, c ≠ 101 → S'.1 c = S.1 c) → Qr (some (.int 1)) S') : vsp 156 2 (sX2_stepBack 156) [.ref 101] S Qr Qx := by
  obtain ⟨nx, ⟨a, b, c, d, f⟩⟩ := hH
  refine e_histBack a d S b c (fun e => h0 (List.eq_nil_of_length_eq_zero e)) (fun hp => ?_)
  cases H with
  | nil => exact absurd hp (by decide)
  | cons w H' =>
    have p9 : pv9 nx < 9 ∧ (nx = pv9 nx + 1 ∨ (pv9 nx = 8 ∧ nx = 0)) := by
      unfold pv9
      by_cases e : 0 < nx
      · rw [if_pos e]; omega
      · rw [if_neg e]; omega
    rw [List.length_cons] at d
    refine h w H' _ rfl ⟨pv9 nx, ⟨p9.1, ?_, ?_, by omega, fun i hi => ?_⟩, ?_⟩ rfl (fun c hc => (u2_other _ _ _ hc).trans (u2_other _ _ _ hc))
    · show u2 (u2 S.1 101 1 (nI (pv9 nx))) 101 2 (nI ((w :: H').length - 1)) 101 1 = _
      rw [u2_j _ _ _ _ (by decide), u2_s]
    · show u2 (u2 S.1 101 1 (nI (pv9 nx))) 101 2 (nI ((w :: H').length - 1)) 101 2 = _
      rw [u2_s, List.length_cons, Nat.add_sub_cancel]
    · have := f (i + 1) (by rw [List.length_cons]; omega)
      show rowO (S.2 (104 + 2 * ((pv9 nx + 8 - i) % 9))) H'[i]
      rw [show (pv9 nx + 8 - i) % 9 = (nx + 8 - (i + 1)) % 9 by omega]
      exact this
    · have := f 0 (by rw [List.length_cons]; omega)
      show rowO (S.2 (104 + 2 * pv9 nx)) w
      rw [show pv9 nx = (nx + 8 - 0) % 9 by omega]
      exact this
/-- the model's past rows -/
def hisM (S : Mem) (H : List (Nat → Int64)) : Prop := S.1 138 13 = nI H.length ∧ H.length ≤ 8 ∧ ∀ i (hi : i < H.length) j, j < 754 → S.2 (145 + (H.length - 1 - i)) j = H[i] j
theorem hisM_rem {S S' : Mem} {H : List (Nat → Int64)} {w : Nat → Int64} (h : hisM S H) (hw : ∀ i, i < 754 → S.2 141 i = w i) (r : remR S S' H.length) : hisM S' ((w :: H).take 8) := by
  obtain ⟨a, b, c⟩ := h
  obtain ⟨r1, r2, r3, r4⟩ := r
  have hl : ((w :: H).take 8).length = min (H.length + 1) 8 := by rw [List.length_take, List.length_cons, Nat.min_comm]
  refine ⟨?_, by rw [hl]; omega, fun i hi j hj => ?_⟩
  · rw [r4, hl]; exact u2_s _ _ _ _
  · have hq : ((w :: H).take 8).length - 1 - i = min (H.length + 1) 8 - 1 - i := by rw [hl]
    rw [List.getElem_take, hq]
    rw [hl] at hi
    rcases i with _ | i
    · rw [show min (H.length + 1) 8 - 1 - 0 = min H.length 7 by omega, r2 j hj]
      exact hw j hj
    · have := r1 (min (H.length + 1) 8 - 1 - (i + 1)) (by omega) j hj
      rw [this]
      have := c i (by omega) j hj
      show _ = H[i] j
      rw [← this]
      by_cases e : H.length = 8
      · rw [if_pos e, show min (H.length + 1) 8 - 1 - (i + 1) + 1 = H.length - 1 - i by omega]
      · rw [if_neg e, show min (H.length + 1) 8 - 1 - (i + 1) = H.length - 1 - i by omega]
