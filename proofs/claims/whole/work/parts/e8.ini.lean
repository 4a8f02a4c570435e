/-! ===== what holds when the law's loop begins ===== -/
theorem wIni_o {i : Nat} (h0 : i ≠ 0) (h1 : i ≠ 1) (h2 : i ≠ 2) (h3 : i < 5 ∨ 14 ≤ i) (h4 : i ≠ 50) (h5 : i ≠ 51) : wIni i = 0 := by
  unfold wIni wDepL
  rw [u1L_o _ _ (by omega), u1L_o _ _ (by omega), u1L_o _ _ (by omega), u1L_o _ _ (by omega), u1L_o _ _ (by omega), u1L_o _ _ (by omega), u1L_o _ _ (by omega), u1L_o _ _ (by omega), u1L_o _ _ (by omega), u1L_o _ _ (by omega), u1L_o _ _ (by omega), u1L_o _ _ (by omega), u1L_o _ _ (by omega), u1L_o _ _ (by omega)]
theorem wIni_z (i : Nat) (h : zP i) : wIni i = 0 := by
  unfold zP at h
  exact wIni_o (by omega) (by omega) (by omega) (by omega) (by omega) (by omega)
theorem wIni_d : WFd wIni 0 := by
  refine ⟨Or.inr (by decide), ⟨100, by decide, by decide⟩, ⟨0, by decide, by decide⟩, ⟨0, by decide, by decide⟩, ⟨0, by decide, by decide, fun i hi => absurd hi (by omega), fun i _ hi => ?_⟩, Or.inl ⟨by decide, by decide⟩⟩
  rcases (show i = 0 ∨ i = 1 by omega) with rfl | rfl <;> decide
theorem wIni_p : WFp wIni 0 := ⟨⟨100, by decide, by decide, by decide⟩, ⟨100, by decide, by decide⟩, ⟨0, by decide, by decide⟩, Or.inl (by decide)⟩
theorem wIni_t : WFt wIni 1 1 := by
  refine ⟨by decide, by decide, by decide, by decide, Or.inr (by decide), fun d hd => ?_, fun p hp => ?_⟩
  · obtain rfl : d = 0 := by omega
    exact wIni_d
  · obtain rfl : p = 0 := by omega
    exact wIni_p
theorem wIni_w : pWhl wIni 1 1 := ⟨by decide, by decide, 0, by decide, by decide⟩
theorem wIni_I : WI wIni 0 := new_WI wIni_t wIni_w wIni_z
theorem ini_o {S' : Mem} (h : dskF (u2 S00.1 0 0 (-1), S00.2) S') : (∀ c, c = 0 ∨ 101 ≤ c → S'.1 c = u2 S00.1 0 0 (-1) c) ∧ ∀ c, c = 0 ∨ 101 ≤ c → S'.2 c = fun _ => 0 := by
  obtain ⟨Z, ⟨-, -, -, -, z1, z2⟩, e2, e1⟩ := h
  refine ⟨fun c hc => ?_, fun c hc => ?_⟩
  · rw [e1, u2_other _ _ _ (by omega), u2_other _ _ _ (by omega), u2_other _ _ _ (by omega), u2_other _ _ _ (by omega)]
    exact z1 c hc
  · rw [e2]; exact z2 c hc
theorem ini_b {S' : Mem} (h : dskF (u2 S00.1 0 0 (-1), S00.2) S') : blnk S' (zW 138) 138 := fun a ha => by
  obtain ⟨o1, o2⟩ := ini_o h
  refine ⟨(o1 a (by omega)).trans (u2_other _ _ _ (by omega)), o2 a (by omega), ?_⟩
  funext i
  exact Bool.eq_false_iff.mpr (fun z => by have := Nat.le_of_ble_eq_true z; omega)
theorem ini_d {S' : Mem} (h : dskF (u2 S00.1 0 0 (-1), S00.2) S') : deskR S' wIni 1 1 (fun _ => 0) := by
  obtain ⟨Z, hz, e2, e1⟩ := h
  have i1 : ∀ c j, ¬ (c = 1 ∧ (j = 2 ∨ j = 3)) → ¬ (c = 89 ∧ (j = 0 ∨ j = 1)) → S'.1 c j = Z.1 c j := fun c j a b => by
    rw [e1]
    have k : ∀ (f : Nat → Nat → Int32) (x y : Nat) (v : Int32), ¬ (c = x ∧ j = y) → u2 f x y v c j = f c j := fun f x y v n => by
      by_cases q : c = x
      · subst q; exact u2_j _ _ _ _ (fun w => n ⟨rfl, w⟩)
      · rw [u2_other _ _ _ q]
    rw [k _ _ _ _ (by omega), k _ _ _ _ (by omega), k _ _ _ _ (by omega), k _ _ _ _ (by omega)]
  have v12 : S'.1 1 2 = 1 := by
    rw [e1, u2_other _ _ _ (by decide), u2_other _ _ _ (by decide), u2_j _ _ _ _ (by decide), u2_s]
  have v13 : S'.1 1 3 = 1 := by
    rw [e1, u2_other _ _ _ (by decide), u2_other _ _ _ (by decide), u2_s]
  have v890 : S'.1 89 0 = 100 := by
    rw [e1, u2_j _ _ _ _ (by decide), u2_s]
  have v891 : S'.1 89 1 = 100 := by
    rw [e1, u2_s]
  refine deskR_new (J := []) (T := Z) hz ⟨rfl, fun _ _ => rfl, fun _ _ => rfl⟩ ⟨fun c j hc => i1 c j (by omega) (by omega), fun c _ => by rw [e2]⟩ ?_ wIni_z
  obtain ⟨zd, zp, ⟨-, -, q4, -, -⟩, -, -, -⟩ := hz
  refine ⟨wIni_t, v12, v13, ?_, fun d hd => ?_, fun d h1 h2 => ?_, fun p hp => ?_, fun p h1 h2 => ?_⟩
  · rw [i1 1 4 (by omega) (by omega), q4]; decide
  · obtain rfl : d = 0 := by omega
    obtain ⟨⟨a0, a1, a2, a3, a4, a6, a7, -, -, -⟩, -⟩ := zd 0 (by decide)
    refine ⟨?_, ?_, ?_, ?_, ⟨0, (by decide), ?_, by decide, fun i hi => absurd hi (by omega)⟩, ?_, ?_⟩
    · rw [i1 _ _ (by omega) (by omega), a0]; decide
    · rw [i1 _ _ (by omega) (by omega), a1]; decide
    · rw [i1 _ _ (by omega) (by omega), a2]; decide
    · rw [i1 _ _ (by omega) (by omega), a3]; decide
    · rw [i1 _ _ (by omega) (by omega), a4]; rfl
    · rw [i1 _ _ (by omega) (by omega), a6]; decide
    · rw [i1 _ _ (by omega) (by omega), a7]; decide
  · obtain ⟨⟨-, -, -, -, a4, a6, a7, -, -, -⟩, -⟩ := zd d h2
    rw [i1 _ _ (by omega) (by omega), i1 _ _ (by omega) (by omega), i1 _ _ (by omega) (by omega)]
    exact ⟨a4, a6, a7⟩
  · obtain rfl : p = 0 := by omega
    obtain ⟨a, -⟩ := zp 0 (by decide)
    intro j hj
    rcases (show j = 0 ∨ j = 1 ∨ j = 2 ∨ j = 3 by omega) with rfl | rfl | rfl | rfl
    · rw [show 89 + 3 * 0 = 89 from rfl, v890]; decide
    · rw [show 89 + 3 * 0 = 89 from rfl, v891]; decide
    · rw [i1 _ _ (by omega) (by omega), a 2 (by decide)]; decide
    · rw [i1 _ _ (by omega) (by omega), a 3 (by decide)]; decide
  · obtain ⟨a, -⟩ := zp p h2
    rw [i1 _ _ (by omega) (by omega)]
    exact a 3 (by decide)
theorem ini_INV {S' S'' : Mem} (h : dskF (u2 S00.1 0 0 (-1), S00.2) S') (e1 : S''.1 = u2 S'.1 138 5 (-1)) (e2 : ∀ c, c ≠ 141 → S''.2 c = S'.2 c) (e3 : S''.2 141 = wIni) : INV S'' 0 := by
  obtain ⟨o1, o2⟩ := ini_o h
  have d := ini_d h
  have f1 : ∀ c, c ≠ 138 → S''.1 c = S'.1 c := fun c hc => by rw [e1]; exact u2_other _ _ _ hc
  have z0 : ∀ c, 101 ≤ c → ∀ j, S'.1 c j = 0 := fun c hc j => by rw [o1 c (by omega), u2_other _ _ _ (by omega)]; rfl
  have c0 : CI S' 0 (fun _ => 0) (-1) (fun _ => 0) wIni [] := by
    refine ⟨?_, fun i hi => ?_, ⟨z0 121 (by decide) 1, (by decide), fun i hi => absurd hi (by omega)⟩, ⟨1, 1, _, d⟩, ⟨0, (by decide), z0 101 (by decide) 1, z0 101 (by decide) 2, (by decide), fun i hi => absurd hi (Nat.not_lt_zero i)⟩⟩
    · rw [o1 0 (Or.inl rfl), u2_s]
    · rw [o1 0 (Or.inl rfl), u2_j _ _ _ _ (by omega)]; rfl
  refine ⟨0, fun _ => 0, -1, fun _ => 0, wIni, [], c0.fc (fun c hc => ⟨f1 c (by omega), e2 c (by omega)⟩), ?_, wIni_I, fun h x => absurd x (by simp)⟩
  refine ⟨by rw [e1, u2_s], fun i hi => ?_, ⟨?_, fun i hi => absurd hi (by omega)⟩, fun i _ => by rw [e3], ⟨?_, (by decide), fun i hi => absurd hi (Nat.not_lt_zero i)⟩⟩
  · rw [f1 139 (by decide)]; exact z0 139 (by decide) i
  · rw [e1, u2_j _ _ _ _ (by decide)]; exact z0 138 (by decide) 2
  · rw [e1, u2_j _ _ _ _ (by decide)]; exact z0 138 (by decide) 13
