/-! ===== the memory: all that the law makes, at b + k; ints by (key, place), longs by (key, place) ===== -/
abbrev Mem : Type := (Nat → Nat → Int32) × (Nat → Nat → Int64)
abbrev LL : Type := List (Nat × Value)
def NK : Nat := 156
def u1 {α : Type} (f : Nat → α) (j : Nat) (v : α) : Nat → α := fun c => if c = j then v else f c
def u2 {α : Type} (f : Nat → Nat → α) (k j : Nat) (v : α) : Nat → Nat → α := fun a c => if a = k then (if c = j then v else f a c) else f a c
theorem u2_row {α : Type} (f : Nat → Nat → α) (k j : Nat) (v : α) : u2 f k j v k = u1 (f k) j v := by
  funext c; simp [u2, u1]
theorem u2_other {α : Type} (f : Nat → Nat → α) {k a : Nat} (j : Nat) (v : α) (h : a ≠ k) : u2 f k j v a = f a := by
  funext c; simp [u2, h]
def tyM (j : Nat) : Nat × Nat × Nat × Nat := match j with
  | 0 => (0, 4, 0, 0)
  | 1 => (0, 3, 0, 0)
  | 2 => (1, 4, 0, 0)
  | 3 => (0, 3, 0, 0)
  | _ => (1, 4, 0, 0)
def tyD (j : Nat) : Nat × Nat × Nat × Nat := match j with
  | 0 => (0, 0, 0, 0)
  | 1 => (1, 2, 0, 0)
  | 2 => (1, 4, 0, 0)
  | 3 => (0, 3, 0, 0)
  | 4 => (1, 4, 0, 0)
  | n + 5 => tyM n
def tyP (j : Nat) : Nat × Nat × Nat × Nat := match j with
  | 0 => (0, 6, 0, 0)
  | _ => (1, 40, 0, 0)
def tyR (j : Nat) : Nat × Nat × Nat × Nat := match j with
  | 0 => (0, 7, 0, 0)
  | _ => (1, 716, 0, 0)
def tyZ (j : Nat) : Nat × Nat × Nat × Nat := match j with
  | 0 => (0, 10, 0, 0)
  | 1 => (2, 3, 0, 0)
  | 2 => (2, 400, 0, 0)
  | 6 => (7, 8, 145, 1)
  | 15 => (1, 5, 0, 0)
  | 16 => (1, 5, 0, 0)
  | 17 => (1, 1, 0, 0)
  | n + 18 => (99, 0, 0, 0)
  | _ => (1, 754, 0, 0)
/-- what lies at a key: (0, class), (1 long[], 2 int[], 3 byte[], length), (4 .. 7 of references, length, the first's key, how far apart) -/
def tyOf (k : Nat) : Nat × Nat × Nat × Nat :=
  if k < 4 then (match k with | 0 => (0, 9, 0, 0) | 1 => (0, 1, 0, 0) | 2 => (4, 5, 4, 17) | _ => (5, 4, 89, 3))
  else if k < 89 then tyD ((k - 4) % 17)
  else if k < 101 then tyP ((k - 89) % 3)
  else if k < 103 then (if k = 101 then (0, 2, 0, 0) else (6, 9, 103, 2))
  else if k < 121 then tyR ((k - 103) % 2)
  else if k < 123 then (if k = 121 then (0, 8, 0, 0) else (3, 400, 0, 0))
  else if k < 126 then (if k = 123 then (0, 5, 0, 0) else (1, 5, 0, 0))
  else if k < 138 then tyM (k - 126)
  else tyZ (k - 138)
def fv (b k : Nat) (f : Nat → Int32) (g : Nat → Int64) (j t : Nat) : Value := match t with
  | 0 => .int (f j)
  | 1 => .long (g j)
  | 2 => .int (f j)
  | n + 3 => .ref (b + (k + n))
def fvs (b k : Nat) (f : Nat → Int32) (g : Nat → Int64) (ci : Nat) : List Value := (List.range (ftab ci).length).map (fun j => fv b k f g j ((ftab ci).getD j 0))
def celT (b : Nat) (cA : Nat → ClassId) (k : Nat) (f : Nat → Int32) (g : Nat → Int64) (ty : Nat × Nat × Nat × Nat) : va_E := match ty with
  | (0, ci, _, _) => .inr (ci, fvs b k f g ci)
  | (1, n, _, _) => .inl (cA 1, n, .inr (.inl g))
  | (2, n, _, _) => .inl (cA 2, n, .inl f)
  | (3, n, _, _) => .inl (cA 3, n, .inl f)
  | (t + 4, n, o, w) => .inl (cA (t + 4), n, .inr (.inr (.inr (.inr (fun i => some (b + (o + w * i)))))))
def cel (b : Nat) (cA : Nat → ClassId) (k : Nat) (f : Nat → Int32) (g : Nat → Int64) : va_E := celT b cA k f g (tyOf k)
/-- what lies at a key, of the first N -/
def tyN (N k : Nat) : Nat × Nat × Nat × Nat := if k < N then tyOf k else (99, 0, 0, 0)
def wl (N b : Nat) (cA : Nat → ClassId) (S : Mem) : va_W := (List.range N).map (fun k => (b + k, cel b cA k (S.1 k) (S.2 k)))
def MM (N b : Nat) (D : va_G) (cA : Nat → ClassId) (S : Mem) (H : Heap) : Prop := va_P D vwCl (wl N b cA S) H
def tysW (cA : Nat → ClassId) : List (ClassId × FieldType) := [(cA 1, .long), (cA 2, .int), (cA 3, .byte), (cA 4, .object RX0), (cA 5, .object RX6), (cA 6, .object RX7), (cA 7, .array .long)]
theorem wl_get {N b : Nat} {cA : Nat → ClassId} {S : Mem} {k : Nat} (h : k < N) : (wl N b cA S)[k]? = some (b + k, cel b cA k (S.1 k) (S.2 k)) := by
  unfold wl
  rw [List.getElem?_map, List.getElem?_range h]
  rfl
theorem wl_len (N b : Nat) (cA : Nat → ClassId) (S : Mem) : (wl N b cA S).length = N := by simp [wl]
theorem wl_at {N b : Nat} {cA : Nat → ClassId} {S : Mem} {i : Nat} {q : Nat × va_E} (h : (wl N b cA S)[i]? = some q) : i < N ∧ q = (b + i, cel b cA i (S.1 i) (S.2 i)) := by
  have h1 : i < N := by
    have := (List.getElem?_eq_some_iff.mp h).1
    rwa [wl_len] at this
  rw [wl_get h1] at h
  exact ⟨h1, (Option.some.inj h).symm⟩
theorem wl_D (N b : Nat) (cA : Nat → ClassId) (S : Mem) : va_D (fun q => b ≤ q) (wl N b cA S) := by
  refine ⟨fun i j x y hi hj hxy => ?_, fun k q hk => ?_⟩
  · obtain ⟨-, rfl⟩ := wl_at hi
    obtain ⟨-, rfl⟩ := wl_at hj
    have : b + i = b + j := hxy
    omega
  · obtain ⟨-, rfl⟩ := wl_at hk
    exact Nat.le_add_right b k
theorem wl_set {N b : Nat} {cA : Nat → ClassId} {S S2 : Mem} {k : Nat} {e : va_E} (hk : k < N) (he : cel b cA k (S2.1 k) (S2.2 k) = e) (ho : ∀ a, a ≠ k → S2.1 a = S.1 a ∧ S2.2 a = S.2 a) : (wl N b cA S).set k (b + k, e) = wl N b cA S2 := by
  refine List.ext_getElem? (fun i => ?_)
  by_cases hi : i = k
  · subst hi
    rw [List.getElem?_set_self (by rw [wl_len]; exact hk), wl_get hk, he]
  · rw [List.getElem?_set_ne (Ne.symm hi)]
    by_cases hn : i < N
    · rw [wl_get hn, wl_get hn, (ho i hi).1, (ho i hi).2]
    · rw [List.getElem?_eq_none (by rw [wl_len]; omega), List.getElem?_eq_none (by rw [wl_len]; omega)]
theorem fvs_get {b k : Nat} {f : Nat → Int32} {g : Nat → Int64} {ci j t : Nat} (h : (ftab ci)[j]? = some t) : (fvs b k f g ci)[j]? = some (fv b k f g j t) := by
  have hl := (List.getElem?_eq_some_iff.mp h).1
  unfold fvs
  rw [List.getElem?_map, List.getElem?_range hl]
  simp only [Option.map_some, List.getD_eq_getElem?_getD, h, Option.getD_some]
theorem fvs_len (b k : Nat) (f : Nat → Int32) (g : Nat → Int64) (ci : Nat) : (fvs b k f g ci).length = (ftab ci).length := by simp [fvs]
theorem fvs_set {b k : Nat} {f f2 : Nat → Int32} {g g2 : Nat → Int64} {ci j t : Nat} {v : Value} (h : (ftab ci)[j]? = some t) (hv : fv b k f2 g2 j t = v) (ho : ∀ i, i ≠ j → f2 i = f i ∧ g2 i = g i) : fvs b k f2 g2 ci = (fvs b k f g ci).set j v := by
  have hl := (List.getElem?_eq_some_iff.mp h).1
  refine List.ext_getElem? (fun i => ?_)
  by_cases hi : i = j
  · subst hi
    rw [fvs_get h, List.getElem?_set_self (by rw [fvs_len]; exact hl), hv]
  · rw [List.getElem?_set_ne (Ne.symm hi)]
    cases hx : (ftab ci)[i]? with
    | none =>
      have hn : (ftab ci).length ≤ i := List.getElem?_eq_none_iff.mp hx
      rw [List.getElem?_eq_none (by rw [fvs_len]; exact hn), List.getElem?_eq_none (by rw [fvs_len]; exact hn)]
    | some z =>
      rw [fvs_get hx, fvs_get hx]
      have h1 := ho i hi
      match z with
      | 0 => simp [fv, h1.1]
      | 1 => simp [fv, h1.2]
      | 2 => simp [fv, h1.1]
      | n + 3 => simp [fv]
theorem cel_obj {b : Nat} {cA : Nat → ClassId} {k ci : Nat} {f : Nat → Int32} {g : Nat → Int64} (h : tyOf k = (0, ci, 0, 0)) : cel b cA k f g = .inr (ci, fvs b k f g ci) := by
  unfold cel; rw [h]; rfl
theorem cel_l {b : Nat} {cA : Nat → ClassId} {k n : Nat} {f : Nat → Int32} {g : Nat → Int64} (h : tyOf k = (1, n, 0, 0)) : cel b cA k f g = .inl (cA 1, n, .inr (.inl g)) := by
  unfold cel; rw [h]; rfl
theorem cel_i {b : Nat} {cA : Nat → ClassId} {k n : Nat} {f : Nat → Int32} {g : Nat → Int64} (h : tyOf k = (2, n, 0, 0)) : cel b cA k f g = .inl (cA 2, n, .inl f) := by
  unfold cel; rw [h]; rfl
theorem cel_b {b : Nat} {cA : Nat → ClassId} {k n : Nat} {f : Nat → Int32} {g : Nat → Int64} (h : tyOf k = (3, n, 0, 0)) : cel b cA k f g = .inl (cA 3, n, .inl f) := by
  unfold cel; rw [h]; rfl
theorem cel_r {b : Nat} {cA : Nat → ClassId} {k t n o w : Nat} {f : Nat → Int32} {g : Nat → Int64} (h : tyOf k = (t + 4, n, o, w)) : cel b cA k f g = .inl (cA (t + 4), n, .inr (.inr (.inr (.inr (fun i => some (b + (o + w * i))))))) := by
  unfold cel; rw [h]; rfl
/-- each class's rows of the tables -/
theorem wl_words : ∀ (ci : Nat) (q : vw_C), vwCl[ci]? = some q → ∀ w ∈ u_ws q.1 q.2.1 q.2.2, w ∈ lw_tbl := by
  intro ci q h
  match ci, h with
  | 0, h => cases h; decide +kernel
  | 1, h => cases h; decide +kernel
  | 2, h => cases h; decide +kernel
  | 3, h => cases h; decide +kernel
  | 4, h => cases h; decide +kernel
  | 5, h => cases h; decide +kernel
  | 6, h => cases h; decide +kernel
  | 7, h => cases h; decide +kernel
  | 8, h => cases h; decide +kernel
  | 9, h => cases h; decide +kernel
  | 10, h => cases h; decide +kernel
  | n + 11, h => simp [vwCl] at h
theorem wl_types : ∀ (ci : Nat) (q : vw_C), vwCl[ci]? = some q → ∃ ty : Nat → FieldType, (∀ k, k < q.2.2 → parseFieldDescriptor (q.2.1 k).2.2.1 = some (ty k)) ∧ ∀ a, a < q.2.2 → ∀ b, b < q.2.2 → a ≠ b → (q.2.1 a).2.1 ≠ (q.2.1 b).2.1 := by
  intro ci q h
  match ci, h with
  | 0, h => cases h; exact ⟨tyX0, tyX0_ok, nmX0⟩
  | 1, h => cases h; exact ⟨tyX1, tyX1_ok, nmX1⟩
  | 2, h => cases h; exact ⟨tyX2, tyX2_ok, nmX2⟩
  | 3, h => cases h; exact ⟨tyX3, tyX3_ok, nmX3⟩
  | 4, h => cases h; exact ⟨tyX4, tyX4_ok, nmX4⟩
  | 5, h => cases h; exact ⟨tyX5, tyX5_ok, nmX5⟩
  | 6, h => cases h; exact ⟨tyX6, tyX6_ok, nmX6⟩
  | 7, h => cases h; exact ⟨tyX7, tyX7_ok, nmX7⟩
  | 8, h => cases h; exact ⟨tyX8, tyX8_ok, nmX8⟩
  | 9, h => cases h; exact ⟨tyX9, tyX9_ok, nmX9⟩
  | 10, h => cases h; exact ⟨tyX10, tyX10_ok, nmX10⟩
  | n + 11, h => simp [vwCl] at h
theorem tyZ_ge {j : Nat} (h : 18 ≤ j) : tyZ j = (99, 0, 0, 0) := by
  obtain ⟨n, rfl⟩ : ∃ n, j = n + 18 := ⟨j - 18, by omega⟩
  rfl
theorem ty_lt {k t n o w : Nat} (h : tyOf k = (t, n, o, w)) (ht : t ≠ 99 ∨ 0 < n) : k < NK := by
  rcases Nat.lt_or_ge k NK with hk | hk
  · exact hk
  · have hk2 : 156 ≤ k := hk
    exfalso
    unfold tyOf at h
    rw [if_neg (by omega), if_neg (by omega), if_neg (by omega), if_neg (by omega), if_neg (by omega), if_neg (by omega), if_neg (by omega), if_neg (by omega), tyZ_ge (by omega)] at h
    have h1 : 99 = t := congrArg Prod.fst h
    have h2 : 0 = n := congrArg (fun z => z.2.1) h
    omega
theorem tyN_spec {N k t n o w : Nat} (h : tyN N k = (t, n, o, w)) (ht : t ≠ 99 ∨ 0 < n) : k < N ∧ tyOf k = (t, n, o, w) := by
  unfold tyN at h
  by_cases hk : k < N
  · rw [if_pos hk] at h
    exact ⟨hk, h⟩
  · rw [if_neg hk] at h
    have h1 : 99 = t := congrArg Prod.fst h
    have h2 : 0 = n := congrArg (fun z => z.2.1) h
    omega
theorem tyN_k {N k t n o w : Nat} (h : tyN N k = (t, n, o, w)) (ht : t ≠ 99 ∨ 0 < n) : k < 156 := ty_lt (tyN_spec h ht).2 ht
theorem ty_D : ∀ d, d < 5 → ∀ j, j < 17 → tyN 156 (4 + 17 * d + j) = tyD j := by decide
theorem ty_P : ∀ p, p < 4 → ∀ j, j < 3 → tyN 156 (89 + 3 * p + j) = tyP j := by decide
theorem ty_R : ∀ p, p < 9 → ∀ j, j < 2 → tyN 156 (103 + 2 * p + j) = tyR j := by decide
theorem ty_past : ∀ p, p < 8 → tyN 156 (145 + p) = (1, 754, 0, 0) := by decide
