/-! ===== objects in the making: which references are set so far ===== -/
abbrev ZM : Type := Nat → Nat → Bool
def zv (b k : Nat) (f : Nat → Int32) (g : Nat → Int64) (z : Nat → Bool) (j t : Nat) : Value := match t with
  | 0 => .int (f j)
  | 1 => .long (g j)
  | 2 => .int (f j)
  | n + 3 => bif z j then .ref (b + (k + n)) else .null
def zvs (b k : Nat) (f : Nat → Int32) (g : Nat → Int64) (z : Nat → Bool) (ci : Nat) : List Value := (List.range (ftab ci).length).map (fun j => zv b k f g z j ((ftab ci).getD j 0))
def zelT (b : Nat) (cA : Nat → ClassId) (k : Nat) (f : Nat → Int32) (g : Nat → Int64) (z : Nat → Bool) (ty : Nat × Nat × Nat × Nat) : va_E := match ty with
  | (0, ci, _, _) => .inr (ci, zvs b k f g z ci)
  | (1, n, _, _) => .inl (cA 1, n, .inr (.inl g))
  | (2, n, _, _) => .inl (cA 2, n, .inl f)
  | (3, n, _, _) => .inl (cA 3, n, .inl f)
  | (t + 4, n, o, w) => .inl (cA (t + 4), n, .inr (.inr (.inr (.inr (fun i => bif z i then some (b + (o + w * i)) else none)))))
def zel (b : Nat) (cA : Nat → ClassId) (k : Nat) (S : Mem) (Z : ZM) : va_E := zelT b cA k (S.1 k) (S.2 k) (Z k) (tyOf k)
def wz (n b : Nat) (cA : Nat → ClassId) (S : Mem) (Z : ZM) : va_W := (List.range n).map (fun k => (b + k, zel b cA k S Z))
def MZ (n b : Nat) (D : va_G) (cA : Nat → ClassId) (S : Mem) (Z : ZM) (H : Heap) : Prop := va_P D vwCl (wz n b cA S Z) H
theorem wz_get {n b : Nat} {cA : Nat → ClassId} {S : Mem} {Z : ZM} {k : Nat} (h : k < n) : (wz n b cA S Z)[k]? = some (b + k, zel b cA k S Z) := by
  unfold wz
  rw [List.getElem?_map, List.getElem?_range h]
  rfl
theorem wz_len (n b : Nat) (cA : Nat → ClassId) (S : Mem) (Z : ZM) : (wz n b cA S Z).length = n := by simp [wz]
theorem wz_at {n b : Nat} {cA : Nat → ClassId} {S : Mem} {Z : ZM} {i : Nat} {q : Nat × va_E} (h : (wz n b cA S Z)[i]? = some q) : i < n ∧ q = (b + i, zel b cA i S Z) := by
  have h1 : i < n := by
    have := (List.getElem?_eq_some_iff.mp h).1
    rwa [wz_len] at this
  rw [wz_get h1] at h
  exact ⟨h1, (Option.some.inj h).symm⟩
theorem wz_D (n b : Nat) (cA : Nat → ClassId) (S : Mem) (Z : ZM) : va_D (AB b) (wz n b cA S Z) := by
  refine ⟨fun i j x y hi hj hxy => ?_, fun k q hk => ?_⟩
  · obtain ⟨-, rfl⟩ := wz_at hi
    obtain ⟨-, rfl⟩ := wz_at hj
    have : b + i = b + j := hxy
    omega
  · obtain ⟨-, rfl⟩ := wz_at hk
    exact Nat.le_add_right b k
theorem wz_set {n b : Nat} {cA : Nat → ClassId} {S S2 : Mem} {Z Z2 : ZM} {k : Nat} {e : va_E} (hk : k < n) (he : zel b cA k S2 Z2 = e) (ho : ∀ a, a ≠ k → S2.1 a = S.1 a ∧ S2.2 a = S.2 a ∧ Z2 a = Z a) : (wz n b cA S Z).set k (b + k, e) = wz n b cA S2 Z2 := by
  refine List.ext_getElem? (fun i => ?_)
  by_cases hi : i = k
  · subst hi
    rw [List.getElem?_set_self (by rw [wz_len]; exact hk), wz_get hk, he]
  · rw [List.getElem?_set_ne (Ne.symm hi)]
    by_cases hn : i < n
    · rw [wz_get hn, wz_get hn]
      unfold zel
      rw [(ho i hi).1, (ho i hi).2.1, (ho i hi).2.2]
    · rw [List.getElem?_eq_none (by rw [wz_len]; omega), List.getElem?_eq_none (by rw [wz_len]; omega)]
theorem wz_succ (n b : Nat) (cA : Nat → ClassId) (S : Mem) (Z : ZM) : wz (n + 1) b cA S Z = wz n b cA S Z ++ [(b + n, zel b cA n S Z)] := by
  unfold wz
  rw [List.range_succ, List.map_append]
  rfl
theorem zvs_get {b k : Nat} {f : Nat → Int32} {g : Nat → Int64} {z : Nat → Bool} {ci j t : Nat} (h : (ftab ci)[j]? = some t) : (zvs b k f g z ci)[j]? = some (zv b k f g z j t) := by
  have hl := (List.getElem?_eq_some_iff.mp h).1
  unfold zvs
  rw [List.getElem?_map, List.getElem?_range hl]
  simp only [Option.map_some, List.getD_eq_getElem?_getD, h, Option.getD_some]
theorem zvs_len (b k : Nat) (f : Nat → Int32) (g : Nat → Int64) (z : Nat → Bool) (ci : Nat) : (zvs b k f g z ci).length = (ftab ci).length := by simp [zvs]
theorem zvs_set {b k : Nat} {f f2 : Nat → Int32} {g g2 : Nat → Int64} {z z2 : Nat → Bool} {ci j t : Nat} {v : Value} (h : (ftab ci)[j]? = some t) (hv : zv b k f2 g2 z2 j t = v) (ho : ∀ i, i ≠ j → f2 i = f i ∧ g2 i = g i ∧ z2 i = z i) : zvs b k f2 g2 z2 ci = (zvs b k f g z ci).set j v := by
  have hl := (List.getElem?_eq_some_iff.mp h).1
  refine List.ext_getElem? (fun i => ?_)
  by_cases hi : i = j
  · subst hi
    rw [zvs_get h, List.getElem?_set_self (by rw [zvs_len]; exact hl), hv]
  · rw [List.getElem?_set_ne (Ne.symm hi)]
    cases hx : (ftab ci)[i]? with
    | none =>
      have hn : (ftab ci).length ≤ i := List.getElem?_eq_none_iff.mp hx
      rw [List.getElem?_eq_none (by rw [zvs_len]; exact hn), List.getElem?_eq_none (by rw [zvs_len]; exact hn)]
    | some y =>
      rw [zvs_get hx, zvs_get hx]
      have h1 := ho i hi
      match y with
      | 0 => simp [zv, h1.1]
      | 1 => simp [zv, h1.2.1]
      | 2 => simp [zv, h1.1]
      | n + 3 => simp [zv, h1.2.2]
theorem zel_o {b : Nat} {cA : Nat → ClassId} {k ci : Nat} {S : Mem} {Z : ZM} (h : tyOf k = (0, ci, 0, 0)) : zel b cA k S Z = .inr (ci, zvs b k (S.1 k) (S.2 k) (Z k) ci) := by
  unfold zel; rw [h]; rfl
theorem zel_l {b : Nat} {cA : Nat → ClassId} {k n : Nat} {S : Mem} {Z : ZM} (h : tyOf k = (1, n, 0, 0)) : zel b cA k S Z = .inl (cA 1, n, .inr (.inl (S.2 k))) := by
  unfold zel; rw [h]; rfl
theorem zel_i {b : Nat} {cA : Nat → ClassId} {k n : Nat} {S : Mem} {Z : ZM} (h : tyOf k = (2, n, 0, 0)) : zel b cA k S Z = .inl (cA 2, n, .inl (S.1 k)) := by
  unfold zel; rw [h]; rfl
theorem zel_b {b : Nat} {cA : Nat → ClassId} {k n : Nat} {S : Mem} {Z : ZM} (h : tyOf k = (3, n, 0, 0)) : zel b cA k S Z = .inl (cA 3, n, .inl (S.1 k)) := by
  unfold zel; rw [h]; rfl
theorem zel_r {b : Nat} {cA : Nat → ClassId} {k t n o w : Nat} {S : Mem} {Z : ZM} (h : tyOf k = (t + 4, n, o, w)) : zel b cA k S Z = .inl (cA (t + 4), n, .inr (.inr (.inr (.inr (fun i => bif Z k i then some (b + (o + w * i)) else none))))) := by
  unfold zel; rw [h]; rfl
/-- what a new object holds -/
def dv (t : Nat) : Value := match t with
  | 0 => .int 0
  | 1 => .long 0
  | 2 => .int 0
  | _ + 3 => .null
theorem zvs_0 (b k ci : Nat) : zvs b k (fun _ => 0) (fun _ => 0) (fun _ => false) ci = (ftab ci).map dv := by
  refine List.ext_getElem? (fun i => ?_)
  cases hx : (ftab ci)[i]? with
  | none =>
    have hn : (ftab ci).length ≤ i := List.getElem?_eq_none_iff.mp hx
    rw [List.getElem?_eq_none (by rw [zvs_len]; exact hn), List.getElem?_map, hx]
    rfl
  | some y =>
    rw [zvs_get hx, List.getElem?_map, hx]
    match y with
    | 0 => rfl
    | 1 => rfl
    | 2 => rfl
    | n + 3 => rfl
theorem wl_dflt : ∀ (ci : Nat) (q : vw_C), vwCl[ci]? = some q → ∀ j, j < q.2.2 → (parseFieldDescriptor (q.2.1 j).2.2.1).map defaultValue = some (vp_V ((ftab ci).map dv) j) := by
  intro ci q h
  match ci, h with
  | 0, h => cases h; decide +kernel
  | 1, h => cases h; decide +kernel
  | 2, h => cases h; decide +kernel
  | 3, h => cases h; decide +kernel
  | 4, h => cases h; decide +kernel
  | 5, h => cases h; decide +kernel
  | 6, h => cases h; decide +kernel
  | 7, h => cases h; decide +kernel
  | 8, h => cases h; decide +kernel
  | 9, h => cases h; decide +kernel
  | 10, h => cases h; decide +kernel
  | n + 11, h => simp [vwCl] at h
/-- a key that isn't made yet -/
def blnk (S : Mem) (Z : ZM) (n : Nat) : Prop := ∀ a, n ≤ a → S.1 a = (fun _ => 0) ∧ S.2 a = (fun _ => 0) ∧ Z a = (fun _ => false)
section ZRW
variable {p : Program} {l : Launch} {e : Env} {R : Room} {s : State} {m : MethodId} {args : Array Value} {below : List Frame} {meth : Method} {c : Code} {H : Heap} {locs : List Loc} {cells slots : Nat} {Q : State → Prop}
variable {cc : ByteArray} {pc nL : Nat} {ls : Array Slot} {n b : Nat} {cA : Nat → Nat} {D : va_G} {own : String} {S : Mem} {Z : ZM} {rest : List Value}
theorem z_size {g : JFrame} (hM : MZ n b D cA S Z H) (hS : va_S (AB b) s.heap H locs) (hbs : b ≤ s.heap.size) (hcn : s.heap.size + cells = b + n) (kk : H.size = b + n → W p l e R s m args below meth c H locs cells slots Q g) : W p l e R s m args below meth c H locs cells slots Q g := by
  intro T hT X
  have h1 := X.heapSize
  rw [hT] at h1
  have h2 : b + n ≤ H.size := by
    rcases Nat.eq_zero_or_pos n with h | h
    · have := hS.1; omega
    · have := (hM (n - 1) _ (wz_get (by omega))).lt
      have : b + (n - 1) < H.size := this
      omega
  exact kk (by omega) T hT X
theorem z_grow {H1 : Heap} (hM : MZ n b D cA S Z H) (hS : va_S (AB b) s.heap H locs) (hsz : H.size = b + n) (z1 : H1.size = b + n + 1) (o1 : ∀ q, q < b + n → H1[q]? = H[q]?) (hn : va_at D vwCl (b + n, zel b cA n S Z) H1) : MZ (n + 1) b D cA S Z H1 ∧ va_S (AB b) s.heap H1 locs := by
  have hk : ∀ (k : Nat) (x : Nat × va_E), (wz n b cA S Z)[k]? = some x → H1[x.1]? = H[x.1]? := fun k x hx => o1 x.1 (by have := (hM k x hx).lt; omega)
  refine ⟨?_, by have := hS.1; omega, fun x h1 h2 => (o1 x (by have := hS.1; omega)).trans (hS.2.1 x h1 h2), hS.2.2⟩
  show va_P D vwCl (wz (n + 1) b cA S Z) H1
  rw [wz_succ]
  refine (va_P.kept hM hk).app (fun k x hx => ?_)
  have h0 : k < 1 := (List.getElem?_eq_some_iff.mp hx).1
  rw [show k = 0 by omega] at hx
  cases hx
  exact hn
theorem z_new (X : CX p s m args c cc nL own D cA) (hM : MZ n b D cA S Z H) (hS : va_S (AB b) s.heap H locs) (hbs : b ≤ s.heap.size) (hcn : s.heap.size + cells = b + n) {ci idx N : Nat} {C : String} {T : u_T} (hc : vwCl[ci]? = some (C, T, N)) (hty : tyOf n = (0, ci, 0, 0)) (hz : blnk S Z n) (hcl : Cond.classLink own idx C ∈ wG) (hinst : Cond.instantiable C N ∈ wG) (hini : Cond.initialized C ∈ wG) (hc1 : cells + 1 ≤ R.cells) (hs1 : slots + N ≤ R.slots) (hd : decode cc pc = .ok (.new idx, 3))
    (kk : ∀ H1 : Heap, MZ (n + 1) b D cA S Z H1 → va_S (AB b) s.heap H1 locs → W p l e R s m args below meth c H1 locs (cells + 1) (slots + N) Q (F0 m (pc + 3) ls (.ref (b + n) :: rest))) : W p l e R s m args below meth c H locs cells slots Q (F0 m pc ls rest) := by
  obtain ⟨hx, hb, hml, hown, hts, hK, hN⟩ := X
  refine z_size hM hS hbs hcn (fun hsz => ?_)
  have hKn := hK.1 ci _ hc
  obtain ⟨ty, hty0, hnm⟩ := wl_types ci _ hc
  refine W.newcK hx hb hown (hts _ hcl) (hts _ hinst) (hts _ hini) rfl hd hc1 hs1 hKn.2.1 hsz (fun H1 kC hkC e1 z1 o1 => ?_)
  obtain ⟨g1, g2⟩ := z_grow hM hS hsz z1 o1 (by
    rw [zel_o hty, (hz n (Nat.le_refl n)).1, (hz n (Nat.le_refl n)).2.1, (hz n (Nat.le_refl n)).2.2, zvs_0]
    refine ⟨_, hc, (u_born ty hts (wl_good ci _ hc) hKn hkC e1 hty0).to (fun j hj => ?_)⟩
    have h := wl_dflt ci _ hc j hj
    rw [hty0 j hj] at h
    exact Option.some.inj h)
  exact kk H1 g1 g2
theorem z_newl (X : CX p s m args c cc nL own D cA) (hM : MZ n b D cA S Z H) (hS : va_S (AB b) s.heap H locs) (hbs : b ≤ s.heap.size) (hcn : s.heap.size + cells = b + n) {k : Nat} {v : Int32} (hty : tyOf n = (1, k, 0, 0)) (hz : blnk S Z n) (hv : v = nI k) (hk : k < 1000) (harr : Cond.arrayClass .long ∈ wG) (hc1 : cells + 1 ≤ R.cells) (hs1 : slots + k ≤ R.slots) (hd : decode cc pc = .ok (.newarray .long, 2))
    (kk : ∀ H1 : Heap, MZ (n + 1) b D cA S Z H1 → va_S (AB b) s.heap H1 locs → W p l e R s m args below meth c H1 locs (cells + 1) (slots + k) Q (F0 m (pc + 2) ls (.ref (b + n) :: rest))) : W p l e R s m args below meth c H locs cells slots Q (F0 m pc ls (.int v :: rest)) := by
  obtain ⟨hx, hb, hml, hown, hts, hK, hN⟩ := X
  subst hv
  refine z_size hM hS hbs hcn (fun hsz => ?_)
  refine va_newaK (atype := .long) hx hb (hts _ harr) rfl hd rfl (nI_pos (by omega)) (nI_clamp (by omega)) (show k * 8 ≤ 536870912 by omega) hc1 hs1 hsz (fun H1 cX e1 z1 o1 _ hNm => ?_)
  have hc : cX = cA 1 := Option.some.inj (hNm.symm.trans (hK.2 0 (cA 1, .long) rfl).2)
  subst hc
  obtain ⟨g1, g2⟩ := z_grow hM hS hsz z1 o1 (by
    rw [zel_l hty, (hz n (Nat.le_refl n)).2.1]
    show H1[b + n]? = some (vp_cell (cA 1) (k, .inr (.inl (fun _ => 0))))
    rw [e1, vp_cell_l]; rfl)
  exact kk H1 g1 g2
theorem z_newi (X : CX p s m args c cc nL own D cA) (hM : MZ n b D cA S Z H) (hS : va_S (AB b) s.heap H locs) (hbs : b ≤ s.heap.size) (hcn : s.heap.size + cells = b + n) {k : Nat} {v : Int32} (hty : tyOf n = (2, k, 0, 0)) (hz : blnk S Z n) (hv : v = nI k) (hk : k < 1000) (harr : Cond.arrayClass .int ∈ wG) (hc1 : cells + 1 ≤ R.cells) (hs1 : slots + k ≤ R.slots) (hd : decode cc pc = .ok (.newarray .int, 2))
    (kk : ∀ H1 : Heap, MZ (n + 1) b D cA S Z H1 → va_S (AB b) s.heap H1 locs → W p l e R s m args below meth c H1 locs (cells + 1) (slots + k) Q (F0 m (pc + 2) ls (.ref (b + n) :: rest))) : W p l e R s m args below meth c H locs cells slots Q (F0 m pc ls (.int v :: rest)) := by
  obtain ⟨hx, hb, hml, hown, hts, hK, hN⟩ := X
  subst hv
  refine z_size hM hS hbs hcn (fun hsz => ?_)
  refine va_newaK (atype := .int) hx hb (hts _ harr) rfl hd rfl (nI_pos (by omega)) (nI_clamp (by omega)) (show k * 4 ≤ 536870912 by omega) hc1 hs1 hsz (fun H1 cX e1 z1 o1 _ hNm => ?_)
  have hc : cX = cA 2 := Option.some.inj (hNm.symm.trans (hK.2 1 (cA 2, .int) rfl).2)
  subst hc
  obtain ⟨g1, g2⟩ := z_grow hM hS hsz z1 o1 (by
    rw [zel_i hty, (hz n (Nat.le_refl n)).1]
    show H1[b + n]? = some (vp_cell (cA 2) (k, .inl (fun _ => 0)))
    rw [e1, vp_cell_i]; rfl)
  exact kk H1 g1 g2
theorem z_newb (X : CX p s m args c cc nL own D cA) (hM : MZ n b D cA S Z H) (hS : va_S (AB b) s.heap H locs) (hbs : b ≤ s.heap.size) (hcn : s.heap.size + cells = b + n) {k : Nat} {v : Int32} (hty : tyOf n = (3, k, 0, 0)) (hz : blnk S Z n) (hv : v = nI k) (hk : k < 1000) (harr : Cond.arrayClass .byte ∈ wG) (hc1 : cells + 1 ≤ R.cells) (hs1 : slots + k ≤ R.slots) (hd : decode cc pc = .ok (.newarray .byte, 2))
    (kk : ∀ H1 : Heap, MZ (n + 1) b D cA S Z H1 → va_S (AB b) s.heap H1 locs → W p l e R s m args below meth c H1 locs (cells + 1) (slots + k) Q (F0 m (pc + 2) ls (.ref (b + n) :: rest))) : W p l e R s m args below meth c H locs cells slots Q (F0 m pc ls (.int v :: rest)) := by
  obtain ⟨hx, hb, hml, hown, hts, hK, hN⟩ := X
  subst hv
  refine z_size hM hS hbs hcn (fun hsz => ?_)
  refine va_newaK (atype := .byte) hx hb (hts _ harr) rfl hd rfl (nI_pos (by omega)) (nI_clamp (by omega)) (show k * 1 ≤ 536870912 by omega) hc1 hs1 hsz (fun H1 cX e1 z1 o1 _ hNm => ?_)
  have hc : cX = cA 3 := Option.some.inj (hNm.symm.trans (hK.2 2 (cA 3, .byte) rfl).2)
  subst hc
  obtain ⟨g1, g2⟩ := z_grow hM hS hsz z1 o1 (by
    rw [zel_b hty, (hz n (Nat.le_refl n)).1]
    show H1[b + n]? = some (vp_cell (cA 3) (k, .inl (fun _ => 0)))
    rw [e1, vp_cell_i]; rfl)
  exact kk H1 g1 g2
/-- a row of references; t: which kind -/
theorem z_newq (X : CX p s m args c cc nL own D cA) (hM : MZ n b D cA S Z H) (hS : va_S (AB b) s.heap H locs) (hbs : b ≤ s.heap.size) (hcn : s.heap.size + cells = b + n) {k t o w idx : Nat} {v : Int32} {C : String} (hty : tyOf n = (t + 4, k, o, w)) (hz : blnk S Z n) (hv : v = nI k) (hk : k < 1000) (htt : (tysW cA)[t + 3]? = some (cA (t + 4), .object C)) (hcl : Cond.classLink own idx C ∈ wG) (hao : va_AO C s) (hc1 : cells + 1 ≤ R.cells) (hs1 : slots + k ≤ R.slots) (hd : decode cc pc = .ok (.anewarray idx, 3))
    (kk : ∀ H1 : Heap, MZ (n + 1) b D cA S Z H1 → va_S (AB b) s.heap H1 locs → W p l e R s m args below meth c H1 locs (cells + 1) (slots + k) Q (F0 m (pc + 3) ls (.ref (b + n) :: rest))) : W p l e R s m args below meth c H locs cells slots Q (F0 m pc ls (.int v :: rest)) := by
  obtain ⟨hx, hb, hml, hown, hts, hK, hN⟩ := X
  subst hv
  refine z_size hM hS hbs hcn (fun hsz => ?_)
  have hcl' : (nI k).toNatClampNeg = k := nI_clamp (by omega)
  refine W.anew hx hb hown (hts _ hcl) (va_AO.use hao) rfl hd rfl (nI_pos (by omega)) (by rw [hcl']; omega) hc1 (by rw [hcl']; exact hs1) (fun cX kA comp f1 f2 f3 f4 => ?_)
  rw [hcl']
  obtain ⟨kA', comp', -, -, -, f5⟩ := (hK.2 (t + 3) _ htt).2
  have hc : cX = cA (t + 4) := Option.some.inj (f1.symm.trans f5)
  subst hc
  generalize hH1 : H.push ({ cls := cA (t + 4), slots := Array.replicate k .null, vm := .none } : Cell) = H1
  have z1 : H1.size = b + n + 1 := by rw [← hH1, Array.size_push, hsz]
  have e1 : H1[b + n]? = some (arrV (cA (t + 4)) k (fun _ => .null)) := by rw [← hH1, ← hsz, Array.getElem?_push_size, ← arrV_new]
  have o1 : ∀ q : Nat, q < b + n → H1[q]? = H[q]? := fun q hq => by rw [← hH1, Array.getElem?_push, if_neg (by omega)]
  obtain ⟨g1, g2⟩ := z_grow hM hS hsz z1 o1 (by
    rw [zel_r hty, (hz n (Nat.le_refl n)).2.2]
    show H1[b + n]? = some (vp_cell (cA (t + 4)) (k, .inr (.inr (.inr (.inr (fun _ => none))))))
    rw [e1, vp_cell_q]; rfl)
  have := kk H1 g1 g2
  rw [← hsz] at this
  exact this
end ZRW
