/-! ===== the machine does what is asked: memory, switches, ends ===== -/
def QcP (N b : Nat) (D : va_G) (cA sa : Nat → Nat) (Qr : Option Value → Mem → Prop) : Array Value → State → Outcome → State → Prop := fun _ st oc t => (∃ (v : Option Value) (S : Mem), oc = .returned (v.map (cv b sa)) ∧ Qr v S ∧ MM N b D cA S t.heap) ∧ va_F (AB b) st t
def XcP (N b : Nat) (D : va_G) (cA : Nat → Nat) (Qx : String → Mem → Prop) : String → State → State → Prop := fun E st t => (∃ S : Mem, Qx E S ∧ MM N b D cA S t.heap) ∧ va_F (AB b) st t
theorem link_split {own : String} {idx ci j : Nat} {w : Cond} (h : linkW own idx ci j w = true) : ∃ (C : String) (T : u_T) (N : Nat), vwCl[ci]? = some (C, T, N) ∧ j < N ∧ (T j).1 = C ∧ (w = .fieldLink own idx C (T j).2.1 (T j).2.2.1 ∨ w = .fieldLinkNest own idx C (T j).2.1 (T j).2.2.1 "ProcessDesk") := by
  unfold linkW at h
  split at h
  · rename_i C T N hc
    simp only [Bool.and_eq_true, Bool.or_eq_true, decide_eq_true_eq] at h
    exact ⟨C, T, N, hc, h.1, h.2.1, h.2.2⟩
  · cases h
section STM
variable {p : Program} {l : Launch} {e : Env} {R : Room} {s : State} {m : MethodId} {args : Array Value} {below : List Frame} {meth : Method} {c : Code} {H : Heap} {locs : List Loc} {cells slots : Nat} {Q : State → Prop}
variable {cc : ByteArray} {pc nL : Nat} {ls : Array Slot} {N b : Nat} {sa cA : Nat → Nat} {D : va_G} {own : String} {S : Mem} {rest : List Value}
def CX (p : Program) (s : State) (m : MethodId) (args : Array Value) (c : Code) (cc : ByteArray) (nL : Nat) (own : String) (D : va_G) (cA : Nat → Nat) : Prop :=
  p.tables.exec = Jvm.exec ∧ c.code = cc ∧ c.maxLocals = nL ∧ s.vm.findClass own = some m.cls ∧ (∀ w ∈ wG, w.before args s = true) ∧ va_K D vwCl (tysW cA) s ∧ NW s
set_option maxHeartbeats 1000000 in
theorem gf_snd (X : CX p s m args c cc nL own D cA) {idx ci j pos t k : Nat} {w : Cond} (hw : tables_1[pos]? = some w) (hl : linkW own idx ci j w = true) (hM : MM N b D cA S H) (hty : tyN N k = (0, ci, 0, 0)) (hf : (ftab ci)[j]? = some t) (hd : decode cc pc = .ok (.getfield idx, 3))
    (kk : W p l e R s m args below meth c H locs cells slots Q (F0 m (pc + 3) ls (fv b k (S.1 k) (S.2 k) j t :: rest))) : W p l e R s m args below meth c H locs cells slots Q (F0 m pc ls (.ref (b + k) :: rest)) := by
  obtain ⟨hx, hb, hml, hown, hts, hK, hN⟩ := X
  obtain ⟨C, T, N1, hc, hj, hC, hw2⟩ := link_split hl
  obtain ⟨hk, hty⟩ := tyN_spec hty (Or.inl (by decide))
  have he : (wl N b cA S)[k]? = some (b + k, .inr (ci, fvs b k (S.1 k) (S.2 k) ci)) := by rw [wl_get hk, cel_obj hty]
  have hmem := List.mem_of_getElem? hw
  rcases hw2 with rfl | rfl
  · exact va_get (D := D) (ci := ci) (C := C) (T := T) (N := N1) (ref := C) hx hb hts (wl_good ci _ hc) hown hK hM k he hc j hj (hts _ (wG_of hmem rfl)) (fun x h => by rw [hC] at h; exact h) (fvs_get hf) hd kk
  · exact va_getN (D := D) (ci := ci) (C := C) (T := T) (N := N1) (ref := C) (host := "ProcessDesk") hx hb hts (wl_good ci _ hc) hown hK hM k he hc j hj (va_Nw.use rfl (hN _ (List.mem_filter.mpr ⟨hmem, rfl⟩))) (fun x h => by rw [hC] at h; exact h) (fvs_get hf) hd kk
set_option maxHeartbeats 1000000 in
theorem pf_snd (X : CX p s m args c cc nL own D cA) {idx ci j pos t k : Nat} {w : Cond} {v : Value} {ty : FieldType} {S2 : Mem} (hw : tables_1[pos]? = some w) (hl : linkW own idx ci j w = true) (hM : MM N b D cA S H) (hS : va_S (AB b) s.heap H locs) (hty : tyN N k = (0, ci, 0, 0)) (hf : (ftab ci)[j]? = some t)
    (hd2 : ∀ (C : String) (T : u_T) (N : Nat), vwCl[ci]? = some (C, T, N) → (T j).2.2.2 = false ∧ parseFieldDescriptor (T j).2.2.1 = some ty) (hn : narrow ty v = v) (hfit : fits ty v = true) (hv : fv b k (S2.1 k) (S2.2 k) j t = v) (ho : ∀ i, i ≠ j → S2.1 k i = S.1 k i ∧ S2.2 k i = S.2 k i) (ho2 : ∀ a, a ≠ k → S2.1 a = S.1 a ∧ S2.2 a = S.2 a) (hd : decode cc pc = .ok (.putfield idx, 3))
    (kk : ∀ (H1 : Heap) (locs1 : List Loc), MM N b D cA S2 H1 → va_S (AB b) s.heap H1 locs1 → W p l e R s m args below meth c H1 locs1 cells slots Q (F0 m (pc + 3) ls rest)) : W p l e R s m args below meth c H locs cells slots Q (F0 m pc ls (v :: .ref (b + k) :: rest)) := by
  obtain ⟨hx, hb, hml, hown, hts, hK, hN⟩ := X
  obtain ⟨C, T, N1, hc, hj, hC, hw2⟩ := link_split hl
  obtain ⟨hk, hty⟩ := tyN_spec hty (Or.inl (by decide))
  have he : (wl N b cA S)[k]? = some (b + k, .inr (ci, fvs b k (S.1 k) (S.2 k) ci)) := by rw [wl_get hk, cel_obj hty]
  have hmem := List.mem_of_getElem? hw
  obtain ⟨ty0, hty0, hnm⟩ := wl_types ci _ hc
  obtain ⟨hfin, hpd⟩ := hd2 C T N1 hc
  have hlen : j < (fvs b k (S.1 k) (S.2 k) ci).length := by rw [fvs_len]; exact (List.getElem?_eq_some_iff.mp hf).1
  have hset : (wl N b cA S).set k (b + k, .inr (ci, (fvs b k (S.1 k) (S.2 k) ci).set j v)) = wl N b cA S2 := wl_set hk (by rw [cel_obj hty, fvs_set hf hv ho]) ho2
  have kk2 : ∀ (H1 : Heap) (locs1 : List Loc), va_P D vwCl ((wl N b cA S).set k (b + k, .inr (ci, (fvs b k (S.1 k) (S.2 k) ci).set j v))) H1 → va_D (AB b) ((wl N b cA S).set k (b + k, .inr (ci, (fvs b k (S.1 k) (S.2 k) ci).set j v))) → va_S (AB b) s.heap H1 locs1 → W p l e R s m args below meth c H1 locs1 cells slots Q (F0 m (pc + 3) ls rest) := fun H1 locs1 h1 _ h3 => kk H1 locs1 (by rw [hset] at h1; exact h1) h3
  rcases hw2 with rfl | rfl
  · exact va_put (D := D) (ci := ci) (C := C) (T := T) (N := N1) (ref := C) hx hb hts (wl_good ci _ hc) ty0 hty0 hnm hown hK hM (wl_D N b cA S) hS k he hc j hj (hts _ (wG_of hmem rfl)) (fun x h => by rw [hC] at h; exact h) hfin hpd hn hfit hlen hd kk2
  · exact va_putN (D := D) (ci := ci) (C := C) (T := T) (N := N1) (ref := C) (host := "ProcessDesk") hx hb hts (wl_good ci _ hc) ty0 hty0 hnm hown hK hM (wl_D N b cA S) hS k he hc j hj (va_Nw.use rfl (hN _ (List.mem_filter.mpr ⟨hmem, rfl⟩))) (fun x h => by rw [hC] at h; exact h) hfin hpd hn hfit hlen hd kk2
theorem la_snd (X : CX p s m args c cc nL own D cA) {k n : Nat} {x : Int32} (hM : MM N b D cA S H) (hty : tyN N k = (1, n, 0, 0)) (hin : vp_in x n) (hd : decode cc pc = .ok (.laload, 1))
    (kk : W p l e R s m args below meth c H locs cells slots Q (F0 m (pc + 1) ls (.long (S.2 k x.toNatClampNeg) :: rest))) : W p l e R s m args below meth c H locs cells slots Q (F0 m pc ls (.int x :: .ref (b + k) :: rest)) := by
  obtain ⟨hx, hb, hml, hown, hts, hK, hN⟩ := X
  obtain ⟨hk, hty⟩ := tyN_spec hty (Or.inl (by decide))
  exact va_lald hx hb hK hM k 0 (by rw [wl_get hk, cel_l hty]) rfl hin hd kk
theorem ia_snd (X : CX p s m args c cc nL own D cA) {k n : Nat} {x : Int32} (hM : MM N b D cA S H) (hty : tyN N k = (2, n, 0, 0)) (hin : vp_in x n) (hd : decode cc pc = .ok (.iaload, 1))
    (kk : W p l e R s m args below meth c H locs cells slots Q (F0 m (pc + 1) ls (.int (S.1 k x.toNatClampNeg) :: rest))) : W p l e R s m args below meth c H locs cells slots Q (F0 m pc ls (.int x :: .ref (b + k) :: rest)) := by
  obtain ⟨hx, hb, hml, hown, hts, hK, hN⟩ := X
  obtain ⟨hk, hty⟩ := tyN_spec hty (Or.inl (by decide))
  exact va_iald hx hb hK hM k 1 (by rw [wl_get hk, cel_i hty]) rfl hin hd kk
theorem ba_snd (X : CX p s m args c cc nL own D cA) {k n : Nat} {x : Int32} (hM : MM N b D cA S H) (hty : tyN N k = (3, n, 0, 0)) (hin : vp_in x n) (hd : decode cc pc = .ok (.baload, 1))
    (kk : W p l e R s m args below meth c H locs cells slots Q (F0 m (pc + 1) ls (.int (S.1 k x.toNatClampNeg) :: rest))) : W p l e R s m args below meth c H locs cells slots Q (F0 m pc ls (.int x :: .ref (b + k) :: rest)) := by
  obtain ⟨hx, hb, hml, hown, hts, hK, hN⟩ := X
  obtain ⟨hk, hty⟩ := tyN_spec hty (Or.inl (by decide))
  exact va_bald hx hb hK hM k 2 (by rw [wl_get hk, cel_b hty]) rfl hin hd kk
theorem upd_u1L (f : Nat → Int64) (k : Nat) (v : Int64) : vp_updL f k v = u1 f k v := by funext j; rfl
theorem upd_u1I (f : Nat → Int32) (k : Nat) (v : Int32) : upd f k v = u1 f k v := by funext j; rfl
theorem ls_snd (X : CX p s m args c cc nL own D cA) {k n : Nat} {x : Int32} {v : Int64} (hM : MM N b D cA S H) (hS : va_S (AB b) s.heap H locs) (hty : tyN N k = (1, n, 0, 0)) (hin : vp_in x n) (hd : decode cc pc = .ok (.lastore, 1))
    (kk : ∀ (H1 : Heap) (locs1 : List Loc), MM N b D cA (S.1, u2 S.2 k x.toNatClampNeg v) H1 → va_S (AB b) s.heap H1 locs1 → W p l e R s m args below meth c H1 locs1 cells slots Q (F0 m (pc + 1) ls rest)) : W p l e R s m args below meth c H locs cells slots Q (F0 m pc ls (.long v :: .int x :: .ref (b + k) :: rest)) := by
  obtain ⟨hx, hb, hml, hown, hts, hK, hN⟩ := X
  obtain ⟨hk, hty⟩ := tyN_spec hty (Or.inl (by decide))
  refine va_last hx hb hK hM (wl_D N b cA S) hS k 0 (by rw [wl_get hk, cel_l hty]) rfl hin hd (fun H1 locs1 h1 _ h3 => kk H1 locs1 ?_ h3)
  rw [wl_set (S := S) (S2 := (S.1, u2 S.2 k x.toNatClampNeg v)) hk (by rw [cel_l hty]; dsimp only; rw [u2_row, upd_u1L]) (fun a ha => ⟨rfl, u2_other _ _ _ ha⟩)] at h1
  exact h1
theorem is_snd (X : CX p s m args c cc nL own D cA) {k n : Nat} {x : Int32} {v : Int32} (hM : MM N b D cA S H) (hS : va_S (AB b) s.heap H locs) (hty : tyN N k = (2, n, 0, 0)) (hin : vp_in x n) (hd : decode cc pc = .ok (.iastore, 1))
    (kk : ∀ (H1 : Heap) (locs1 : List Loc), MM N b D cA (u2 S.1 k x.toNatClampNeg v, S.2) H1 → va_S (AB b) s.heap H1 locs1 → W p l e R s m args below meth c H1 locs1 cells slots Q (F0 m (pc + 1) ls rest)) : W p l e R s m args below meth c H locs cells slots Q (F0 m pc ls (.int v :: .int x :: .ref (b + k) :: rest)) := by
  obtain ⟨hx, hb, hml, hown, hts, hK, hN⟩ := X
  obtain ⟨hk, hty⟩ := tyN_spec hty (Or.inl (by decide))
  refine va_iast hx hb hK hM (wl_D N b cA S) hS k 1 (by rw [wl_get hk, cel_i hty]) rfl hin hd (fun H1 locs1 h1 _ h3 => kk H1 locs1 ?_ h3)
  rw [wl_set (S := S) (S2 := (u2 S.1 k x.toNatClampNeg v, S.2)) hk (by rw [cel_i hty]; dsimp only; rw [u2_row, upd_u1I]) (fun a ha => ⟨u2_other _ _ _ ha, rfl⟩)] at h1
  exact h1
theorem bs_snd (X : CX p s m args c cc nL own D cA) {k n : Nat} {x : Int32} {v : Int32} (hM : MM N b D cA S H) (hS : va_S (AB b) s.heap H locs) (hty : tyN N k = (3, n, 0, 0)) (hin : vp_in x n) (hd : decode cc pc = .ok (.bastore, 1))
    (kk : ∀ (H1 : Heap) (locs1 : List Loc), MM N b D cA (u2 S.1 k x.toNatClampNeg (vp_nar .byte v), S.2) H1 → va_S (AB b) s.heap H1 locs1 → W p l e R s m args below meth c H1 locs1 cells slots Q (F0 m (pc + 1) ls rest)) : W p l e R s m args below meth c H locs cells slots Q (F0 m pc ls (.int v :: .int x :: .ref (b + k) :: rest)) := by
  obtain ⟨hx, hb, hml, hown, hts, hK, hN⟩ := X
  obtain ⟨hk, hty⟩ := tyN_spec hty (Or.inl (by decide))
  refine va_bast hx hb hK hM (wl_D N b cA S) hS k 2 (by rw [wl_get hk, cel_b hty]) rfl hin hd (fun H1 locs1 h1 _ h3 => kk H1 locs1 ?_ h3)
  rw [wl_set (S := S) (S2 := (u2 S.1 k x.toNatClampNeg (vp_nar .byte v), S.2)) hk (by rw [cel_b hty]; dsimp only; rw [u2_row, upd_u1I]) (fun a ha => ⟨u2_other _ _ _ ha, rfl⟩)] at h1
  exact h1
theorem aa_snd (X : CX p s m args c cc nL own D cA) {k t n o w : Nat} {x : Int32} (hM : MM N b D cA S H) (hty : tyN N k = (t + 4, n, o, w)) (ht : t < 4) (hin : vp_in x n) (hd : decode cc pc = .ok (.aaload, 1))
    (kk : W p l e R s m args below meth c H locs cells slots Q (F0 m (pc + 1) ls (.ref (b + (o + w * x.toNatClampNeg)) :: rest))) : W p l e R s m args below meth c H locs cells slots Q (F0 m pc ls (.int x :: .ref (b + k) :: rest)) := by
  obtain ⟨hx, hb, hml, hown, hts, hK, hN⟩ := X
  have hlt : x.toNatClampNeg < n := Nat.not_le.mp fun q => hin (Or.inr q)
  obtain ⟨hk, hty⟩ := tyN_spec hty (Or.inr (by omega))
  have hP := hM k _ (wl_get hk)
  rw [cel_r hty] at hP
  have key : ∃ ty, (tysW cA)[t + 3]? = some (cA (t + 4), ty) ∧ ((∃ n, ty = .object n) ∨ ∃ z, ty = .array z) := by
    rcases (show t = 0 ∨ t = 1 ∨ t = 2 ∨ t = 3 by omega) with rfl | rfl | rfl | rfl
    · exact ⟨_, rfl, Or.inl ⟨_, rfl⟩⟩
    · exact ⟨_, rfl, Or.inl ⟨_, rfl⟩⟩
    · exact ⟨_, rfl, Or.inl ⟨_, rfl⟩⟩
    · exact ⟨_, rfl, Or.inr ⟨_, rfl⟩⟩
  obtain ⟨ty, h1, h2⟩ := key
  refine W.aald (v := .ref (b + (o + w * x.toNatClampNeg))) (ty := ty) hx hb hP ((hK.2 (t + 3) _ h1).1 n (fun j => va_rf (some (b + (o + w * j))))) (by rcases h2 with ⟨_, rfl⟩ | ⟨_, rfl⟩ <;> rfl) (fun q => by cases q) (by show ¬ (x < 0 ∨ (arrV _ _ _).slots.size ≤ _); rw [arrV_size]; exact hin) (by show (arrV _ _ _).slots[_]? = _; rw [arrV_read _ _ hlt]; rfl) rfl rfl hd kk
theorem al_snd (X : CX p s m args c cc nL own D cA) {k t n o w : Nat} (hM : MM N b D cA S H) (hty : tyN N k = (t + 1, n, o, w)) (hn : 0 < n) (ht : t < 6) (hd : decode cc pc = .ok (.arraylength, 1))
    (kk : W p l e R s m args below meth c H locs cells slots Q (F0 m (pc + 1) ls (.int (Int32.ofNat n) :: rest))) : W p l e R s m args below meth c H locs cells slots Q (F0 m pc ls (.ref (b + k) :: rest)) := by
  obtain ⟨hx, hb, hml, hown, hts, hK, hN⟩ := X
  obtain ⟨hk, hty⟩ := tyN_spec hty (Or.inr hn)
  have hP := wl_get (N := N) (b := b) (cA := cA) (S := S) hk
  rcases (show t = 0 ∨ t = 1 ∨ t = 2 ∨ t = 3 ∨ t = 4 ∨ t = 5 by omega) with rfl | rfl | rfl | rfl | rfl | rfl
  · have h2 : cel b cA k (S.1 k) (S.2 k) = .inl (cA 1, n, .inr (.inl (S.2 k))) := by unfold cel; rw [hty]; rfl
    rw [h2] at hP
    exact va_alen hx hb hK hM k 0 hP (ty := .long) rfl rfl hd kk
  · have h2 : cel b cA k (S.1 k) (S.2 k) = .inl (cA 2, n, .inl (S.1 k)) := by unfold cel; rw [hty]; rfl
    rw [h2] at hP
    exact va_alen hx hb hK hM k 1 hP (ty := .int) rfl rfl hd kk
  · have h2 : cel b cA k (S.1 k) (S.2 k) = .inl (cA 3, n, .inl (S.1 k)) := by unfold cel; rw [hty]; rfl
    rw [h2] at hP
    exact va_alen hx hb hK hM k 2 hP (ty := .byte) rfl rfl hd kk
  · rw [cel_r hty] at hP
    exact va_alen hx hb hK hM k 3 hP (ty := .object RX0) rfl rfl hd kk
  · rw [cel_r hty] at hP
    exact va_alen hx hb hK hM k 4 hP (ty := .object RX6) rfl rfl hd kk
  · rw [cel_r hty] at hP
    exact va_alen hx hb hK hM k 5 hP (ty := .object RX7) rfl rfl hd kk
end STM
