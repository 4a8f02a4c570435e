/-! ===== objects that are made: back and forth; rows of rows ===== -/
theorem blnk.puti {S : Mem} {Z : ZM} {n k : Nat} (h : blnk S Z n) (hk : k < n) (j : Nat) (v : Int32) : blnk (u2 S.1 k j v, S.2) Z n := fun a ha => ⟨(u2_other _ _ _ (by omega)).trans (h a ha).1, (h a ha).2.1, (h a ha).2.2⟩
def fulZ (z : Nat → Bool) (ty : Nat × Nat × Nat × Nat) : Bool := match ty with
  | (0, ci, _, _) => (List.range (ftab ci).length).all (fun j => match (ftab ci).getD j 0 with
    | _ + 3 => z j
    | _ => true)
  | (1, _, _, _) => true
  | (2, _, _, _) => true
  | (3, _, _, _) => true
  | (_ + 4, n, _, _) => (List.range n).all z
theorem zvs_f {b k : Nat} {f : Nat → Int32} {g : Nat → Int64} {z : Nat → Bool} {ci : Nat} (h : (List.range (ftab ci).length).all (fun j => match (ftab ci).getD j 0 with
    | _ + 3 => z j
    | _ => true) = true) : zvs b k f g z ci = fvs b k f g ci := by
  unfold zvs fvs
  refine List.map_congr_left (fun j hj => ?_)
  have h1 := List.all_eq_true.mp h j hj
  generalize (ftab ci).getD j 0 = t at h1 ⊢
  match t, h1 with
  | 0, _ => rfl
  | 1, _ => rfl
  | 2, _ => rfl
  | n + 3, h1 =>
    have h1 : z j = true := h1
    show (bif z j then Value.ref (b + (k + n)) else .null) = .ref (b + (k + n))
    rw [h1]; rfl
theorem MM_of {N b : Nat} {D : va_G} {cA : Nat → Nat} {S : Mem} {Z : ZM} {H : Heap} (hM : MZ N b D cA S Z H) (hf : ∀ k, k < N → fulZ (Z k) (tyOf k) = true) : MM N b D cA S H := by
  intro k q hk0
  obtain ⟨hk, rfl⟩ := wl_at hk0
  have h := hM k _ (wz_get hk)
  have f := hf k hk
  unfold cel
  unfold zel at h
  generalize tyOf k = ty at h f ⊢
  obtain ⟨t, n, o, w⟩ := ty
  match t, h, f with
  | 0, h, f =>
    have h : va_at D vwCl (b + k, .inr (n, zvs b k (S.1 k) (S.2 k) (Z k) n)) H := h
    rw [zvs_f f] at h
    exact h
  | 1, h, _ => exact h
  | 2, h, _ => exact h
  | 3, h, _ => exact h
  | t + 4, h, f =>
    have h : H[b + k]? = some (vp_cell (cA (t + 4)) (n, .inr (.inr (.inr (.inr (fun i => bif Z k i then some (b + (o + w * i)) else none)))))) := h
    show H[b + k]? = some (vp_cell (cA (t + 4)) (n, .inr (.inr (.inr (.inr (fun i => some (b + (o + w * i))))))))
    rw [h, vp_cell_q, vp_cell_q]
    unfold arrV
    congr 2
    congr 1
    funext j
    have : Z k j.val = true := List.all_eq_true.mp f j.val (List.mem_range.mpr j.isLt)
    show va_rf (bif Z k j.val then some (b + (o + w * j.val)) else none) = _
    rw [this]; rfl
/-- all that is made is whole -/
def zW (N : Nat) : ZM := fun k _ => Nat.blt k N
theorem MZ_of {N b : Nat} {D : va_G} {cA : Nat → Nat} {S : Mem} {H : Heap} (hM : MM N b D cA S H) : MZ N b D cA S (zW N) H := by
  intro k q hk0
  obtain ⟨hk, rfl⟩ := wz_at hk0
  have h := hM k _ (wl_get hk)
  have hz : zW N k = fun _ => true := by
    funext j
    exact Nat.ble_eq_true_of_le hk
  unfold cel at h
  unfold zel
  rw [hz]
  generalize tyOf k = ty at h ⊢
  obtain ⟨t, n, o, w⟩ := ty
  match t, h with
  | 0, h =>
    have h : va_at D vwCl (b + k, .inr (n, fvs b k (S.1 k) (S.2 k) n)) H := h
    rw [← zvs_f (z := fun _ => true) (List.all_eq_true.mpr (fun j _ => by split <;> rfl))] at h
    exact h
  | 1, h => exact h
  | 2, h => exact h
  | 3, h => exact h
  | t + 4, h => exact h
/-- a contract over what is made whole -/
def CnY (l : Launch) (b : Nat) (D : va_G) (cA sa adV : Nat → Nat) (y : MethodName) (cc : ByteArray) (maxL fr lo mc ms k n : Nat) (S : Mem) (Z : ZM) (N : Nat) (Qr : QR) : Prop :=
  Met l y (.code y cc maxL none :: wG) { frames := fr, cells := mc, slots := ms, locals := lo } (va_Pc [.ref (b + k)] (PZ n b D cA sa adV S Z)) (QcP N b D cA sa Qr) mc ms (AB b)
theorem CnY_of {l : Launch} {b : Nat} {D : va_G} {cA sa adV : Nat → Nat} {y : MethodName} {cc : ByteArray} {maxL fr lo mc ms k n : Nat} {S : Mem} {Z : ZM} {N : Nat} {Qr : QR} (hy : plainName y.cls = true) (hy2 : y.name = "<init>") (h1 : 1 ≤ maxL)
    (h : ∀ (p : Program) (e : Env) (s : State) (m : MethodId) (below : List Frame) (meth : Method) (c : Code) (ls : Array Slot), KZ p s m meth c cc maxL y.cls b D cA sa adV k n S Z → lv_has ls maxL [(0, .ref (b + k))] → W p l e { frames := fr, cells := mc, slots := ms, locals := lo } s m #[.ref (b + k)] below meth c s.heap [] 0 0 (MQ below (QcP N b D cA sa Qr) #[.ref (b + k)] s mc ms (AB b)) (F0 m 0 ls [])) : CnY l b D cA sa adV y cc maxL fr lo mc ms k n S Z N Qr := by
  refine Met.ofW (cc := cc) (maxL := maxL) (ret := none) hy rfl ?_
  intro p e s m args below meth c s₁ B hml hv
  obtain ⟨rfl, hM, hsz, hK, hN, hE, hA⟩ := hv
  have hts0 := atoms_spec (ws := .code y cc maxL none :: wG) B.pre
  have X : CX p s m #[.ref (b + k)] c cc maxL y.cls D cA := ⟨B.exec, B.bytes, hml, findClass_of_methodNamed B.named, fun w hw => hts0 w (List.mem_cons_of_mem _ hw), hK, hN⟩
  have hl := lv_entry ([.ref (b + k)]) (n := maxL) h1
  rw [lg_entry_eq]
  generalize (lg_sl ([.ref (b + k)]) ++ List.replicate (maxL - (lg_sl ([.ref (b + k)])).length) Slot.unset).toArray = ls at hl ⊢
  exact h p e s m below meth c ls ⟨X, (name_of_methodNamed B.named B.method).1.trans hy2, B.returns, hE, hA, hM, hsz, B.notSynchronized⟩ hl
def zP9 (Z : ZM) : ZM := fun a i => if a = 144 then Nat.blt i 8 else Z a i
theorem blnk.put9 {S : Mem} {Z : ZM} (h : blnk S Z 144) : blnk S (zP9 Z) 153 := (h.up (by decide)).of (fun a ha => by
  funext i
  exact if_neg (by omega))
section ZR3
variable {p : Program} {l : Launch} {e : Env} {R : Room} {s : State} {m : MethodId} {args : Array Value} {below : List Frame} {meth : Method} {c : Code} {H : Heap} {locs : List Loc} {cells slots : Nat} {Q : State → Prop}
variable {cc : ByteArray} {pc nL : Nat} {ls : Array Slot} {n b : Nat} {cA sa adV : Nat → Nat} {D : va_G} {own : String} {S : Mem} {Z : ZM} {rest : List Value}
theorem z_callY (X : CX p s m args c cc nL own D cA) (hE : EV b sa adV s s.heap) (hA : AOs s) (hM : MZ n b D cA S Z H) (hS : va_S (AB b) s.heap H locs) (hbs : b ≤ s.heap.size) (hcn : s.heap.size + cells = b + n) {y : MethodName} {cy : ByteArray} {maxL fr lo mc ms k N idx : Nat} {Qr : QR} (M : CnY l b D cA sa adV y cy maxL fr lo mc ms k n S Z N Qr)
    (hlink : Cond.methodLink own idx y ∈ wG) (hinst : Cond.instanceMethod y ∈ wG) (hini : Cond.initialized y.cls ∈ wG) (hcode : Cond.code y cy maxL none ∈ wG) (hy : y.name = "<init>") (hd2 : y.cls ≠ "java/lang/invoke/MethodHandle" ∧ y.cls ≠ "java/lang/invoke/VarHandle" ∧ (parseMethodDescriptor y.desc).map (fun d => d.parameters.length) = some 0) (hR : fr + 1 ≤ R.frames ∧ 8 + (maxL + 11) + lo ≤ R.locals)
    (hls : ls.size = nL) (hsum : (rest.map fun v => v.category).sum ≤ 8) (hc1 : cells + mc ≤ R.cells) (hs1 : slots + ms ≤ R.slots) (hd : decode cc pc = .ok (.invokespecial idx, 3)) (hv : ∀ v S', Qr v S' → v = none)
    (kk : ∀ (S' : Mem) (H1 : Heap) (locs1 : List Loc), Qr none S' → MM N b D cA S' H1 → va_S (AB b) s.heap H1 locs1 → W p l e R s m args below meth c H1 locs1 (cells + mc) (slots + ms) Q (F0 m (pc + 3) ls rest)) : W p l e R s m args below meth c H locs cells slots Q (F0 m pc ls (.ref (b + k) :: rest)) := by
  obtain ⟨hx, hb, hml, hown, hts, hK, hN⟩ := X
  refine z_size hM hS hbs hcn (fun hsz => ?_)
  have hp : PreS s H (va_Pc [.ref (b + k)] (PZ n b D cA sa adV S Z)) [.ref (b + k)] := ⟨PZ.blind, fun U hU hW => ⟨rfl, by rw [hU]; exact hM, by rw [hU]; exact hsz, va_K.moved hW.alike hK, hN.go hW, by rw [hU]; exact hE.go hW (fun a h1 h2 => hS.2.1 a h1 h2), hA.moved hW.alike⟩⟩
  have hsm : 2 * 0 + (rest.map fun v => v.category).sum ≤ 8 := by omega
  have run : va_Run p l e R s m args below meth c H locs cells slots mc ms (F0 m pc ls (.ref (b + k) :: rest)) rest (QcP N b D cA sa Qr #[.ref (b + k)]) (AB b) := va_runI (As := []) ⟨hx, hb, hml, hown, hts⟩ M ⟨callB_of 0 hts (wsG_good hcode) rfl rfl rfl (hts _ hini) (hts _ hlink) hd2 hR, hy, hts _ hinst⟩ hp rfl rfl hls rfl hsm hd ⟨hc1, hs1⟩
  refine run_go (Qx := fun _ _ => False) (run_of run) hS (fun v S' H' locs' h1 h2 h3 => ?_) (fun E ce q S' H' locs' h1 => absurd h1 id)
  cases hv v S' h1
  exact kk S' H' locs' h1 h2 h3
set_option maxHeartbeats 1000000 in
theorem z_mna (X : CX p s m args c cc nL own D cA) (hM : MZ 144 b D cA S Z H) (hS : va_S (AB b) s.heap H locs) (hbs : b ≤ s.heap.size) (hcn : s.heap.size + cells = b + 144) (hz : blnk S Z 144) {idx : Nat} (hcl : Cond.classLink own idx ("[" ++ (FieldType.array .long).toString) ∈ wG) (hao : va_AOA .long s) (harr : Cond.arrayClass .long ∈ wG) (hc1 : cells + (1 + 8) ≤ R.cells) (hs1 : slots + (8 + 8 * 754) ≤ R.slots) (hd : decode cc pc = .ok (.multianewarray idx 2, 4))
    (kk : ∀ H1 : Heap, MZ 153 b D cA S (zP9 Z) H1 → va_S (AB b) s.heap H1 locs → W p l e R s m args below meth c H1 locs (cells + 1 + 8) (slots + 8 + 8 * 754) Q (F0 m (pc + 4) ls (.ref (b + 144) :: rest))) : W p l e R s m args below meth c H locs cells slots Q (F0 m pc ls (.int (nI 754) :: .int (nI 8) :: rest)) := by
  obtain ⟨hx, hb, hml, hown, hts, hK, hN⟩ := X
  refine z_size hM hS hbs hcn (fun hsz => ?_)
  intro T hT Xs
  obtain ⟨vm₁, cX, comp, -, fA, fC, hO, -, X', step⟩ := Xs.multianewarray2F (ty := .long) hx hown (hts _ hcl) (va_AOA.use hao) (hts _ harr) (g := F0 m pc ls (.int (nI 754) :: .int (nI 8) :: rest)) rfl (by rw [hb]; exact hd) rfl (by decide) (by decide) (by decide) (by decide) (by decide) rfl rfl hc1 hs1
  have n8 : (nI 8).toNatClampNeg = 8 := by decide
  have n7 : (nI 754).toNatClampNeg = 754 := by decide
  rw [n8, n7] at X' step
  have e1 : cX = cA 7 := Option.some.inj (fA.symm.trans (hK.2 6 (cA 7, .array .long) rfl).2)
  have e2 : comp = cA 1 := Option.some.inj (fC.symm.trans (hK.2 0 (cA 1, .long) rfl).2)
  subst e1
  subst e2
  have hTh : (T.setVm vm₁).heap = H := hT
  obtain ⟨f1, f2, -, -⟩ := Jvm.Free.Multi.fill_facts (T.setVm vm₁) (cA 7) (cA 1) 8 754 (defaultValue .long) 8
  have hold : ∀ x : Nat, x < H.size → (Jvm.Free.Multi.fill (T.setVm vm₁) (cA 7) (cA 1) 8 754 (defaultValue .long) 8).heap[x]? = H[x]? := fun x hx => by
    have := Jvm.Free.Multi.fill_old (T.setVm vm₁) (cA 7) (cA 1) 8 754 (defaultValue .long) (a := x) (by rw [hTh]; exact hx) 8
    rw [hTh] at this
    exact this
  have hrow : ∀ j : Nat, j < 8 → (Jvm.Free.Multi.fill (T.setVm vm₁) (cA 7) (cA 1) 8 754 (defaultValue .long) 8).heap[H.size + 1 + j]? = some (Jvm.Free.Multi.innerC (cA 1) 754 (defaultValue .long)) := fun j hj => by
    have := Jvm.Free.Multi.fill_inner (T.setVm vm₁) (cA 7) (cA 1) 8 754 (defaultValue .long) 8 j hj
    rw [hTh] at this
    exact this
  rw [hTh] at f1 f2
  generalize Jvm.Free.Multi.fill (T.setVm vm₁) (cA 7) (cA 1) 8 754 (defaultValue .long) 8 = F at X' step f1 f2 hold hrow
  rw [vr_outer] at f2
  have hk : ∀ (k : Nat) (x : Nat × va_E), (wz 144 b cA S Z)[k]? = some x → F.heap[x.1]? = H[x.1]? := fun k x hx => hold x.1 ((hM k x hx).lt)
  have hinner : Jvm.Free.Multi.innerC (cA 1) 754 (defaultValue .long) = vp_cell (cA 1) (754, .inr (.inl (fun _ => 0))) := by
    rw [vp_cell_l]
    show ({ cls := cA 1, slots := Array.replicate 754 (defaultValue .long), vm := .none } : Cell) = _
    rw [arrV_new]; rfl
  have hP : MZ 153 b D cA S (zP9 Z) F.heap := by
    intro k q hq
    obtain ⟨hlt, rfl⟩ := wz_at hq
    rcases (show k < 144 ∨ k = 144 ∨ (145 ≤ k ∧ k < 153) by omega) with h | h | h
    · have h0 := va_P.kept hM hk k _ (wz_get h)
      have hz9 : zP9 Z k = Z k := by
        funext i
        exact if_neg (by omega)
      unfold zel at h0 ⊢
      rw [hz9]
      exact h0
    · subst h
      rw [zel_r (t := 3) (n := 8) (o := 145) (w := 1) rfl]
      show F.heap[b + 144]? = some (vp_cell (cA 7) _)
      rw [vp_cell_q, ← hsz, f2]
      refine congrArg some (congrArg (arrV (cA 7) 8) (funext fun j => congrArg va_rf ?_))
      show (if j < 8 then some (H.size + 1 + j) else none) = bif Nat.blt j 8 then some (b + (145 + 1 * j)) else none
      by_cases hj : j < 8
      · rw [if_pos hj, show Nat.blt j 8 = true from Nat.ble_eq_true_of_le hj, hsz]
        show some _ = some _
        congr 1
        omega
      · rw [if_neg hj, show Nat.blt j 8 = false from Bool.eq_false_iff.mpr (fun z => hj (Nat.le_of_ble_eq_true z))]
        rfl
    · obtain ⟨i, rfl⟩ : ∃ i, k = 145 + i := ⟨k - 145, by omega⟩
      have hty : tyOf (145 + i) = (1, 754, 0, 0) := by
        have := ty_past i (by omega)
        exact (tyN_spec this (Or.inl (by decide))).2
      rw [zel_l hty, (hz (145 + i) (by omega)).2.1]
      show F.heap[b + (145 + i)]? = some (vp_cell (cA 1) _)
      rw [← hinner, ← hrow i (by omega), hsz]
      congr 1
      omega
  obtain ⟨t, a1, b1⟩ := kk F.heap hP ⟨by rw [f1]; have := hS.1; omega, fun x h1 h2 => (hold x (Nat.lt_of_lt_of_le h1 hS.1)).trans (hS.2.1 x h1 h2), hS.2.2⟩ F rfl X'
  refine ⟨t, step t ?_, b1⟩
  have e : T.heap.size = b + 144 := by rw [hT, hsz]
  rw [e]
  exact a1
end ZR3
