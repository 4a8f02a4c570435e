/-! ===== rows over objects in the making; constructors' contracts ===== -/
theorem blnk.up {S : Mem} {Z : ZM} {n n' : Nat} (h : blnk S Z n) (hn : n ≤ n') : blnk S Z n' := fun a ha => h a (by omega)
theorem blnk.put {S : Mem} {Z : ZM} {n k : Nat} (h : blnk S Z n) (hk : k < n) (j : Nat) (v : Bool) : blnk S (u2 Z k j v) n := fun a ha => ⟨(h a ha).1, (h a ha).2.1, (u2_other _ _ _ (by omega)).trans (h a ha).2.2⟩
theorem blnk.of {S : Mem} {Z Z' : ZM} {n : Nat} (h : blnk S Z n) (e : ∀ a, n ≤ a → Z' a = Z a) : blnk S Z' n := fun a ha => ⟨(h a ha).1, (h a ha).2.1, (e a ha).trans (h a ha).2.2⟩
theorem va_AOA.moved {ty : FieldType} {u U : State} (hvm : u.vm.Alike U.vm) (h : va_AOA ty u) : va_AOA ty U := by
  obtain ⟨comp, c, k, h1, h2, h3, h4, h5⟩ := arrayOverA_spec h
  obtain ⟨k', hk', he⟩ := hvm.2.2 _ _ h3
  have hi : (U.vm.classes.findIdx? fun (x : Class) => match x.kind with | .array component _ => component == comp | _ => false) = some c := by
    have e1 := va_idx_bare U.vm comp
    have e2 := va_idx_bare u.vm comp
    first | rw [hvm.bare_eq] at e1 | rw [← hvm.bare_eq] at e1
    exact e1.symm.trans (e2.trans h2)
  have hkind : k'.kind = .array comp (.array ty) := by rw [he]; exact h4
  have f1 : U.vm.findClass (FieldType.array ty).toString = some comp := by rw [hvm.findClass]; exact h1
  have f2 : U.vm.findClass ("[" ++ (FieldType.array ty).toString) = some c := by rw [hvm.findClass]; exact h5
  unfold va_AOA Cond.before Cond.holds
  simp only [Cond.value]
  rw [f1, Option.bind_some]
  refine (congrArg (fun o : Option Nat => (o.bind (fun c => (U.vm.classes[c]?).map fun (k : Class) => match k.kind with | .array _ t => decide (t = FieldType.array ty) && decide (U.vm.findClass ("[" ++ (FieldType.array ty).toString) = some c) | _ => false) == some true)) hi).trans ?_
  simp [hk', hkind, f2]
def AOs (U : State) : Prop := va_AO RX0 U ∧ va_AO RX6 U ∧ va_AO RX7 U ∧ va_AOA .long U
theorem AOs.moved {u U : State} (hvm : u.vm.Alike U.vm) (h : AOs u) : AOs U := ⟨h.1.moved hvm, h.2.1.moved hvm, h.2.2.1.moved hvm, h.2.2.2.moved hvm⟩
def PZ (n b : Nat) (D : va_G) (cA sa adV : Nat → Nat) (S : Mem) (Z : ZM) (U : State) : Prop := MZ n b D cA S Z U.heap ∧ U.heap.size = b + n ∧ va_K D vwCl (tysW cA) U ∧ NW U ∧ EV b sa adV U U.heap ∧ AOs U
theorem PZ.blind {n b : Nat} {D : va_G} {cA sa adV : Nat → Nat} {S : Mem} {Z : ZM} {av : List Value} : FrameBlind (va_Pc av (PZ n b D cA sa adV S Z)) := by
  intro a U g mk h
  obtain ⟨h0, h1, h2, h3, h4, h5, h6⟩ := h
  have hW : U.WarmedH (U.calling g mk a).vm := State.WarmedH.refl U
  exact ⟨h0, h1, h2, va_K.moved (u := U) (U := U.calling g mk a) (Vm.Alike.refl U.vm) h3, NW.go (U := U.calling g mk a) h4 hW, EV.go (U := U.calling g mk a) h5 hW (fun _ _ _ => rfl), AOs.moved (u := U) (U := U.calling g mk a) (Vm.Alike.refl U.vm) h6⟩
def QZ (n b : Nat) (D : va_G) (cA : Nat → Nat) (S : Mem) (Z : ZM) : Array Value → State → Outcome → State → Prop := va_Qv (fun _ : Unit => True) (fun _ t => MZ n b D cA S Z t.heap) (AB b)
/-- a constructor's contract: from key k, the last of the n that are made, on -/
def CnZ (l : Launch) (b : Nat) (D : va_G) (cA sa adV : Nat → Nat) (y : MethodName) (cc : ByteArray) (maxL fr lo mc ms k n : Nat) (S : Mem) (Z : ZM) (n' : Nat) (S' : Mem) (Z' : ZM) : Prop :=
  Met l y (.code y cc maxL none :: wG) { frames := fr, cells := mc, slots := ms, locals := lo } (va_Pc [.ref (b + k)] (PZ n b D cA sa adV S Z)) (QZ n' b D cA S' Z') mc ms (AB b)
/-- what stands while a constructor runs -/
def KZ (p : Program) (s : State) (m : MethodId) (meth : Method) (c : Code) (cc : ByteArray) (maxL : Nat) (own : String) (b : Nat) (D : va_G) (cA sa adV : Nat → Nat) (k n : Nat) (S : Mem) (Z : ZM) : Prop :=
  CX p s m #[.ref (b + k)] c cc maxL own D cA ∧ meth.name = "<init>" ∧ meth.sig.returnType = none ∧ EV b sa adV s s.heap ∧ AOs s ∧ MZ n b D cA S Z s.heap ∧ s.heap.size = b + n ∧ meth.locks = false
theorem CnZ_of {l : Launch} {b : Nat} {D : va_G} {cA sa adV : Nat → Nat} {y : MethodName} {cc : ByteArray} {maxL fr lo mc ms k n : Nat} {S : Mem} {Z : ZM} {n' : Nat} {S' : Mem} {Z' : ZM} (hy : plainName y.cls = true) (hy2 : y.name = "<init>") (h1 : 1 ≤ maxL)
    (h : ∀ (p : Program) (e : Env) (s : State) (m : MethodId) (below : List Frame) (meth : Method) (c : Code) (ls : Array Slot), KZ p s m meth c cc maxL y.cls b D cA sa adV k n S Z → lv_has ls maxL [(0, .ref (b + k))] → W p l e { frames := fr, cells := mc, slots := ms, locals := lo } s m #[.ref (b + k)] below meth c s.heap [] 0 0 (MQ below (QZ n' b D cA S' Z') #[.ref (b + k)] s mc ms (AB b)) (F0 m 0 ls [])) : CnZ l b D cA sa adV y cc maxL fr lo mc ms k n S Z n' S' Z' := by
  refine Met.ofW (cc := cc) (maxL := maxL) (ret := none) hy rfl ?_
  intro p e s m args below meth c s₁ B hml hv
  obtain ⟨rfl, hM, hsz, hK, hN, hE, hA⟩ := hv
  have hts0 := atoms_spec (ws := .code y cc maxL none :: wG) B.pre
  have X : CX p s m #[.ref (b + k)] c cc maxL y.cls D cA := ⟨B.exec, B.bytes, hml, findClass_of_methodNamed B.named, fun w hw => hts0 w (List.mem_cons_of_mem _ hw), hK, hN⟩
  have hl := lv_entry ([.ref (b + k)]) (n := maxL) h1
  rw [lg_entry_eq]
  generalize (lg_sl ([.ref (b + k)]) ++ List.replicate (maxL - (lg_sl ([.ref (b + k)])).length) Slot.unset).toArray = ls at hl ⊢
  exact h p e s m below meth c ls ⟨X, (name_of_methodNamed B.named B.method).1.trans hy2, B.returns, hE, hA, hM, hsz, B.notSynchronized⟩ hl
section ZR2
variable {p : Program} {l : Launch} {e : Env} {R : Room} {s : State} {m : MethodId} {args : Array Value} {below : List Frame} {meth : Method} {c : Code} {H : Heap} {locs : List Loc} {cells slots : Nat} {Q : State → Prop}
variable {cc : ByteArray} {pc nL : Nat} {ls : Array Slot} {n b : Nat} {cA sa adV : Nat → Nat} {D : va_G} {own : String} {S : Mem} {Z : ZM} {rest : List Value}
theorem z_putR (X : CX p s m args c cc nL own D cA) (hin : meth.name = "<init>") (hM : MZ n b D cA S Z H) (hS : va_S (AB b) s.heap H locs) {k ci j off idx N : Nat} {C : String} {T : u_T} {ty : FieldType} (hk : k < n) (hty : tyOf k = (0, ci, 0, 0)) (hc : vwCl[ci]? = some (C, T, N)) (hf : (ftab ci)[j]? = some (off + 3)) (hj : j < N) (hC : (T j).1 = C) (hlink : Cond.fieldLink own idx C (T j).2.1 (T j).2.2.1 ∈ wG) (hfin : (T j).2.2.2 = true) (hown2 : C = own) (hpd : parseFieldDescriptor (T j).2.2.1 = some ty) (hfit : ∀ a : Nat, narrow ty (.ref a) = .ref a ∧ fits ty (.ref a) = true) (hd : decode cc pc = .ok (.putfield idx, 3))
    (kk : ∀ (H1 : Heap) (locs1 : List Loc), MZ n b D cA S (u2 Z k j true) H1 → va_S (AB b) s.heap H1 locs1 → W p l e R s m args below meth c H1 locs1 cells slots Q (F0 m (pc + 3) ls rest)) : W p l e R s m args below meth c H locs cells slots Q (F0 m pc ls (.ref (b + (k + off)) :: .ref (b + k) :: rest)) := by
  obtain ⟨hx, hb, hml, hown, hts, hK, hN⟩ := X
  obtain ⟨ty0, hty0, hnm⟩ := wl_types ci _ hc
  have he : (wz n b cA S Z)[k]? = some (b + k, .inr (ci, zvs b k (S.1 k) (S.2 k) (Z k) ci)) := by rw [wz_get hk, zel_o hty]
  refine va_putF (ref := C) hx hb hts (wl_good ci _ hc) ty0 hty0 hnm hown hK hM (wz_D n b cA S Z) hS k he hc j hj (hts _ hlink) (fun x h => by rw [hC] at h; exact h) hfin hin (hC.trans hown2) hpd (hfit _).1 (hfit _).2 (by rw [zvs_len]; exact (List.getElem?_eq_some_iff.mp hf).1) hd (fun H1 locs1 h1 _ h3 => kk H1 locs1 ?_ h3)
  rw [wz_set (S2 := S) (Z2 := u2 Z k j true) hk (by
    rw [zel_o hty, u2_row, zvs_set (z := Z k) (f := S.1 k) (g := S.2 k) (v := .ref (b + (k + off))) hf (by simp [zv, u1]) (fun i hi => ⟨rfl, rfl, by simp [u1, hi]⟩)]) (fun a ha => ⟨rfl, rfl, u2_other _ _ _ ha⟩)] at h1
  exact h1
theorem z_puti (X : CX p s m args c cc nL own D cA) (hM : MZ n b D cA S Z H) (hS : va_S (AB b) s.heap H locs) {k ci j idx N : Nat} {C : String} {T : u_T} {v : Int32} (hk : k < n) (hty : tyOf k = (0, ci, 0, 0)) (hc : vwCl[ci]? = some (C, T, N)) (hf : (ftab ci)[j]? = some 0) (hj : j < N) (hC : (T j).1 = C) (hlink : Cond.fieldLink own idx C (T j).2.1 (T j).2.2.1 ∈ wG) (hfin : (T j).2.2.2 = false) (hpd : parseFieldDescriptor (T j).2.2.1 = some .int) (hd : decode cc pc = .ok (.putfield idx, 3))
    (kk : ∀ (H1 : Heap) (locs1 : List Loc), MZ n b D cA (u2 S.1 k j v, S.2) Z H1 → va_S (AB b) s.heap H1 locs1 → W p l e R s m args below meth c H1 locs1 cells slots Q (F0 m (pc + 3) ls rest)) : W p l e R s m args below meth c H locs cells slots Q (F0 m pc ls (.int v :: .ref (b + k) :: rest)) := by
  obtain ⟨hx, hb, hml, hown, hts, hK, hN⟩ := X
  obtain ⟨ty0, hty0, hnm⟩ := wl_types ci _ hc
  have he : (wz n b cA S Z)[k]? = some (b + k, .inr (ci, zvs b k (S.1 k) (S.2 k) (Z k) ci)) := by rw [wz_get hk, zel_o hty]
  refine va_put (ref := C) (v := .int v) hx hb hts (wl_good ci _ hc) ty0 hty0 hnm hown hK hM (wz_D n b cA S Z) hS k he hc j hj (hts _ hlink) (fun x h => by rw [hC] at h; exact h) hfin hpd rfl rfl (by rw [zvs_len]; exact (List.getElem?_eq_some_iff.mp hf).1) hd (fun H1 locs1 h1 _ h3 => kk H1 locs1 ?_ h3)
  rw [wz_set (S2 := (u2 S.1 k j v, S.2)) (Z2 := Z) hk (by
    rw [zel_o hty]
    show (Sum.inr (ci, zvs b k (u2 S.1 k j v k) (S.2 k) (Z k) ci) : va_E) = _
    rw [u2_row, zvs_set (z := Z k) (f := S.1 k) (g := S.2 k) (v := .int v) hf (by simp [zv, u1]) (fun i hi => ⟨by simp [u1, hi], rfl, rfl⟩)]) (fun a ha => ⟨u2_other _ _ _ ha, rfl, rfl⟩)] at h1
  exact h1
theorem z_getR (X : CX p s m args c cc nL own D cA) (hM : MZ n b D cA S Z H) {k ci j off idx N : Nat} {C : String} {T : u_T} (hk : k < n) (hty : tyOf k = (0, ci, 0, 0)) (hc : vwCl[ci]? = some (C, T, N)) (hf : (ftab ci)[j]? = some (off + 3)) (hj : j < N) (hC : (T j).1 = C) (hlink : Cond.fieldLink own idx C (T j).2.1 (T j).2.2.1 ∈ wG) (hZ : Z k j = true) (hd : decode cc pc = .ok (.getfield idx, 3))
    (kk : W p l e R s m args below meth c H locs cells slots Q (F0 m (pc + 3) ls (.ref (b + (k + off)) :: rest))) : W p l e R s m args below meth c H locs cells slots Q (F0 m pc ls (.ref (b + k) :: rest)) := by
  obtain ⟨hx, hb, hml, hown, hts, hK, hN⟩ := X
  have he : (wz n b cA S Z)[k]? = some (b + k, .inr (ci, zvs b k (S.1 k) (S.2 k) (Z k) ci)) := by rw [wz_get hk, zel_o hty]
  refine va_get (ref := C) hx hb hts (wl_good ci _ hc) hown hK hM k he hc j hj (hts _ hlink) (fun x h => by rw [hC] at h; exact h) (v := .ref (b + (k + off))) ?_ hd kk
  rw [zvs_get hf]
  simp [zv, hZ]
theorem z_alen (X : CX p s m args c cc nL own D cA) (hM : MZ n b D cA S Z H) {k t q o w : Nat} {C : String} (hk : k < n) (hty : tyOf k = (t + 4, q, o, w)) (htt : (tysW cA)[t + 3]? = some (cA (t + 4), .object C)) (hd : decode cc pc = .ok (.arraylength, 1))
    (kk : W p l e R s m args below meth c H locs cells slots Q (F0 m (pc + 1) ls (.int (nI q) :: rest))) : W p l e R s m args below meth c H locs cells slots Q (F0 m pc ls (.ref (b + k) :: rest)) := by
  obtain ⟨hx, hb, hml, hown, hts, hK, hN⟩ := X
  have ha : (wz n b cA S Z)[k]? = some (b + k, .inl (cA (t + 4), q, .inr (.inr (.inr (.inr (fun i => bif Z k i then some (b + (o + w * i)) else none)))))) := by rw [wz_get hk, zel_r hty]
  exact va_alen hx hb hK hM k (t + 3) ha htt rfl hd kk
theorem z_ast (X : CX p s m args c cc nL own D cA) (hM : MZ n b D cA S Z H) (hS : va_S (AB b) s.heap H locs) {k kv t q o w i ci N : Nat} {C : String} {T : u_T} {x : Int32} (hk : k < n) (hkv : kv < n) (hty : tyOf k = (t + 4, q, o, w)) (htv : tyOf kv = (0, ci, 0, 0)) (hc : vwCl[ci]? = some (C, T, N)) (htt : (tysW cA)[t + 3]? = some (cA (t + 4), .object C)) (hx : x = nI i) (hi : i < q) (hq : q < 1000) (hv : kv = o + w * i) (hd : decode cc pc = .ok (.aastore, 1))
    (kk : ∀ (H1 : Heap) (locs1 : List Loc), MZ n b D cA S (u2 Z k i true) H1 → va_S (AB b) s.heap H1 locs1 → W p l e R s m args below meth c H1 locs1 cells slots Q (F0 m (pc + 1) ls rest)) : W p l e R s m args below meth c H locs cells slots Q (F0 m pc ls (.ref (b + kv) :: .int x :: .ref (b + k) :: rest)) := by
  obtain ⟨hx', hb, hml, hown, hts, hK, hN⟩ := X
  subst hx
  have hcl : (nI i).toNatClampNeg = i := nI_clamp (by omega)
  refine va_astq hx' hb hK hM (wz_D n b cA S Z) hS k (t + 3) kv ci (by rw [wz_get hk, zel_r hty]) (r := (C, T, N)) htt (by rw [wz_get hkv, zel_o htv]) hc (vp_nI hi (by omega)) hd (fun H1 locs1 h1 _ h3 => kk H1 locs1 ?_ h3)
  rw [hcl] at h1
  rw [wz_set (S2 := S) (Z2 := u2 Z k i true) hk (by
    rw [zel_r hty, u2_row]
    congr 7
    funext a
    by_cases ha : a = i
    · subst ha; simp [u1, va_up, hv]
    · simp [u1, va_up, ha]) (fun a ha => ⟨rfl, rfl, u2_other _ _ _ ha⟩)] at h1
  exact h1
/-- a call of a constructor -/
theorem z_call (X : CX p s m args c cc nL own D cA) (hE : EV b sa adV s s.heap) (hA : AOs s) (hM : MZ n b D cA S Z H) (hS : va_S (AB b) s.heap H locs) (hbs : b ≤ s.heap.size) (hcn : s.heap.size + cells = b + n) {y : MethodName} {cy : ByteArray} {maxL fr lo mc ms k n' idx : Nat} {S' : Mem} {Z' : ZM} (M : CnZ l b D cA sa adV y cy maxL fr lo mc ms k n S Z n' S' Z')
    (hlink : Cond.methodLink own idx y ∈ wG ∨ Cond.methodLinkNest own idx y "ProcessDesk" ∈ ngW) (hinst : Cond.instanceMethod y ∈ wG) (hini : Cond.initialized y.cls ∈ wG) (hcode : Cond.code y cy maxL none ∈ wG) (hy : y.name = "<init>") (hd2 : y.cls ≠ "java/lang/invoke/MethodHandle" ∧ y.cls ≠ "java/lang/invoke/VarHandle" ∧ (parseMethodDescriptor y.desc).map (fun d => d.parameters.length) = some 0) (hR : fr + 1 ≤ R.frames ∧ 8 + (maxL + 11) + lo ≤ R.locals)
    (hls : ls.size = nL) (hsum : (rest.map fun v => v.category).sum ≤ 8) (hc1 : cells + mc ≤ R.cells) (hs1 : slots + ms ≤ R.slots) (hd : decode cc pc = .ok (.invokespecial idx, 3))
    (kk : ∀ (H1 : Heap) (locs1 : List Loc), MZ n' b D cA S' Z' H1 → va_S (AB b) s.heap H1 locs1 → W p l e R s m args below meth c H1 locs1 (cells + mc) (slots + ms) Q (F0 m (pc + 3) ls rest)) : W p l e R s m args below meth c H locs cells slots Q (F0 m pc ls (.ref (b + k) :: rest)) := by
  obtain ⟨hx, hb, hml, hown, hts, hK, hN⟩ := X
  refine z_size hM hS hbs hcn (fun hsz => ?_)
  have hp : PreS s H (va_Pc [.ref (b + k)] (PZ n b D cA sa adV S Z)) [.ref (b + k)] := ⟨PZ.blind, fun U hU hW => ⟨rfl, by rw [hU]; exact hM, by rw [hU]; exact hsz, va_K.moved hW.alike hK, hN.go hW, by rw [hU]; exact hE.go hW (fun a h1 h2 => hS.2.1 a h1 h2), hA.moved hW.alike⟩⟩
  have hsm : 2 * 0 + (rest.map fun v => v.category).sum ≤ 8 := by omega
  have run : va_Run p l e R s m args below meth c H locs cells slots mc ms (F0 m pc ls (.ref (b + k) :: rest)) rest (QZ n' b D cA S' Z' #[.ref (b + k)]) (AB b) := by
    rcases hlink with h | h
    · exact va_runI (As := []) ⟨hx, hb, hml, hown, hts⟩ M ⟨callB_of 0 hts (wsG_good hcode) rfl rfl rfl (hts _ hini) (hts _ h) hd2 hR, hy, hts _ hinst⟩ hp rfl rfl hls rfl hsm hd ⟨hc1, hs1⟩
    · exact va_runIN (As := []) ⟨hx, hb, hml, hown, hts⟩ M ⟨va_cnB 0 hts (wsG_good hcode) rfl rfl rfl (hN _ h) (hts _ hini) hd2 hR, hy, hts _ hinst⟩ hp rfl rfl hls rfl hsm hd ⟨hc1, hs1⟩
  exact va_callv run hS (fun q _ h => h) (fun q h => h) (fun u t H1 locs1 ht _ _ hB _ _ hS1 => kk H1 locs1 (by rw [← ht]; exact hB) hS1)
end ZR2
