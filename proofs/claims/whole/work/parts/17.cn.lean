/-! ===== contracts out of wp, calls out of contracts ===== -/
def la : Nat → List Value → LL
  | _, [] => []
  | i, v :: vs => (i, v) :: la (bif wideV v then i + 2 else i + 1) vs
theorem la_cv (b : Nat) (sa : Nat → Nat) : ∀ (vs : List Value) (i : Nat), cvL b sa (la i vs) = lv_args i (vs.map (cv b sa))
  | [], _ => rfl
  | v :: vs, i => by
    have ih := la_cv b sa vs
    show (i, cv b sa v) :: cvL b sa (la (bif wideV v then i + 2 else i + 1) vs) = (i, cv b sa v) :: lv_args (if (cv b sa v).category = 2 then i + 2 else i + 1) (vs.map (cv b sa))
    rw [ih]
    congr 2
    cases v <;> rfl
def szV : List Value → Nat
  | [] => 0
  | v :: vs => catV v + szV vs
theorem sz_cv (b : Nat) (sa : Nat → Nat) : ∀ vs : List Value, (lg_sl (vs.map (cv b sa))).length = szV vs
  | [] => rfl
  | v :: vs => by
    have ih := sz_cv b sa vs
    unfold lg_sl at ih ⊢
    rw [List.map_cons, List.flatMap_cons, List.length_append, ih]
    cases v <;> rfl
/-- whatever the code's own steps keep holds at a place -/
def BODY (N : Nat) (prog : List PI) (calls : List (Nat × Nat × SP)) (hdl : Nat → String → Option Nat) (thr : List String) (sc : ScT) (nL : Nat) (rt : Option FieldType) (Qr : Option Value → Mem → Prop) (Qx : String → Mem → Prop) (G : Nat → Nat → LL → List Value → Mem → Prop) : Prop :=
  ∀ (cuts : CutT) (n pc rc : Nat) (L : LL) (st : List Value) (S : Mem), (∀ q ∈ cuts, ∀ (rc : Nat) (L : LL) (st : List Value) (S : Mem), q.2 rc L st S → G q.1 rc L st S) → wpH N prog calls hdl thr sc nL rt Qr Qx cuts n (jmp pc prog) rc L st S → G pc rc L st S
def RUN (N : Nat) (prog : List PI) (calls : List (Nat × Nat × SP)) (hdl : Nat → String → Option Nat) (thr : List String) (nL : Nat) (rt : Option FieldType) (n : Nat) (as : List Value) (S : Mem) (Qr : Option Value → Mem → Prop) (Qx : String → Mem → Prop) : Prop :=
  szV as ≤ nL ∧ ∀ G : Nat → Nat → LL → List Value → Mem → Prop, BODY N prog calls hdl thr none nL rt Qr Qx G → (∀ (pc rc : Nat) (L L' : LL) (st : List Value) (S : Mem), G pc rc L' st S → (∀ q ∈ L', q ∈ L) → G pc rc L st S) → G 0 n (la 0 as) [] S
/-- a method's contract -/
def Cn (l : Launch) (N b : Nat) (D : va_G) (cA sa adV : Nat → Nat) (y : MethodName) (cc : ByteArray) (maxL : Nat) (ret : Option FieldType) (fr lo n : Nat) (tr : SP) : Prop :=
  ∀ (as : List Value) (S : Mem) (Qr : Option Value → Mem → Prop) (Qx : String → Mem → Prop), tr as S Qr Qx → vx_Met l y (.code y cc maxL ret :: wG) { frames := fr, cells := n, slots := 6 * n, locals := lo } (va_Pc (as.map (cv b sa)) (PR N b D cA sa adV S)) (QcP N b D cA sa Qr) (XcP N b D cA Qx) n (6 * n) (AB b)
def wsG (y : MethodName) (cc : ByteArray) (maxL : Nat) (ret : Option FieldType) : List Cond := .code y cc maxL ret :: wG
theorem wsG_good {y : MethodName} {cc : ByteArray} {maxL : Nat} {ret : Option FieldType} (h : Cond.code y cc maxL ret ∈ wG) : GoodIn wG (.code y cc maxL ret :: wG) := by
  have key : ∀ w ∈ wG, w ∈ wG ∧ ((w.onTables && w.keeps) = true ∨ ∃ ty, w = .arrayClass ty) := fun w hw => ⟨hw, good_of_word (List.mem_filter.mp hw).2⟩
  intro w hw
  rcases List.mem_cons.mp hw with rfl | hw
  · exact key _ h
  · exact key _ hw
/-- what stands while a body runs -/
def CY (p : Program) (s : State) (m : MethodId) (args : Array Value) (c : Code) (cc : ByteArray) (nL : Nat) (own : String) (N b : Nat) (D : va_G) (cA sa adV : Nat → Nat) : Prop := CX p s m args c cc nL own D cA ∧ EV b sa adV s s.heap ∧ b ≤ s.heap.size
section CN
variable {l : Launch} {N b : Nat} {D : va_G} {cA sa adV : Nat → Nat}
set_option maxHeartbeats 2000000 in
theorem Cn_of {y : MethodName} {cc : ByteArray} {maxL fr lo n : Nat} {ret : Option FieldType} {prog : List PI} {calls : List (Nat × Nat × SP)} {hdl : Nat → String → Option Nat} {thr : List String} {tr : SP} (hy : plainName y.cls = true) (hprog : OKL y.cls cc prog)
    (hC : ∀ (p : Program) (e : Env) (s : State) (m : MethodId) (args : Array Value) (below : List Frame) (meth : Method) (c : Code) (Q : State → Prop), CY p s m args c cc maxL y.cls N b D cA sa adV → ∀ q : PI, q ∈ prog → ∀ (k na mc : Nat) (tr : SP), q.2.2.1 = [k] → calls[k]? = some (na, mc, tr) → ((∃ x, q.2.2.2.2.2 = .invokevirtual x) ∨ ∃ x, q.2.2.2.2.2 = .invokestatic x) → CallR p l e { frames := fr, cells := n, slots := 6 * n, locals := lo } s m args below meth c N b D cA sa maxL cc Q q.2.2.2.2.2 na mc tr)
    (hT : ∀ (p : Program) (e : Env) (s : State) (m : MethodId) (args : Array Value) (below : List Frame) (meth : Method) (c : Code) (Qr : Option Value → Mem → Prop) (Qx : String → Mem → Prop), CY p s m args c cc maxL y.cls N b D cA sa adV → meth.locks = false → (∀ x ∈ c.exceptionTable.toList, False) → ThrR p l e { frames := fr, cells := n, slots := 6 * n, locals := lo } s m args below meth c N b D cA sa maxL n Qr Qx prog thr)
    (hL : ∀ s : State, EV b sa adV s s.heap → LdcR s sa y.cls prog) (hdn : ∀ pc E, hdl pc E = none)
    (ht : ∀ as S Qr Qx, tr as S Qr Qx → RUN N prog calls hdl thr maxL ret n as S Qr Qx) : Cn l N b D cA sa adV y cc maxL ret fr lo n tr := by
  intro as S Qr Qx h
  obtain ⟨hsz, hrun⟩ := ht as S Qr Qx h
  refine vx_ofW (cc := cc) (maxL := maxL) (ret := ret) hy rfl ?_
  intro p e s m args below meth c s₁ B hml hnx hv
  obtain ⟨rfl, hM, hK, hN, hE, hbs⟩ := hv
  have hts0 := atoms_spec (ws := .code y cc maxL ret :: wG) B.pre
  have X : CX p s m (as.map (cv b sa)).toArray c cc maxL y.cls D cA := ⟨B.exec, B.bytes, hml, findClass_of_methodNamed B.named, fun w hw => hts0 w (List.mem_cons_of_mem _ hw), hK, hN⟩
  have Y : CY p s m (as.map (cv b sa)).toArray c cc maxL y.cls N b D cA sa adV := ⟨X, hE, hbs⟩
  have hlocks := B.notSynchronized
  have hl := lv_entry (as.map (cv b sa)) (n := maxL) (by rw [sz_cv]; exact hsz)
  rw [lg_entry_eq]
  generalize (lg_sl (as.map (cv b sa)) ++ List.replicate (maxL - (lg_sl (as.map (cv b sa))).length) Slot.unset).toArray = ls at hl ⊢
  rw [← la_cv b sa as 0] at hl
  have hH : ∀ K : KT, SND p l e { frames := fr, cells := n, slots := 6 * n, locals := lo } s m (as.map (cv b sa)).toArray below meth c N b D cA sa maxL n Qr Qx y.cls cc prog K → HdlR p l e { frames := fr, cells := n, slots := 6 * n, locals := lo } s m (as.map (cv b sa)).toArray below meth c N b D cA sa maxL n Qr Qx prog hdl K := by
    intro K _ q _ E ce x rc S' H' locs' cells slots ls' rest h1 hM' hS' hls hwf hc1 hc2 hc3 hn1 hn2
    rw [hdn] at h1
    exact vx_out (fun z hz => absurd (hnx z hz) id) hlocks hc1 hc2 hc3 (fun t ht _ => ⟨⟨S', h1, by rw [ht]; exact hM'⟩, hS'.F ht⟩) hS'.2.2 (by omega) (by omega)
  have key := hrun (WW p l e { frames := fr, cells := n, slots := 6 * n, locals := lo } s m (as.map (cv b sa)).toArray below meth c N b D cA sa maxL n Qr Qx) (fun cuts k pc rc L st S' hcut h9 => wpH_snd (sc := none) (fun _ _ h => by cases h) X hlocks B.returns hprog (hC p e s m _ below meth c _ Y) (hT p e s m _ below meth c Qr Qx Y hlocks hnx) (hL s hE) (Nat.le_refl n) (Nat.le_refl (6 * n)) hH hcut h9)
    (fun pc rc L L' st S' hG hsub H locs cells slots ls' h1 h2 h3 h4 h5 => hG H locs cells slots ls' h1 h2 (lv_mono h3 (fun z hz => by
      obtain ⟨a, ha, rfl⟩ := List.mem_map.mp hz
      exact List.mem_map.mpr ⟨a, hsub a ha, rfl⟩)) h4 h5)
  exact key s.heap [] 0 0 ls hM va_S.rf hl (by omega) (by omega)
end CN
section CR
variable {p : Program} {l : Launch} {e : Env} {R : Room} {s : State} {m : MethodId} {args : Array Value} {below : List Frame} {meth : Method} {c : Code} {Q : State → Prop}
variable {cc : ByteArray} {nL : Nat} {N b : Nat} {sa adV cA : Nat → Nat} {D : va_G} {own : String}
theorem run_go {H : Heap} {locs : List Loc} {cells slots mc ms pc : Nat} {ls : Array Slot} {st0 rest : List Value} {a : Array Value} {Qr : Option Value → Mem → Prop} {Qx : String → Mem → Prop} (hr : vx_Run p l e R s m args below meth c H locs cells slots mc ms (F0 m pc ls st0) rest (QcP N b D cA sa Qr a) (XcP N b D cA Qx) (AB b)) (hS : va_S (AB b) s.heap H locs)
    (kk : ∀ (v : Option Value) (S' : Mem) (H' : Heap) (locs' : List Loc), Qr v S' → MM N b D cA S' H' → va_S (AB b) s.heap H' locs' → W p l e R s m args below meth c H' locs' (cells + mc) (slots + ms) Q (F0 m (pc + 3) ls ((v.map (cv b sa)).toList ++ rest)))
    (kx : ∀ (E : String) (ce : Cell) (q : Addr) (S' : Mem) (H' : Heap) (locs' : List Loc), Qx E S' → MM N b D cA S' H' → va_S (AB b) s.heap H' locs' → H'[q]? = some ce → ce.vm = .none → s.vm.findClass E = some ce.cls → vx_W p l e R s m args below meth c H' locs' (cells + mc) (slots + ms) Q (F0 m pc ls rest) q) :
    W p l e R s m args below meth c H locs cells slots Q (F0 m pc ls st0) := by
  intro T hT X
  rcases hr T hT X with ⟨v, st₀, t, T', L, h0, X', hL, e1, e2, ⟨⟨v0, S', hv, hq, hm⟩, hF⟩, st⟩ | ⟨q, st₀, t, T', L, E, ce, h0, X', hL, e1, e2, ⟨⟨S', hq, hm⟩, hF⟩, hce, hcv, hcl, st⟩
  · obtain ⟨k1, k2, k3⟩ := vx_keep h0 e1 hS (fun q _ h => h) (fun q h => h) hL hF
    cases hv
    obtain ⟨t2, a1, b1⟩ := kk v0 S' T'.heap (locs ++ L) hq (by rw [e1]; exact hm) k3 T' rfl X'
    exact ⟨t2, st t2 a1, b1⟩
  · obtain ⟨k1, k2, k3⟩ := vx_keep h0 e1 hS (fun q _ h => h) (fun q h => h) hL hF
    obtain ⟨t2, a1, b1⟩ := kx E ce q S' T'.heap (locs ++ L) hq (by rw [e1]; exact hm) k3 (by rw [e1]; exact hce) hcv hcl T' rfl X'
    exact ⟨t2, st.trans a1, b1⟩
theorem opt_map (v : Option Value) (rest : List Value) : (v.map (cv b sa)).toList ++ rest.map (cv b sa) = (v.toList ++ rest).map (cv b sa) := by cases v <;> simp
theorem PR_of (Y : CY p s m args c cc nL own N b D cA sa adV) {H : Heap} {locs : List Loc} {S : Mem} (hM : MM N b D cA S H) (hS : va_S (AB b) s.heap H locs) {U : State} (hU : U.heap = H) (hW : s.WarmedH U.vm) : PR N b D cA sa adV S U := by
  obtain ⟨⟨hx, hb, hml, hown, hts, hK, hN⟩, hE, hbs⟩ := Y
  refine ⟨by rw [hU]; exact hM, va_K.moved hW.alike hK, hN.go hW, ?_, by rw [hU]; exact Nat.le_trans hbs hS.1⟩
  rw [hU]
  exact hE.go hW (fun a h1 h2 => hS.2.1 a h1 h2)
/-- the receiver is of its class -/
def vsp (N ci : Nat) (sp : SP) : SP := fun as S Qr Qx => match as with
  | .ref k :: _ => tyN N k = (0, ci, 0, 0) ∧ sp as S Qr Qx
  | _ => False
/-- a callee that never throws -/
def nsp (sp : SP) : SP := fun as S Qr _ => sp as S Qr (fun _ _ => False)
theorem cv_key {k : Nat} (h : k < 1000) : cv b sa (.ref k) = .ref (b + k) := by
  show Value.ref (if k < 1000 then b + k else sa (k - 1000)) = _
  rw [if_pos h]
set_option maxHeartbeats 2000000 in
theorem callV_of (Y : CY p s m args c cc nL own N b D cA sa adV) {y : MethodName} {cy : ByteArray} {maxL fr lo n np idx ci : Nat} {ret : Option FieldType} {sp : SP} (M : Cn l N b D cA sa adV y cy maxL ret fr lo n sp)
    (hlink : Cond.methodLink own idx y ∈ wG) (hin : Cond.instanceMethod y ∈ wG) (hsel : Cond.selects y.cls y y ∈ wG) (hini : Cond.initialized y.cls ∈ wG) (hcode : Cond.code y cy maxL ret ∈ wG) {T : u_T} {N1 : Nat} (hci : vwCl[ci]? = some (y.cls, T, N1))
    (hd : y.cls ≠ "java/lang/invoke/MethodHandle" ∧ y.cls ≠ "java/lang/invoke/VarHandle" ∧ (parseMethodDescriptor y.desc).map (fun d => d.parameters.length) = some np) (hR : fr + 1 ≤ R.frames ∧ 8 + (maxL + 11) + lo ≤ R.locals) :
    CallR p l e R s m args below meth c N b D cA sa nL cc Q (.invokevirtual idx) (np + 1) n (vsp N ci sp) := by
  intro H locs cells slots pc ls as rest S Qr Qx hlen h hM hS hls hsum hd0 hc1 hc2 kk kx
  have X := Y.1
  obtain ⟨hx, hb, hml, hown, hts, hK, hN⟩ := id X
  unfold vsp at h
  split at h
  · rename_i k as'
    obtain ⟨hty, h⟩ := h
    have hk2 : k < 1000 := Nat.lt_trans (tyN_k hty (Or.inl (by decide))) (by decide)
    obtain ⟨hk, hty⟩ := tyN_spec hty (Or.inl (by decide))
    have he : (wl N b cA S)[k]? = some (b + k, .inr (ci, fvs b k (S.1 k) (S.2 k) ci)) := by rw [wl_get hk, cel_obj hty]
    have hst : (((Value.ref k :: as').reverse ++ rest).map (cv b sa)) = (as'.map (cv b sa)).reverse ++ .ref (b + k) :: rest.map (cv b sa) := by
      rw [List.reverse_cons, List.append_assoc, List.map_append, List.map_reverse, List.singleton_append, List.map_cons, cv_key hk2]
    rw [hst]
    have hM2 := M _ S Qr Qx h
    rw [List.map_cons, cv_key hk2] at hM2
    refine run_go (rest := rest.map (cv b sa)) (vx_runV (As := as'.map (cv b sa)) (b := b + k) (C := y.cls) ⟨hx, hb, hml, hown, hts⟩ hM2 ⟨callB_of np hts (wsG_good hcode) rfl rfl rfl (hts _ hini) (hts _ hlink) hd hR, hts _ hin, hts _ hsel⟩ ⟨PR.blind, va_recv hK hM hci he, fun U hU hW => ⟨rfl, PR_of Y hM hS hU hW⟩⟩ rfl ?_ hls rfl ?_ hd0 ⟨hc1, hc2⟩) hS (fun v S' H' locs' h1 h2 h3 => ?_) kx
    · rw [List.length_map]
      have : as'.length + 1 = np + 1 := hlen
      omega
    · show 2 * 0 + _ ≤ 8
      rw [Nat.mul_zero, Nat.zero_add, sumC_cv]
      exact hsum
    · rw [opt_map]
      exact kk v S' H' locs' h1 h2 h3
  · cases h
set_option maxHeartbeats 2000000 in
theorem callS_of (Y : CY p s m args c cc nL own N b D cA sa adV) {y : MethodName} {cy : ByteArray} {maxL fr lo n np idx : Nat} {ret : Option FieldType} {sp : SP} (M : Cn l N b D cA sa adV y cy maxL ret fr lo n sp)
    (hlink : Cond.methodLink own idx y ∈ wG) (hstat : Cond.static y ∈ wG) (hini : Cond.initialized y.cls ∈ wG) (hcode : Cond.code y cy maxL ret ∈ wG)
    (hd : y.cls ≠ "java/lang/invoke/MethodHandle" ∧ y.cls ≠ "java/lang/invoke/VarHandle" ∧ (parseMethodDescriptor y.desc).map (fun d => d.parameters.length) = some np) (hR : fr + 1 ≤ R.frames ∧ 8 + (maxL + 11) + lo ≤ R.locals) :
    CallR p l e R s m args below meth c N b D cA sa nL cc Q (.invokestatic idx) np n sp := by
  intro H locs cells slots pc ls as rest S Qr Qx hlen h hM hS hls hsum hd0 hc1 hc2 kk kx
  have X := Y.1
  obtain ⟨hx, hb, hml, hown, hts, hK, hN⟩ := id X
  rw [List.map_append, List.map_reverse]
  refine run_go (rest := rest.map (cv b sa)) (vx_runS (As := as.map (cv b sa)) ⟨hx, hb, hml, hown, hts⟩ (M _ S Qr Qx h) ⟨callB_of np hts (wsG_good hcode) rfl rfl rfl (hts _ hini) (hts _ hlink) hd hR, hts _ hstat⟩ ⟨PR.blind, fun U hU hW => ⟨rfl, PR_of Y hM hS hU hW⟩⟩ rfl (by rw [List.length_map]; exact hlen) hls rfl ?_ hd0 ⟨hc1, hc2⟩) hS (fun v S' H' locs' h1 h2 h3 => ?_) kx
  · show 2 * 0 + _ ≤ 8
    rw [Nat.mul_zero, Nat.zero_add, sumC_cv]
    exact hsum
  · rw [opt_map]
    exact kk v S' H' locs' h1 h2 h3
theorem met_of {y : MethodName} {ws : List Cond} {rm : Room} {Pc : Array Value → State → Prop} {Qc : Array Value → State → Outcome → State → Prop} {mc ms : Nat} {free : Addr → Prop} (h : vx_Met l y ws rm Pc Qc (XcP N b D cA (fun _ _ => False)) mc ms free) : Met l y ws rm Pc Qc mc ms free := by
  intro p e ha hc hk s m args below hf happ hP hT
  obtain ⟨t, o, h1, h2, h3, h4⟩ := h p e ha hc hk s m args below hf happ hP hT
  refine ⟨t, o, h1, h2, h3, ?_⟩
  rcases h4 with h4 | ⟨q, -, E, ce, L, ⟨⟨S, hS, -⟩, -⟩, -⟩
  · exact h4
  · exact absurd hS id
theorem run_of {H : Heap} {locs : List Loc} {cells slots mc ms : Nat} {g : JFrame} {rest : List Value} {Qa : State → Outcome → State → Prop} {XC : String → State → State → Prop} {free : Addr → Prop} (h : va_Run p l e R s m args below meth c H locs cells slots mc ms g rest Qa free) : vx_Run p l e R s m args below meth c H locs cells slots mc ms g rest Qa XC free := fun T hT X => Or.inl (h T hT X)
set_option maxHeartbeats 2000000 in
theorem callSN_of (Y : CY p s m args c cc nL own N b D cA sa adV) {y : MethodName} {cy : ByteArray} {maxL fr lo n np idx : Nat} {host : String} {ret : Option FieldType} {sp : SP} (M : Cn l N b D cA sa adV y cy maxL ret fr lo n sp)
    (hlink : Cond.methodLinkNest own idx y host ∈ ngW) (hstat : Cond.static y ∈ wG) (hini : Cond.initialized y.cls ∈ wG) (hcode : Cond.code y cy maxL ret ∈ wG)
    (hd : y.cls ≠ "java/lang/invoke/MethodHandle" ∧ y.cls ≠ "java/lang/invoke/VarHandle" ∧ (parseMethodDescriptor y.desc).map (fun d => d.parameters.length) = some np) (hR : fr + 1 ≤ R.frames ∧ 8 + (maxL + 11) + lo ≤ R.locals) :
    CallR p l e R s m args below meth c N b D cA sa nL cc Q (.invokestatic idx) np n (nsp sp) := by
  intro H locs cells slots pc ls as rest S Qr Qx hlen h hM hS hls hsum hd0 hc1 hc2 kk kx
  have X := Y.1
  obtain ⟨hx, hb, hml, hown, hts, hK, hN⟩ := id X
  rw [List.map_append, List.map_reverse]
  refine run_go (Qx := Qx) (rest := rest.map (cv b sa)) (run_of (va_runSN (As := as.map (cv b sa)) ⟨hx, hb, hml, hown, hts⟩ (met_of (M _ S Qr _ h)) ⟨va_cnB np hts (wsG_good hcode) rfl rfl rfl (hN _ hlink) (hts _ hini) hd hR, hts _ hstat, trivial⟩ ⟨PR.blind, fun U hU hW => ⟨rfl, PR_of Y hM hS hU hW⟩⟩ rfl (by rw [List.length_map]; exact hlen) hls rfl ?_ hd0 ⟨hc1, hc2⟩)) hS (fun v S' H' locs' h1 h2 h3 => ?_) kx
  · show 2 * 0 + _ ≤ 8
    rw [Nat.mul_zero, Nat.zero_add, sumC_cv]
    exact hsum
  · rw [opt_map]
    exact kk v S' H' locs' h1 h2 h3
end CR
