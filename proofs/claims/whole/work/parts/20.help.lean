/-! ===== methods with a table of handlers: the law's helpers ===== -/
abbrev HE : Type := String × Nat × Nat × Nat
/-- a handler: the class, its pc, the pool entry, how long its astore is -/
def hdlH (cs : List HE) (en : Nat) : Nat → String → Option Nat := fun pc E => bif Nat.blt pc en then (cs.find? (fun c => decide (c.1 = E))).map (fun c => c.2.1 + c.2.2.2) else none
def tabH (cs : List HE) (en : Nat) : List (Nat × Nat × Nat × Nat) := cs.map (fun c => (0, en, c.2.1, c.2.2.1))
def chkA (cc : ByteArray) (nL : Nat) (c : HE) : Bool := match decode cc c.2.1 with
  | .ok (.astore_n k, n) => decide (n = 1) && (decide (c.2.2.2 = 1) && decide (k.val < nL))
  | .ok (.astore k, n) => decide (n = 2) && (decide (c.2.2.2 = 2) && decide (k < nL))
  | _ => false
def chkP (cs : List HE) : Bool := cs.all (fun c => cs.all (fun d => decide (c.1 = d.1) || decide ((c.1, d.1) ∈ ncT)))
def CnH (l : Launch) (N b : Nat) (D : va_G) (cA sa adV : Nat → Nat) (y : MethodName) (cc : ByteArray) (maxL : Nat) (ret : Option FieldType) (hh : List (Nat × Nat × Nat × Nat)) (fr lo n : Nat) (tr : SP) : Prop :=
  ∀ (as : List Value) (S : Mem) (Qr : Option Value → Mem → Prop), tr as S Qr (fun _ _ => False) → Met l y (.codeWith y cc maxL ret hh :: wG) { frames := fr, cells := n, slots := 6 * n, locals := lo } (va_Pc (as.map (cv b sa)) (PR N b D cA sa adV S)) (QcP N b D cA sa Qr) n (6 * n) (AB b)
section HLP
variable {l : Launch} {N b : Nat} {D : va_G} {cA sa adV : Nat → Nat}
theorem catch_at {p : Program} {e : Env} {R : Room} {s : State} {m : MethodId} {args : Array Value} {below : List Frame} {meth : Method} {c : Code} {H : Heap} {locs : List Loc} {cells slots pc : Nat} {Q : State → Prop} {ls : Array Slot} {rest : List Value} {own E : String} {ce : Cell} {q : Addr} {cs : List HE} {en : Nat} (hown : s.vm.findClass own = some m.cls) (htab : c.exceptionTable.toList = tableOf (tabH cs en)) (hpc : pc < en)
    (hlink : ∀ d ∈ cs, (Cond.classLink own d.2.2.1 d.1).before args s = true ∧ d.2.2.1 ≠ 0) (hcast : (Cond.castable E E).before args s = true) (hnc : ∀ d ∈ cs, d.1 = E ∨ va_Nc E d.1 s) (hcell : H[q]? = some ce) (hv : ce.vm = .none) (hcl : s.vm.findClass E = some ce.cls) {h : HE} (hf : cs.find? (fun c => decide (c.1 = E)) = some h)
    (kk : W p l e R s m args below meth c H locs cells slots Q (F0 m h.2.1 ls [.ref q])) : vx_W p l e R s m args below meth c H locs cells slots Q (F0 m pc ls rest) q := by
  obtain ⟨hE, as, bs, hsplit, hpre⟩ := List.find?_eq_some_iff_append.mp hf
  have hE : h.1 = E := of_decide_eq_true hE
  have hmem : h ∈ cs := by rw [hsplit]; exact List.mem_append_right _ List.mem_cons_self
  refine vx_catch (own := own) (name := E) (E := E) hown (tableOf (tabH as en)) ⟨0, en, h.2.1, h.2.2.1⟩ (tableOf (tabH bs en)) ?_ ?_ ?_ (hlink h hmem).2 (by have := (hlink h hmem).1; rw [hE] at this; exact this) hcast hcell hv hcl kk
  · rw [htab, hsplit]
    simp [tableOf, tabH]
  · intro z hz
    unfold tableOf tabH at hz
    rw [List.map_map] at hz
    obtain ⟨d, hd, rfl⟩ := List.mem_map.mp hz
    have hdm : d ∈ cs := by rw [hsplit]; exact List.mem_append_left _ hd
    have hne : ¬ d.1 = E := by
      have := hpre d hd
      simpa using this
    refine Or.inr ⟨(hlink d hdm).2, d.1, (hlink d hdm).1, ?_⟩
    rcases hnc d hdm with h1 | h1
    · exact absurd h1 hne
    · exact h1
  · simp [covers, hpc]
set_option maxHeartbeats 2000000 in
theorem CnH_of {y : MethodName} {cc : ByteArray} {maxL fr lo n en : Nat} {ret : Option FieldType} {prog : List PI} {calls : List (Nat × Nat × SP)} {cs : List HE} (hy : plainName y.cls = true) (hprog : OKL y.cls cc prog)
    (hC : ∀ (p : Program) (e : Env) (s : State) (m : MethodId) (args : Array Value) (below : List Frame) (meth : Method) (c : Code) (Q : State → Prop), CY p s m args c cc maxL y.cls N b D cA sa adV → ∀ q : PI, q ∈ prog → ∀ (k na mc : Nat) (tr : SP), q.2.2.1 = [k] → calls[k]? = some (na, mc, tr) → ((∃ x, q.2.2.2.2.2 = .invokevirtual x) ∨ ∃ x, q.2.2.2.2.2 = .invokestatic x) → CallR p l e { frames := fr, cells := n, slots := 6 * n, locals := lo } s m args below meth c N b D cA sa maxL cc Q q.2.2.2.2.2 na mc tr)
    (hL : ∀ s : State, EV b sa adV s s.heap → LdcR s sa y.cls prog) (hA : cs.all (chkA cc maxL) = true) (hP : chkP cs = true) (hw : ∀ d ∈ cs, Cond.classLink y.cls d.2.2.1 d.1 ∈ wG ∧ d.2.2.1 ≠ 0) (hcast : ∀ d ∈ cs, Cond.castable d.1 d.1 ∈ ngW) :
    CnH l N b D cA sa adV y cc maxL ret (tabH cs en) fr lo n (RUN N prog calls (hdlH cs en) [] maxL ret n) := by
  intro as S Qr h
  obtain ⟨hsz, hrun⟩ := h
  refine met_of (N := N) (b := b) (D := D) (cA := cA) (vx_ofWH (cc := cc) (maxL := maxL) (ret := ret) (hh := tabH cs en) hy rfl ?_)
  intro p e s m args below meth c s₁ B hml hv
  obtain ⟨rfl, hM, hK, hN, hE, hbs⟩ := hv
  have hts0 := atoms_spec (ws := .codeWith y cc maxL ret (tabH cs en) :: wG) B.pre
  have htab : c.exceptionTable.toList = tableOf (tabH cs en) := vx_table (x := y) B (hts0 _ List.mem_cons_self)
  have X : CX p s m (as.map (cv b sa)).toArray c cc maxL y.cls D cA := ⟨B.exec, B.bytes, hml, findClass_of_methodNamed B.named, fun w hw => hts0 w (List.mem_cons_of_mem _ hw), hK, hN⟩
  have Y : CY p s m (as.map (cv b sa)).toArray c cc maxL y.cls N b D cA sa adV := ⟨X, hE, hbs⟩
  have hlocks := B.notSynchronized
  have hl := lv_entry (as.map (cv b sa)) (n := maxL) (by rw [sz_cv]; exact hsz)
  rw [lg_entry_eq]
  generalize (lg_sl (as.map (cv b sa)) ++ List.replicate (maxL - (lg_sl (as.map (cv b sa))).length) Slot.unset).toArray = ls at hl ⊢
  rw [← la_cv b sa as 0] at hl
  have hH : ∀ K : KT, SND p l e { frames := fr, cells := n, slots := 6 * n, locals := lo } s m (as.map (cv b sa)).toArray below meth c N b D cA sa maxL n Qr (fun _ _ => False) y.cls cc prog K → HdlR p l e { frames := fr, cells := n, slots := 6 * n, locals := lo } s m (as.map (cv b sa)).toArray below meth c N b D cA sa maxL n Qr (fun _ _ => False) prog (hdlH cs en) K := by
    intro K hK q hq E ce x rc S' H' locs' cells slots ls' rest h1 hM' hS' hls hwf hc1 hc2 hc3 hn1 hn2
    unfold hdlH at h1
    cases hpc : Nat.blt q.1 en with
    | false => rw [hpc] at h1; exact absurd h1 id
    | true =>
      rw [hpc] at h1
      dsimp only [cond_true] at h1
      cases hf : cs.find? (fun c => decide (c.1 = E)) with
      | none => rw [hf] at h1; exact absurd h1 id
      | some d =>
        rw [hf] at h1
        dsimp only [Option.map_some] at h1
        have hd1 : d.1 = E := by
          have h9 := List.find?_some hf
          exact of_decide_eq_true h9
        have hdm : d ∈ cs := List.mem_of_find?_eq_some hf
        have hpc2 : q.1 < en := by
          simpa only [Nat.blt_eq] using hpc
        have hnc : ∀ z ∈ cs, z.1 = E ∨ va_Nc E z.1 s := by
          intro z hz
          have h9 := List.all_eq_true.mp hP d hdm
          have h10 := List.all_eq_true.mp h9 z hz
          simp only [Bool.or_eq_true, decide_eq_true_eq] at h10
          rcases h10 with h10 | h10
          · exact Or.inl (h10.symm.trans hd1)
          · refine Or.inr ?_
            rw [← hd1]
            exact hE.2.2.2.2.2.2 _ h10
        refine catch_at (own := y.cls) (E := E) X.2.2.2.1 htab hpc2 (fun z hz => ⟨X.2.2.2.2.1 _ (hw z hz).1, (hw z hz).2⟩) (by rw [← hd1]; exact va_Nw.use rfl (hN _ (hcast d hdm))) hnc hc1 hc2 hc3 hf ?_
        -- at the handler: astore, then on
        have hgo : WW p l e { frames := fr, cells := n, slots := 6 * n, locals := lo } s m (as.map (cv b sa)).toArray below meth c N b D cA sa maxL n Qr (fun _ _ => False) (d.2.1 + d.2.2.2) rc [] [] S' := by
          cases hj : jmp (d.2.1 + d.2.2.2) prog with
          | nil => rw [hj] at h1; exact absurd h1 (hK.1 _ _ _ _)
          | cons q' r' =>
            have h9 := OKL_jmp (d.2.1 + d.2.2.2) hprog
            rw [hj] at h9 h1
            have := hK.2 q' r' rc [] [] S' h9 (fun z hz => mem_jmp (d.2.1 + d.2.2.2) (by rw [hj]; exact hz)) h1
            rw [jmp_head (d.2.1 + d.2.2.2) (prog := prog) (q := q') (by rw [hj]; rfl)] at this
            exact this
        have hlv : lv_has ls' maxL [] := ⟨hls, hwf, fun _ h => by cases h⟩
        have hch := List.all_eq_true.mp hA d hdm
        unfold chkA at hch
        split at hch
        · rename_i k n1 hd
          simp only [Bool.and_eq_true, decide_eq_true_eq] at hch
          obtain ⟨rfl, hl2, hk⟩ := hch
          refine lv_astore_n X.1 X.2.1 hd rfl hlv hk rfl (fun ls9 hl9 => ?_)
          rw [hl2] at hgo
          exact hgo H' locs' cells slots ls9 hM' hS' (lv_mono hl9 (fun _ h => by cases h)) hn1 hn2
        · rename_i k n1 hd
          simp only [Bool.and_eq_true, decide_eq_true_eq] at hch
          obtain ⟨rfl, hl2, hk⟩ := hch
          refine lv_astore X.1 X.2.1 hd hlv hk rfl (fun ls9 hl9 => ?_)
          rw [hl2] at hgo
          exact hgo H' locs' cells slots ls9 hM' hS' (lv_mono hl9 (fun _ h => by cases h)) hn1 hn2
        · cases hch
  have hT : ThrR p l e { frames := fr, cells := n, slots := 6 * n, locals := lo } s m (as.map (cv b sa)).toArray below meth c N b D cA sa maxL n Qr (fun _ _ => False) prog [] := by
    intro q _ x k E _ _ h
    simp at h
  have key := hrun (WW p l e { frames := fr, cells := n, slots := 6 * n, locals := lo } s m (as.map (cv b sa)).toArray below meth c N b D cA sa maxL n Qr (fun _ _ => False)) (fun cuts k pc rc L st S' hcut h9 => wpH_snd (sc := none) (fun _ _ h => by cases h) X hlocks B.returns hprog (hC p e s m _ below meth c _ Y) hT (hL s hE) (Nat.le_refl n) (Nat.le_refl (6 * n)) hH hcut h9)
    (fun pc rc L L' st S' hG hsub H locs cells slots ls' h1 h2 h3 h4 h5 => hG H locs cells slots ls' h1 h2 (lv_mono h3 (fun z hz => by
      obtain ⟨a, ha, rfl⟩ := List.mem_map.mp hz
      exact List.mem_map.mpr ⟨a, hsub a ha, rfl⟩)) h4 h5)
  exact key s.heap [] 0 0 ls hM va_S.rf hl (by omega) (by omega)
variable {p : Program} {e : Env} {R : Room} {s : State} {m : MethodId} {args : Array Value} {below : List Frame} {meth : Method} {c : Code} {Q : State → Prop} {cc : ByteArray} {nL : Nat} {own : String}
set_option maxHeartbeats 2000000 in
theorem callH_of (Y : CY p s m args c cc nL own N b D cA sa adV) {y : MethodName} {cy : ByteArray} {maxL fr lo n np idx : Nat} {ret : Option FieldType} {hh : List (Nat × Nat × Nat × Nat)} {sp : SP} (M : CnH l N b D cA sa adV y cy maxL ret hh fr lo n sp)
    (hlink : Cond.methodLink own idx y ∈ wG) (hstat : Cond.static y ∈ wG) (hini : Cond.initialized y.cls ∈ wG) (hcode : Cond.codeWith y cy maxL ret hh ∈ wG)
    (hd : y.cls ≠ "java/lang/invoke/MethodHandle" ∧ y.cls ≠ "java/lang/invoke/VarHandle" ∧ (parseMethodDescriptor y.desc).map (fun d => d.parameters.length) = some np) (hR : fr + 1 ≤ R.frames ∧ 8 + (maxL + 11) + lo ≤ R.locals) :
    CallR p l e R s m args below meth c N b D cA sa nL cc Q (.invokestatic idx) np n (nsp sp) := by
  intro H locs cells slots pc ls as rest S Qr Qx hlen h hM hS hls hsum hd0 hc1 hc2 kk kx
  have X := Y.1
  obtain ⟨hx, hb, hml, hown, hts, hK, hN⟩ := id X
  have key : ∀ w ∈ wG, w ∈ wG ∧ ((w.onTables && w.keeps) = true ∨ ∃ ty, w = .arrayClass ty) := fun w hw => ⟨hw, good_of_word (List.mem_filter.mp hw).2⟩
  have hG : GoodIn wG (va_wsS own idx y (.codeWith y cy maxL ret hh :: wG)) := by
    intro w hw
    unfold va_wsS at hw
    rcases List.mem_append.mp hw with hw | hw
    · simp only [List.mem_cons, List.not_mem_nil, or_false] at hw
      rcases hw with rfl | rfl | rfl
      · exact key _ hlink
      · exact key _ hstat
      · exact key _ hini
    · rcases List.mem_cons.mp hw with rfl | hw
      · exact key _ hcode
      · exact key _ hw
  rw [List.map_append, List.map_reverse]
  refine run_go (Qx := Qx) (rest := rest.map (cv b sa)) (run_of (vx_runSW (As := as.map (cv b sa)) ⟨hx, hb, hml, hown, hts⟩ (M _ S Qr h) (vx_cwSW np hts hG rfl rfl rfl hd hR) ⟨PR.blind, fun U hU hW => ⟨rfl, PR_of Y hM hS hU hW⟩⟩ rfl (by rw [List.length_map]; exact hlen) hls rfl ?_ hd0 ⟨hc1, hc2⟩)) hS (fun v S' H' locs' h1 h2 h3 => ?_) kx
  · show 2 * 0 + _ ≤ 8
    rw [Nat.mul_zero, Nat.zero_add, sumC_cv]
    exact hsum
  · rw [opt_map]
    exact kk v S' H' locs' h1 h2 h3
end HLP
