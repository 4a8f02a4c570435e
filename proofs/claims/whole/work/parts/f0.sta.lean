/-! THE CLAIM OUT OF ONE WALK OF THE LAW'S BODY. Your part is whole_start (and what it stands on); all else here is the same for every law, but numbers. -/
def R_law : String := "ProcessDeskLaw"
def lw_P (b : Addr) (xs : List Int32) (args : Array Value) (s : State) : Prop := args = #[.ref b] ∧ s.IntsAt b xs ∧ xs.length ≤ 3072 ∧ (Jvm.Cond.and given_1 narrow_1).before args s = true
def lw_Q (_ : Array Value) (s : State) (o : Outcome) (t : State) : Prop := o = .returned (some (.int 1)) ∧ Framed s o t [] 601024 7293034
def lw_Z (below : List Frame) (a : Array Value) (s : State) : State → Prop := fun t => ∃ o, t.status = .running ∧ Ended t below o ∧ lw_Q a s o t
/-- the law's own end, with 1 on the stack, nothing written that was there before, its room as the claim has it -/
theorem lw_ret {p : Program} {l : Launch} {e : Env} {s : State} {m : MethodId} {below : List Frame} {meth : Method} {c : Code} {b : Nat} (hx : p.tables.exec = Jvm.exec) (hb : c.code = code) (hr : meth.sig.returnType = ret) (hlocks : meth.locks = false) {pc : Nat} {H : Heap} {ls : Array Slot} (hdg : decode code pc = .ok (.ireturn, 1)) : W p l e room_1 s m #[Value.ref b] below meth c H [] 601024 7293034 (lw_Z below #[Value.ref b] s) (F0 m pc ls [.int 1]) := by
  intro T hT X
  obtain ⟨fs, hret, hrun, hended, hW, hframe⟩ := X.leave (v := some (.int 1)) (hlocks := hlocks) (fun h => by rw [hr] at h; cases h)
  have hmeth' : T.vm.method? m = some meth := X.method'
  refine ⟨T.setFrames fs, ?_, .returned (some (.int 1)), hrun, hended, rfl, ⟨_, rfl⟩, hW, hframe⟩
  jvm_step X.here [X.here.top, hx, hb, hdg, hmeth', hr, ret, narrow_b1]
  (try refine ⟨rfl, ?_⟩); (try refine ⟨rfl, ?_⟩)
  first | (intro acts; rw [hret _ acts rfl rfl rfl]) | rw [hret _ _ rfl rfl rfl]
  exact Steps.refl _
/-- what holds at the law's entry: the machine, the code, the tables' words (any of lw_tbl by 'hts w (by decide +kernel)'), the script of L ints xs at the cell b, what the Statement gives of the start (any of its parts by flat_of_before) -/
def lw_At (p : Program) (s : State) (m : MethodId) (meth : Method) (c : Code) (b L : Nat) (xs : Nat → Int32) : Prop :=
  p.tables.exec = Jvm.exec ∧ c.code = code ∧ meth.sig.returnType = ret ∧ c.maxLocals = 8 ∧ s.vm.findClass R_law = some m.cls ∧ (∀ w ∈ lw_tbl, w.before #[Value.ref b] s = true) ∧ va_X b L xs s s.heap ∧ b < s.heap.size ∧ meth.locks = false ∧ (Jvm.Cond.and given_1 narrow_1).before #[Value.ref b] s = true
theorem zk_L_8 : Cond.classLink RL 8 RX9 ∈ wG := wG_at 23 (by decide +kernel) rfl
theorem zk_L_86 : Cond.classLink RL 86 RX10 ∈ wG := wG_at 1236 (by decide +kernel) rfl
theorem zl_L_85 : Cond.methodLink RL 85 yX9_init ∈ wG := wG_at 25 (by decide +kernel) rfl
theorem zl_L_88 : Cond.methodLink RL 88 yX10_init ∈ wG := wG_at 1238 (by decide +kernel) rfl
theorem zd_L_0 : decode cL_law 0 = .ok (.new 8, 3) := by decide +kernel
theorem zd_L_3 : decode cL_law 3 = .ok (.dup, 1) := by decide +kernel
theorem zd_L_4 : decode cL_law 4 = .ok (.invokespecial 85, 3) := by decide +kernel
theorem zd_L_7 : decode cL_law 7 = .ok (.astore_n 1, 1) := by decide +kernel
theorem zd_L_8 : decode cL_law 8 = .ok (.new 86, 3) := by decide +kernel
theorem zd_L_11 : decode cL_law 11 = .ok (.dup, 1) := by decide +kernel
theorem zd_L_12 : decode cL_law 12 = .ok (.invokespecial 88, 3) := by decide +kernel
theorem zd_L_15 : decode cL_law 15 = .ok (.astore_n 2, 1) := by decide +kernel
theorem zd_L_16 : decode cL_law 16 = .ok (.iconst 1, 1) := by decide +kernel
theorem zd_L_17 : decode cL_law 17 = .ok (.newarray .long, 2) := by decide +kernel
theorem zd_L_19 : decode cL_law 19 = .ok (.astore_n 3, 1) := by decide +kernel
theorem zd_L_20 : decode cL_law 20 = .ok (.iconst 0, 1) := by decide +kernel
theorem zd_L_21 : decode cL_law 21 = .ok (.istore 4, 2) := by decide +kernel
theorem W_mono {p : Program} {l : Launch} {e : Env} {R : Room} {s : State} {m : MethodId} {args : Array Value} {below : List Frame} {meth : Method} {c : Code} {H : Heap} {locs : List Loc} {cells slots : Nat} {Q Q' : State → Prop} {g : JFrame} (h : ∀ t, Q t → Q' t) (k : W p l e R s m args below meth c H locs cells slots Q g) : W p l e R s m args below meth c H locs cells slots Q' g := fun T hT X => by
  obtain ⟨t, a, b⟩ := k T hT X
  exact ⟨t, a, h t b⟩
/-- the end as the claim has it -/
theorem QQ_Z {below : List Frame} {args : Array Value} {s : State} {D : va_G} {cA sa : Nat → Nat} {tot : Nat} (h1 : tot ≤ 601024) (h2 : 6 * tot ≤ 7293034) (t : State) (h : QQ below args s 156 s.heap.size D cA sa tot lwQ lwX t) : lw_Z below args s t := by
  obtain ⟨o, a1, a2, h⟩ := h
  rcases h with ⟨⟨⟨v, S, rfl, hv, -⟩, -⟩, L, ⟨g1, g2, g3⟩, hL⟩ | ⟨q, rfl, E, ce, L, ⟨⟨S, hx, -⟩, -⟩, -⟩
  · have hv : v = some (.int 1) := hv
    subst hv
    exact ⟨_, a1, a2, rfl, g1, g2, State.sameButNew.mono (State.sameButNew.drop_fresh (L := []) g3 hL) h1 h2⟩
  · exact absurd hx id
set_option maxRecDepth 20000 in
set_option maxHeartbeats 4000000 in
theorem whole_start {p : Program} {e : Env} {s : State} {m : MethodId} {below : List Frame} {meth : Method} {c : Code} (l : Launch) (hflags : l.flags = flags0) {b L : Nat} {xs : Nat → Int32} (hL : L ≤ 3072) (C0 : lw_At p s m meth c b L xs) : W p l e room_1 s m #[Value.ref b] below meth c s.heap [] 0 0 (lw_Z below #[Value.ref b] s) (entryFrame m ([Value.ref b] : List Value).toArray 8) := by
  obtain ⟨hx, hb, hr, hml, hown, hts0, hX, hbl, hlocks, hgv⟩ := id C0
  have hl0 : l.stackTraces = false := by
    unfold Launch.stackTraces
    rw [hflags]; decide +kernel
  obtain ⟨sa, adV, hsa, hE⟩ := EV_start hts0 hgv
  obtain ⟨D, cA, hK⟩ := K_start hts0
  have hN := NW_start hts0
  have hA := AO_start hts0
  have hts : ∀ w ∈ wG, w.before #[Value.ref b] s = true := fun w hw => hts0 w (List.mem_filter.mp hw).1
  have X : CX p s m #[Value.ref b] c cL_law 8 RL D cA := ⟨hx, hb, hml, hown, hts, hK, hN⟩
  have hbs : s.heap.size ≤ s.heap.size := Nat.le_refl _
  have hS : va_S (AB s.heap.size) s.heap s.heap [] := va_S.rf
  have hM : MZ 0 s.heap.size D cA S00 z00 s.heap := fun k q h => by
    obtain ⟨h, -⟩ := wz_at h
    exact absurd h (Nat.not_lt_zero k)
  have hl := lv_entry ([.ref b]) (n := 8) (Nat.le_of_ble_eq_true rfl)
  rw [lg_entry_eq]
  generalize (lg_sl ([.ref b]) ++ List.replicate (8 - (lg_sl ([.ref b])).length) Slot.unset).toArray = ls at hl ⊢
  have hl : lv_has ls 8 [(0, .ref b)] := hl
  refine z_new X hM hS hbs rfl (ci := 9) rfl rfl (blnk_00 0) zk_L_8 zs_RX9 wi_RX9 (Nat.le_of_ble_eq_true rfl) (Nat.le_of_ble_eq_true rfl) zd_L_0 (fun H1 hM hS => ?_)
  refine lv_dup hx hb zd_L_3 rfl ?_
  refine z_callY X hE hA hM hS hbs rfl (zc_X9 hl0) zl_L_85 zn_RX9 wi_RX9 zc_code9 rfl (by decide +kernel) ⟨(Nat.le_of_ble_eq_true rfl), (Nat.le_of_ble_eq_true rfl)⟩ hl.1 (Nat.le_of_ble_eq_true rfl) (Nat.le_of_ble_eq_true rfl) (Nat.le_of_ble_eq_true rfl) zd_L_4 (fun v S' h => h.1) (fun S1 H1 locs h1 hMM hS => ?_)
  have h1 := h1.2
  refine lv_astore_n (lv' := [(1, .ref (s.heap.size + 0)), (0, .ref b)]) hx hb zd_L_7 rfl hl (by decide) rfl (fun ls hl => ?_)
  have hz := ini_b h1
  have hM := MZ_of hMM
  refine z_new X hM hS hbs rfl (ci := 10) rfl rfl hz zk_L_86 zs_RX10 wi_RX10 (Nat.le_of_ble_eq_true rfl) (Nat.le_of_ble_eq_true rfl) zd_L_8 (fun H1 hM hS => ?_)
  refine lv_dup hx hb zd_L_11 rfl ?_
  refine z_callY X hE hA hM hS hbs rfl (zc_X10 hl0 S1 (hz.up (by decide))) zl_L_88 zn_RX10 wi_RX10 zc_code10 rfl (by decide +kernel) ⟨(Nat.le_of_ble_eq_true rfl), (Nat.le_of_ble_eq_true rfl)⟩ hl.1 (Nat.le_of_ble_eq_true rfl) (Nat.le_of_ble_eq_true rfl) (Nat.le_of_ble_eq_true rfl) zd_L_12 (fun v S' h => h.1) (fun S2 H1 locs h2 hMM hS => ?_)
  obtain ⟨-, e1, e2, e3⟩ := h2
  refine lv_astore_n (lv' := [(2, .ref (s.heap.size + 138)), (1, .ref (s.heap.size + 0)), (0, .ref b)]) hx hb zd_L_15 rfl hl (by decide) rfl (fun ls hl => ?_)
  refine lv_iconst (v := nI 1) hx hb zd_L_16 (by decide) ?_
  have hM := MZ_of hMM
  have hz2 : blnk S2 (zW 155) 155 := fun a ha => by
    refine ⟨?_, ?_, ?_⟩
    · rw [e1, u2_other _ _ _ (by omega)]; exact (hz a (by omega)).1
    · rw [e2 a (by omega)]; exact (hz a (by omega)).2.1
    · funext i
      exact Bool.eq_false_iff.mpr (fun z => by have := Nat.le_of_ble_eq_true z; omega)
  refine z_newl X hM hS hbs rfl (k := 1) rfl hz2 rfl (by decide) zw_long (Nat.le_of_ble_eq_true rfl) (Nat.le_of_ble_eq_true rfl) zd_L_17 (fun H1 hM hS => ?_)
  have hMM := MM_of hM (by decide +kernel)
  refine lv_astore_n (lv' := [(3, .ref (s.heap.size + 155)), (2, .ref (s.heap.size + 138)), (1, .ref (s.heap.size + 0)), (0, .ref b)]) hx hb zd_L_19 rfl hl (by decide) rfl (fun ls hl => ?_)
  refine lv_iconst (v := nI 0) hx hb zd_L_20 (by decide) ?_
  refine lv_istore (lv' := [(4, .int (nI 0)), (3, .ref (s.heap.size + 155)), (2, .ref (s.heap.size + 138)), (1, .ref (s.heap.size + 0)), (0, .ref b)]) hx hb zd_L_21 hl (by decide) rfl (fun ls hl => ?_)
  have hI := ini_INV h1 e1 e2 e3
  have Y : CY p s m #[Value.ref b] c cL_law 8 RL 156 s.heap.size D cA sa adV := ⟨X, hE, hbs⟩
  have hsc : SCR (some (L, xs)) sa s.heap.size s := fun n f h => by
    cases h
    rw [hsa]
    exact ⟨hX, hbl, hbl⟩
  refine W.widen (k := 5000) (n := 30000) (Nat.le_of_ble_eq_true rfl) (Nat.le_of_ble_eq_true rfl) ?_
  refine W_mono (QQ_Z (tot := 7048) (D := D) (cA := cA) (sa := sa) (by decide) (by decide)) ?_
  have hH : ∀ K : KT, SND p l e room_1 s m #[Value.ref b] below meth c 156 s.heap.size D cA sa 8 7048 lwQ lwX RL cL_law pL_law K → HdlR p l e room_1 s m #[Value.ref b] below meth c 156 s.heap.size D cA sa 8 7048 lwQ lwX pL_law hd0 K := by
    intro K _ q _ E ce x rc S' H' locs' cells slots ls' rest h1
    exact absurd h1 id
  have key := law_loop hL (G := WW p l e room_1 s m #[Value.ref b] below meth c 156 s.heap.size D cA sa 8 7048 lwQ lwX) (fun cuts k pc rc L0 st S' hcut h9 => wpH_snd (sc := some (L, xs)) hsc X hlocks hr oL_law (fun q hq k na mc tr ha hc hi => hC_law hl0 p e s m #[Value.ref b] below meth c _ Y q hq k na mc tr ha hc hi) (fun q hq x k E hi ha hh => by simp at hh) (hL_of (by decide +kernel) s hE) (Nat.le_of_ble_eq_true rfl) (Nat.le_of_ble_eq_true rfl) hH hcut h9)
    (fun pc rc L0 L' st S' hG hsub H locs cells slots ls' h1 h2 h3 h4 h5 => hG H locs cells slots ls' h1 h2 (lv_mono h3 (fun z hz => by
      obtain ⟨a, ha, rfl⟩ := List.mem_map.mp hz
      exact List.mem_map.mpr ⟨a, hsub a ha, rfl⟩)) h4 h5) 512 0 0 2048 S2 (by omega) (by decide) (by decide) (by decide) hI
  refine key H1 _ 5000 30000 ls hMM hS ?_ (by decide) (by decide)
  have ec : cvL s.heap.size sa (lwL 0) = [(4, .int (nI 0)), (3, .ref (s.heap.size + 155)), (2, .ref (s.heap.size + 138)), (1, .ref (s.heap.size + 0)), (0, .ref (sa 1000))] := rfl
  rw [ec, hsa]
  exact hl
