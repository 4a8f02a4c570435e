/-! ===== what the Statement gives of the start ===== -/
def tmS (i : Nat) : Term := match strT[i]? with
  | some (o, k, _) => .string o k
  | none => .arg 0
set_option maxRecDepth 100000 in
theorem fl_ex : ∀ i, i < 22 → Cond.exactly (tmS i) "java/lang/String" ∈ (flatC (Jvm.Cond.and given_1 narrow_1)) := by decide +kernel
set_option maxRecDepth 100000 in
theorem fl_co : ∀ i, i < 16 → Cond.eq (.field (tmS i) "java/lang/String" "coder" "B") (.int 0) ∈ (flatC (Jvm.Cond.and given_1 narrow_1)) := by decide +kernel
set_option maxRecDepth 100000 in
theorem fl_ar : ∀ i, i < 16 → Cond.arrayOf (.field (tmS i) "java/lang/String" "value" "[B") .byte ∈ (flatC (Jvm.Cond.and given_1 narrow_1)) := by decide +kernel
set_option maxRecDepth 100000 in
theorem fl_le : ∀ i, i < 16 → Cond.eq (.length (.field (tmS i) "java/lang/String" "value" "[B")) (.int (Int32.ofNat (strB i).length)) ∈ (flatC (Jvm.Cond.and given_1 narrow_1)) := by decide +kernel
set_option maxRecDepth 100000 in
theorem fl_el : ∀ i, i < 16 → ∀ j, j < (strB i).length → Cond.eq (.elem (.field (tmS i) "java/lang/String" "value" "[B") (.int (Int32.ofNat j))) (.int ((strB i).getD j 0)) ∈ (flatC (Jvm.Cond.and given_1 narrow_1)) := by decide +kernel
set_option maxRecDepth 100000 in
theorem fl_nc : ∀ q ∈ ncT, Cond.not (.castable q.1 q.2) ∈ (flatC (Jvm.Cond.and given_1 narrow_1)) := by decide +kernel
set_option maxRecDepth 100000 in
theorem fl_cs : Cond.eq (.static "java/lang/String" "COMPACT_STRINGS" "Z") (.int 1) ∈ (flatC (Jvm.Cond.and given_1 narrow_1)) := by decide +kernel
set_option maxRecDepth 100000 in
theorem fl_sf : Cond.isRef (.static "jdk/internal/util/Preconditions" "SIOOBE_FORMATTER" "Ljava/util/function/BiFunction;") ∈ (flatC (Jvm.Cond.and given_1 narrow_1)) := by decide +kernel
set_option maxRecDepth 100000 in
theorem fl_us : Cond.isRef (.static Bundle.tN "UNASSIGNED_STACK" Bundle.steD) ∈ (flatC (Jvm.Cond.and given_1 narrow_1)) := by decide +kernel
set_option maxRecDepth 100000 in
theorem fl_ss : Cond.isRef (.static Bundle.tN "SUPPRESSED_SENTINEL" Bundle.listD) ∈ (flatC (Jvm.Cond.and given_1 narrow_1)) := by decide +kernel
set_option maxRecDepth 100000 in
theorem tb_sr : ∀ q ∈ strT, Cond.stringRef q.1 q.2.1 q.2.2 ∈ tables_1 := by decide +kernel
theorem tb_at (i : Nat) {w : Cond} (h : tables_1[i]? = some w) : w ∈ lw_tbl := List.mem_append_right _ (List.mem_of_getElem? h)
theorem sb_l : ∀ i, i < 16 → (strB i).length < 2 ^ 31 := by decide
theorem EV_start {s : State} {b0 : Nat} (hts : ∀ w ∈ lw_tbl, w.before #[Value.ref b0] s = true) (hgv : (Jvm.Cond.and given_1 narrow_1).before #[Value.ref b0] s = true) : ∃ sa adV : Nat → Nat, sa 1000 = b0 ∧ EV s.heap.size sa adV s s.heap := by
  have hs := flat_of_before _ hgv
  have hA : ∀ a : Nat, a < s.heap.size → ¬ AB s.heap.size a := fun a h1 h2 => absurd h2 (Nat.not_le.mpr h1)
  have h0 : ∀ i : Nat, ∃ q : Nat × Nat, i < 22 → (tmS i).eval #[Value.ref b0] s none [] s = some (.ref q.1) ∧ (i < 16 → va_O "java/lang/String" q.1 (AB s.heap.size) s s.heap ∧ va_OF "java/lang/String" "coder" "B" (.int 0) q.1 (AB s.heap.size) s s.heap ∧ va_OF "java/lang/String" "value" "[B" (.ref q.2) q.1 (AB s.heap.size) s s.heap ∧ va_T .byte q.2 (strB i).length (fun j => .int ((strB i).getD j 0)) (AB s.heap.size) s s.heap) := by
    intro i
    by_cases hi : i < 22
    · obtain ⟨a, c, cA, kA, q1, q2, q3, q4, q5, q6, -⟩ := Cond.exactly_spec (args := #[Value.ref b0]) (first := s) (o := none) (s := s) (idx := []) (t := tmS i) (cls := "java/lang/String") (hs _ (fl_ex i hi))
      by_cases h16 : i < 16
      · obtain ⟨t, ht, hT⟩ := va_Tof (f := fun j => .int ((strB i).getD j 0)) (A := AB s.heap.size) (sb_l i h16) (hs _ (fl_ar i h16)) (va_eqt (hs _ (fl_le i h16))) (fun j hj => va_eqt (hs _ (fl_el i h16 j hj))) hA
        exact ⟨(a, t), fun _ => ⟨q1, fun _ => ⟨⟨cA, q3, q5, by rw [q6]; exact q2, hA a (Array.getElem?_eq_some_iff.mp q3).1⟩, vk_OFof q1 (va_eqt (hs _ (fl_co i h16))) hA, vk_OFof q1 ht hA, hT⟩⟩⟩
      · exact ⟨(a, 0), fun _ => ⟨q1, fun h => absurd h h16⟩⟩
    · exact ⟨(0, 0), fun h => absurd h hi⟩
  obtain ⟨ad, had⟩ := Classical.axiomOfChoice h0
  refine ⟨fun i => if i = 1000 then b0 else (ad i).1, fun i => (ad i).2, if_pos rfl, fun i q hi => ?_, fun i hi => ?_, ?_, ?_, ?_, ?_, fun q hq => va_Nc.of (hs _ (fl_nc q hq))⟩
  · have h22 : i < 22 := (List.getElem?_eq_some_iff.mp hi).1
    show vk_R q.1 q.2.1 q.2.2 (if i = 1000 then b0 else (ad i).1) s
    rw [if_neg (by omega)]
    have e := (had i h22).1
    have et : tmS i = .string q.1 q.2.1 := by unfold tmS; rw [hi]
    rw [et] at e
    exact vk_R.of (hts _ (List.mem_append_right _ (tb_sr q (List.mem_of_getElem? hi)))) e
  · have e := (had i (by omega)).2 hi
    show va_O "java/lang/String" (if i = 1000 then b0 else (ad i).1) (AB s.heap.size) s s.heap ∧ va_OF "java/lang/String" "coder" "B" (.int 0) (if i = 1000 then b0 else (ad i).1) (AB s.heap.size) s s.heap ∧ va_OF "java/lang/String" "value" "[B" (.ref (ad i).2) (if i = 1000 then b0 else (ad i).1) (AB s.heap.size) s s.heap ∧ va_T .byte (ad i).2 (strB i).length (fun j => .int ((strB i).getD j 0)) (AB s.heap.size) s s.heap
    rw [if_neg (by omega)]
    exact e
  · exact va_Zof (hts _ (tb_at 754 (by decide +kernel))) (hts _ (tb_at 17 (by decide +kernel))) (va_eqt (hs _ fl_cs)) hA
  · exact va_Zqof (hts _ (tb_at 770 (by decide +kernel))) (hts _ (tb_at 19 (by decide +kernel))) (hs _ fl_sf) hA
  · exact vx_Zqof (hts _ (tb_at 639 (by decide +kernel))) (hts _ (tb_at 12 (by decide +kernel))) (hs _ fl_us) hA
  · exact vx_Zqof (hts _ (tb_at 641 (by decide +kernel))) (hts _ (tb_at 12 (by decide +kernel))) (hs _ fl_ss) hA
theorem tb_in : ∀ (ci : Nat) (q : vw_C), vwCl[ci]? = some q → Cond.instantiable q.1 q.2.2 ∈ lw_tbl := by
  intro ci q h
  match ci, h with
  | 0, h => cases h; exact (List.mem_filter.mp zs_RX0).1
  | 1, h => cases h; exact (List.mem_filter.mp zs_RX1).1
  | 2, h => cases h; exact (List.mem_filter.mp zs_RX2).1
  | 3, h => cases h; exact (List.mem_filter.mp zs_RX3).1
  | 4, h => cases h; exact (List.mem_filter.mp zs_RX4).1
  | 5, h => cases h; exact (List.mem_filter.mp zs_RX5).1
  | 6, h => cases h; exact (List.mem_filter.mp zs_RX6).1
  | 7, h => cases h; exact (List.mem_filter.mp zs_RX7).1
  | 8, h => cases h; exact (List.mem_filter.mp zs_RX8).1
  | 9, h => cases h; exact (List.mem_filter.mp zs_RX9).1
  | 10, h => cases h; exact (List.mem_filter.mp zs_RX10).1
  | n + 11, h => simp [vwCl] at h
theorem arr_p {s : State} {args : Array Value} {ty : FieldType} (h : (Cond.arrayClass ty).before args s = true) : ∃ c : ClassId, ArrOfT s c ty ∧ s.vm.findClass ("[" ++ ty.toString) = some c := by
  obtain ⟨c, k, comp, h1, h2, h3⟩ := Cond.arrayClass_spec h
  exact ⟨c, fun n z => ⟨fun k h => (by cases h), k, h2, comp, h3⟩, h1⟩
theorem arr_o {s : State} {C : String} (h : va_AO C s) : ∃ c : ClassId, ArrOfT s c (.object C) ∧ va_RA s c (.object C) := by
  obtain ⟨comp, c, k, h1, h2, h3, h4, h5⟩ := Cond.arrayOver_spec h
  exact ⟨c, fun n z => ⟨fun k h => (by cases h), k, h3, comp, h4⟩, k, comp, h3, h4, h1, h5⟩
theorem arr_a {s : State} {ty : FieldType} (h : va_AOA ty s) : ∃ c : ClassId, ArrOfT s c (.array ty) ∧ s.vm.findClass ("[" ++ (FieldType.array ty).toString) = some c := by
  obtain ⟨comp, c, k, h1, h2, h3, h4, h5⟩ := arrayOverA_spec h
  exact ⟨c, fun n z => ⟨fun k h => (by cases h), k, h3, comp, h4⟩, h5⟩
theorem AO_start {s : State} {args : Array Value} (hts : ∀ w ∈ lw_tbl, w.before args s = true) : AOs s := ⟨va_AO.of (hts _ (tb_at 38 (by decide +kernel))), va_AO.of (hts _ (tb_at 40 (by decide +kernel))), va_AO.of (hts _ (tb_at 348 (by decide +kernel))), va_AOA.of (hts _ (tb_at 1243 (by decide +kernel)))⟩
theorem K_start {s : State} {args : Array Value} (hts : ∀ w ∈ lw_tbl, w.before args s = true) : ∃ (D : va_G) (cA : Nat → Nat), va_K D vwCl (tysW cA) s := by
  have h : ∀ c : Nat, ∃ z : ClassId × (Nat → Nat), ∀ q, vwCl[c]? = some q → u_Kn s q.1 q.2.1 q.2.2 z.1 z.2 := fun c => by
    cases hc : vwCl[c]? with
    | none => exact ⟨(0, fun _ => 0), fun q h => by cases h⟩
    | some q =>
      obtain ⟨cC, iS, hK⟩ := u_known (n := q.2.2) hts (wl_words c q hc) (hts _ (tb_in c q hc))
      exact ⟨(cC, iS), fun q' h => by cases h; exact hK⟩
  obtain ⟨f, hf⟩ := Classical.axiomOfChoice h
  have ao := AO_start hts
  obtain ⟨c1, a1, b1⟩ := arr_p (ty := .long) (hts _ (List.mem_filter.mp zw_long).1)
  obtain ⟨c2, a2, b2⟩ := arr_p (ty := .int) (hts _ (List.mem_filter.mp zw_int).1)
  obtain ⟨c3, a3, b3⟩ := arr_p (ty := .byte) (hts _ (List.mem_filter.mp zw_byte).1)
  obtain ⟨c4, a4, b4⟩ := arr_o ao.1
  obtain ⟨c5, a5, b5⟩ := arr_o ao.2.1
  obtain ⟨c6, a6, b6⟩ := arr_o ao.2.2.1
  obtain ⟨c7, a7, b7⟩ := arr_a ao.2.2.2
  refine ⟨(fun c => (f c).1, fun c => (f c).2), fun i => match i with | 1 => c1 | 2 => c2 | 3 => c3 | 4 => c4 | 5 => c5 | 6 => c6 | _ => c7, fun c q hq => hf c q hq, fun k q hk => ?_⟩
  match k, hk with
  | 0, hk => cases hk; exact ⟨a1, b1⟩
  | 1, hk => cases hk; exact ⟨a2, b2⟩
  | 2, hk => cases hk; exact ⟨a3, b3⟩
  | 3, hk => cases hk; exact ⟨a4, b4⟩
  | 4, hk => cases hk; exact ⟨a5, b5⟩
  | 5, hk => cases hk; exact ⟨a6, b6⟩
  | 6, hk => cases hk; exact ⟨a7, b7⟩
  | n + 7, hk => simp [tysW] at hk
theorem NW_start {s : State} {args : Array Value} (hts : ∀ w ∈ lw_tbl, w.before args s = true) : NW s := by
  intro w hw
  obtain ⟨h1, h2⟩ := List.mem_filter.mp hw
  have h := hts w (List.mem_append_right _ h1)
  cases w <;> first | exact va_Nw.of rfl h | (simp [isNG] at h2)
