/-! ===== String.length, String.charAt of the program's texts ===== -/
section STR
variable {l : Launch} {N b : Nat} {D : va_G} {cA sa adV : Nat → Nat}
theorem js_start {y : MethodName} {cc : ByteArray} {maxL fr lo : Nat} {ret : Option FieldType} {av : List Value} {S : Mem} {Qr : Option Value → Mem → Prop} (hy : plainName y.cls = true) (hsz : (lg_sl av).length ≤ maxL)
    (body : ∀ (p : Program) (e : Env) (s : State) (m : MethodId) (below : List Frame) (meth : Method) (c : Code), CY p s m av.toArray c cc maxL y.cls N b D cA sa adV → MM N b D cA S s.heap → meth.locks = false → meth.sig.returnType = ret → ∀ ls, lv_has ls maxL (lv_args 0 av) → W p l e { frames := fr, cells := 0, slots := 6 * 0, locals := lo } s m av.toArray below meth c s.heap [] 0 0 (QQ below av.toArray s N b D cA sa 0 Qr (fun _ _ => False)) (F0 m 0 ls [])) :
    vx_Met l y (.code y cc maxL ret :: wG) { frames := fr, cells := 0, slots := 6 * 0, locals := lo } (va_Pc av (PR N b D cA sa adV S)) (QcP N b D cA sa Qr) (XcP N b D cA (fun _ _ => False)) 0 (6 * 0) (AB b) := by
  refine vx_ofW (cc := cc) (maxL := maxL) (ret := ret) hy rfl ?_
  intro p e s m args below meth c s₁ B hml hnx hv
  obtain ⟨rfl, hM, hK, hN, hE, hbs⟩ := hv
  have hts0 := atoms_spec (ws := .code y cc maxL ret :: wG) B.pre
  have X : CX p s m av.toArray c cc maxL y.cls D cA := ⟨B.exec, B.bytes, hml, findClass_of_methodNamed B.named, fun w hw => hts0 w (List.mem_cons_of_mem _ hw), hK, hN⟩
  have hl := lv_entry av (n := maxL) hsz
  rw [lg_entry_eq]
  generalize (lg_sl av ++ List.replicate (maxL - (lg_sl av).length) Slot.unset).toArray = ls at hl ⊢
  exact body p e s m below meth c ⟨X, hE, hbs⟩ hM B.notSynchronized B.returns ls hl
variable {p : Program} {e : Env} {R : Room} {s : State} {m : MethodId} {args : Array Value} {below : List Frame} {meth : Method} {c : Code} {Q : State → Prop} {cc : ByteArray} {nL : Nat} {own : String}
theorem jV (Y : CY p s m args c cc nL own N b D cA sa adV) {y : MethodName} {cy : ByteArray} {maxL fr lo np idx a : Nat} {ret : Option FieldType} {As rest : List Value} {S : Mem} {Qr : Option Value → Mem → Prop} {H : Heap} {locs : List Loc} {cells slots pc : Nat} {ls : Array Slot}
    (M : vx_Met l y (.code y cy maxL ret :: wG) { frames := fr, cells := 0, slots := 6 * 0, locals := lo } (va_Pc (.ref a :: As) (PR N b D cA sa adV S)) (QcP N b D cA sa Qr) (XcP N b D cA (fun _ _ => False)) 0 (6 * 0) (AB b))
    (hlink : Cond.methodLink own idx y ∈ wG) (hin : Cond.instanceMethod y ∈ wG) (hsel : Cond.selects y.cls y y ∈ wG) (hini : Cond.initialized y.cls ∈ wG) (hcode : Cond.code y cy maxL ret ∈ wG) (hrecv : ∃ cellB : Cell, H[a]? = some cellB ∧ cellB.vm.isStatics = false ∧ s.vm.findClass y.cls = some cellB.cls)
    (hd : y.cls ≠ "java/lang/invoke/MethodHandle" ∧ y.cls ≠ "java/lang/invoke/VarHandle" ∧ (parseMethodDescriptor y.desc).map (fun d => d.parameters.length) = some np) (hnp : As.length = np) (hR : fr + 1 ≤ R.frames ∧ 8 + (maxL + 11) + lo ≤ R.locals) (hM : MM N b D cA S H) (hS : va_S (AB b) s.heap H locs) (hls : ls.size = nL) (hsum : (rest.map fun v => v.category).sum ≤ 8) (hd0 : decode cc pc = .ok (.invokevirtual idx, 3)) (hc1 : cells ≤ R.cells) (hc2 : slots ≤ R.slots)
    (kk : ∀ (v : Option Value) (S' : Mem) (H' : Heap) (locs' : List Loc), Qr v S' → MM N b D cA S' H' → va_S (AB b) s.heap H' locs' → W p l e R s m args below meth c H' locs' cells slots Q (F0 m (pc + 3) ls ((v.map (cv b sa)).toList ++ rest))) : W p l e R s m args below meth c H locs cells slots Q (F0 m pc ls (As.reverse ++ .ref a :: rest)) := by
  obtain ⟨hx, hb, hml, hown, hts, hK, hN⟩ := id Y.1
  exact run_go (rest := rest) (vx_runV (As := As) (b := a) (C := y.cls) ⟨hx, hb, hml, hown, hts⟩ M ⟨callB_of np hts (wsG_good hcode) rfl rfl rfl (hts _ hini) (hts _ hlink) hd hR, hts _ hin, hts _ hsel⟩ ⟨PR.blind, hrecv, fun U hU hW => ⟨rfl, PR_of Y hM hS hU hW⟩⟩ rfl hnp hls rfl (by show 2 * 0 + _ ≤ 8; omega) hd0 ⟨hc1, hc2⟩) hS kk (fun _ _ _ _ _ _ h => absurd h id)
theorem jS (Y : CY p s m args c cc nL own N b D cA sa adV) {y : MethodName} {cy : ByteArray} {maxL fr lo np idx : Nat} {ret : Option FieldType} {As rest : List Value} {S : Mem} {Qr : Option Value → Mem → Prop} {H : Heap} {locs : List Loc} {cells slots pc : Nat} {ls : Array Slot}
    (M : vx_Met l y (.code y cy maxL ret :: wG) { frames := fr, cells := 0, slots := 6 * 0, locals := lo } (va_Pc As (PR N b D cA sa adV S)) (QcP N b D cA sa Qr) (XcP N b D cA (fun _ _ => False)) 0 (6 * 0) (AB b))
    (hlink : Cond.methodLink own idx y ∈ wG) (hstat : Cond.static y ∈ wG) (hini : Cond.initialized y.cls ∈ wG) (hcode : Cond.code y cy maxL ret ∈ wG)
    (hd : y.cls ≠ "java/lang/invoke/MethodHandle" ∧ y.cls ≠ "java/lang/invoke/VarHandle" ∧ (parseMethodDescriptor y.desc).map (fun d => d.parameters.length) = some np) (hnp : As.length = np) (hR : fr + 1 ≤ R.frames ∧ 8 + (maxL + 11) + lo ≤ R.locals) (hM : MM N b D cA S H) (hS : va_S (AB b) s.heap H locs) (hls : ls.size = nL) (hsum : (rest.map fun v => v.category).sum ≤ 8) (hd0 : decode cc pc = .ok (.invokestatic idx, 3)) (hc1 : cells ≤ R.cells) (hc2 : slots ≤ R.slots)
    (kk : ∀ (v : Option Value) (S' : Mem) (H' : Heap) (locs' : List Loc), Qr v S' → MM N b D cA S' H' → va_S (AB b) s.heap H' locs' → W p l e R s m args below meth c H' locs' cells slots Q (F0 m (pc + 3) ls ((v.map (cv b sa)).toList ++ rest))) : W p l e R s m args below meth c H locs cells slots Q (F0 m pc ls (As.reverse ++ rest)) := by
  obtain ⟨hx, hb, hml, hown, hts, hK, hN⟩ := id Y.1
  exact run_go (rest := rest) (vx_runS (As := As) ⟨hx, hb, hml, hown, hts⟩ M ⟨callB_of np hts (wsG_good hcode) rfl rfl rfl (hts _ hini) (hts _ hlink) hd hR, hts _ hstat⟩ ⟨PR.blind, fun U hU hW => ⟨rfl, PR_of Y hM hS hU hW⟩⟩ rfl hnp hls rfl (by show 2 * 0 + _ ≤ 8; omega) hd0 ⟨hc1, hc2⟩) hS kk (fun _ _ _ _ _ _ h => absurd h id)
end STR
section STR2
variable {l : Launch} {N b : Nat} {D : va_G} {cA sa adV : Nat → Nat}
def JQ (S : Mem) (x : Int32) : Option Value → Mem → Prop := fun v S' => v = some (.int x) ∧ S' = S
set_option maxHeartbeats 1000000 in
theorem mj_coder (S : Mem) {i : Nat} (hi : i < 16) : vx_Met l yJ0_coder_7d493 (.code yJ0_coder_7d493 cJ0_coder_7d493 1 (some .byte) :: wG) { frames := 0, cells := 0, slots := 6 * 0, locals := 0 } (va_Pc [.ref (sa i)] (PR N b D cA sa adV S)) (QcP N b D cA sa (JQ S 0)) (XcP N b D cA (fun _ _ => False)) 0 (6 * 0) (AB b) := by
  refine js_start (by decide +kernel) (Nat.le_of_ble_eq_true rfl) ?_
  intro p e s m below meth c Y hM hlocks hr ls hl
  obtain ⟨⟨hx, hb, hml, hown, hts, hK, hN⟩, hE, hbs⟩ := id Y
  obtain ⟨hstr, h16, hZ, hZq, -, -, -⟩ := hE
  obtain ⟨g1, g2, g3, g4⟩ := h16 i hi
  have hS : va_S (AB b) s.heap s.heap [] := va_S.rf
  have hl : lv_has ls 1 [(0, .ref (sa i))] := hl
  refine va_gets hx hb hZ hS hown (hts _ jf_38) (fun _ h => h) dJ0_coder_7d493_0 ?_
  refine lv_if_eq (tgt := 13) hx hb dJ0_coder_7d493_3 (by decide) (fun h => absurd h (by decide)) (fun _ => ?_)
  refine lv_aload_n hx hb dJ0_coder_7d493_6 rfl (lv_at hl 0 rfl) ?_
  refine vk_getf hx hb g2 hS hown (hts _ jf_15) (fun _ h => h) dJ0_coder_7d493_7 ?_
  refine lv_goto (tgt := 14) hx hb dJ0_coder_7d493_10 (by decide) ?_
  exact ret_mono (rc := 0) rfl rfl (W.zret hx hb hr rfl (fun t ht hW => ⟨⟨some (.int 0), S, rfl, ⟨rfl, rfl⟩, by rw [ht]; exact hM⟩, hS.F ht⟩) hS.2.2 dJ0_coder_7d493_14 hlocks)
set_option maxHeartbeats 1000000 in
theorem mj_isl (S : Mem) {i : Nat} (hi : i < 16) : vx_Met l yJ0_isLatin1_aae02 (.code yJ0_isLatin1_aae02 cJ0_isLatin1_aae02 1 (some .boolean) :: wG) { frames := 0, cells := 0, slots := 6 * 0, locals := 0 } (va_Pc [.ref (sa i)] (PR N b D cA sa adV S)) (QcP N b D cA sa (JQ S 1)) (XcP N b D cA (fun _ _ => False)) 0 (6 * 0) (AB b) := by
  refine js_start (by decide +kernel) (Nat.le_of_ble_eq_true rfl) ?_
  intro p e s m below meth c Y hM hlocks hr ls hl
  obtain ⟨⟨hx, hb, hml, hown, hts, hK, hN⟩, hE, hbs⟩ := id Y
  obtain ⟨hstr, h16, hZ, hZq, -, -, -⟩ := hE
  obtain ⟨g1, g2, g3, g4⟩ := h16 i hi
  have hS : va_S (AB b) s.heap s.heap [] := va_S.rf
  have hl : lv_has ls 1 [(0, .ref (sa i))] := hl
  refine va_gets hx hb hZ hS hown (hts _ jf_38) (fun _ h => h) dJ0_isLatin1_aae02_0 ?_
  refine lv_if_eq (tgt := 17) hx hb dJ0_isLatin1_aae02_3 (by decide) (fun h => absurd h (by decide)) (fun _ => ?_)
  refine lv_aload_n hx hb dJ0_isLatin1_aae02_6 rfl (lv_at hl 0 rfl) ?_
  refine vk_getf hx hb g2 hS hown (hts _ jf_15) (fun _ h => h) dJ0_isLatin1_aae02_7 ?_
  refine lv_if_ne (tgt := 17) hx hb dJ0_isLatin1_aae02_10 (by decide) (fun h => absurd rfl h) (fun _ => ?_)
  refine lv_iconst (v := 1) hx hb dJ0_isLatin1_aae02_13 (by decide) ?_
  refine lv_goto (tgt := 18) hx hb dJ0_isLatin1_aae02_14 (by decide) ?_
  exact ret_mono (rc := 0) rfl rfl (W.zret hx hb hr rfl (fun t ht hW => ⟨⟨some (.int 1), S, rfl, ⟨rfl, rfl⟩, by rw [ht]; exact hM⟩, hS.F ht⟩) hS.2.2 dJ0_isLatin1_aae02_18 hlocks)
set_option maxHeartbeats 1000000 in
theorem mj_len (S : Mem) {i : Nat} (hi : i < 16) : vx_Met l yJ0_length_8abf5 (.code yJ0_length_8abf5 cJ0_length_8abf5 1 (some .int) :: wG) { frames := 1, cells := 0, slots := 6 * 0, locals := 40 } (va_Pc [.ref (sa i)] (PR N b D cA sa adV S)) (QcP N b D cA sa (JQ S (nI (strB i).length))) (XcP N b D cA (fun _ _ => False)) 0 (6 * 0) (AB b) := by
  refine js_start (by decide +kernel) (Nat.le_of_ble_eq_true rfl) ?_
  intro p e s m below meth c Y hM hlocks hr ls hl
  obtain ⟨⟨hx, hb, hml, hown, hts, hK, hN⟩, hE, hbs⟩ := id Y
  obtain ⟨hstr, h16, hZ, hZq, -, -, -⟩ := hE
  obtain ⟨g1, g2, g3, g4⟩ := h16 i hi
  have hS : va_S (AB b) s.heap s.heap [] := va_S.rf
  have hl : lv_has ls 1 [(0, .ref (sa i))] := hl
  refine lv_aload_n hx hb dJ0_length_8abf5_0 rfl (lv_at hl 0 rfl) ?_
  refine vk_getf hx hb g3 hS hown (hts _ jf_9) (fun _ h => h) dJ0_length_8abf5_1 ?_
  refine va_tlen hx hb g4 hS rfl dJ0_length_8abf5_4 ?_
  refine lv_aload_n hx hb dJ0_length_8abf5_5 rfl (lv_at hl 0 rfl) ?_
  obtain ⟨cell, q1, q2, q3, -⟩ := g1
  refine jV (np := 0) (As := []) (rest := [.int (Int32.ofNat (strB i).length)]) Y (mj_coder S hi) jl_335 jn_coder js_coder ji_RJ0 jc_coder ⟨cell, q1, q2, q3⟩ (by decide +kernel) rfl ⟨by decide, by decide⟩ hM hS hl.1 (Nat.le_of_ble_eq_true rfl) dJ0_length_8abf5_6 (Nat.zero_le _) (Nat.zero_le _) (fun v S' H' locs' h1 hM' hS' => ?_)
  obtain ⟨rfl, rfl⟩ := h1
  refine lv_ishr hx hb dJ0_length_8abf5_9 ?_
  exact ret_mono (rc := 0) rfl rfl (W.iret hx hb hr (fun t ht hW => ⟨⟨some (.int (nI (strB i).length)), S', by rw [sb_shr0]; rfl, ⟨rfl, rfl⟩, by rw [ht]; exact hM'⟩, hS'.F ht⟩) hS'.2.2 dJ0_length_8abf5_10 hlocks)
set_option maxHeartbeats 1000000 in
theorem mj_ci3 (S : Mem) {x : Int32} {n : Nat} (hin : vp_in x n) (hn : n < 1000) (w : Value) (hw : w.category = 1) : vx_Met l yJ3_checkIndex_8e157 (.code yJ3_checkIndex_8e157 cJ3_checkIndex_8e157 3 (some .int) :: wG) { frames := 0, cells := 0, slots := 6 * 0, locals := 0 } (va_Pc [.int x, .int (nI n), w] (PR N b D cA sa adV S)) (QcP N b D cA sa (JQ S x)) (XcP N b D cA (fun _ _ => False)) 0 (6 * 0) (AB b) := by
  refine js_start (by decide +kernel) (by cases w <;> first | exact Nat.le_of_ble_eq_true rfl | cases hw) ?_
  intro p e s m below meth c Y hM hlocks hr ls hl
  obtain ⟨⟨hx, hb, hml, hown, hts, hK, hN⟩, hE, hbs⟩ := id Y
  have hS : va_S (AB b) s.heap s.heap [] := va_S.rf
  have hl : lv_has ls 3 [(0, .int x), (1, .int (nI n)), (2, w)] := hl
  obtain ⟨j, hj, rfl⟩ := vp_in_of hin (by omega)
  refine lv_iload_n hx hb dJ3_checkIndex_8e157_0 rfl (lv_at hl 0 rfl) ?_
  refine lv_if_lt (tgt := 9) hx hb dJ3_checkIndex_8e157_1 (by decide) (fun h => absurd h (nI_pos (by omega))) (fun _ => ?_)
  refine lv_iload_n hx hb dJ3_checkIndex_8e157_4 rfl (lv_at hl 0 rfl) ?_
  refine lv_iload_n hx hb dJ3_checkIndex_8e157_5 rfl (lv_at hl 1 rfl) ?_
  refine lv_icmp_lt (tgt := 16) hx hb dJ3_checkIndex_8e157_6 (by decide) (fun _ => ?_) (fun h => absurd (nI_lt hj (by omega)) h)
  refine lv_iload_n hx hb dJ3_checkIndex_8e157_16 rfl (lv_at hl 0 rfl) ?_
  exact ret_mono (rc := 0) rfl rfl (W.iret hx hb hr (fun t ht hW => ⟨⟨some (.int (nI j)), S, rfl, ⟨rfl, rfl⟩, by rw [ht]; exact hM⟩, hS.F ht⟩) hS.2.2 dJ3_checkIndex_8e157_17 hlocks)
set_option maxHeartbeats 1000000 in
theorem mj_ci0 (S : Mem) {x : Int32} {n : Nat} (hin : vp_in x n) (hn : n < 1000) : vx_Met l yJ0_checkIndex_df160 (.code yJ0_checkIndex_df160 cJ0_checkIndex_df160 2 none :: wG) { frames := 1, cells := 0, slots := 6 * 0, locals := 40 } (va_Pc [.int x, .int (nI n)] (PR N b D cA sa adV S)) (QcP N b D cA sa (fun v S' => v = none ∧ S' = S)) (XcP N b D cA (fun _ _ => False)) 0 (6 * 0) (AB b) := by
  refine js_start (by decide +kernel) (Nat.le_of_ble_eq_true rfl) ?_
  intro p e s m below meth c Y hM hlocks hr ls hl
  obtain ⟨⟨hx, hb, hml, hown, hts, hK, hN⟩, hE, hbs⟩ := id Y
  obtain ⟨hstr, h16, hZ, hZq, -, -, -⟩ := hE
  have hS : va_S (AB b) s.heap s.heap [] := va_S.rf
  have hl : lv_has ls 2 [(0, .int x), (1, .int (nI n))] := hl
  refine lv_iload_n hx hb dJ0_checkIndex_df160_0 rfl (lv_at hl 0 rfl) ?_
  refine lv_iload_n hx hb dJ0_checkIndex_df160_1 rfl (lv_at hl 1 rfl) ?_
  have fin : ∀ w : Value, w.category = 1 → W p l e { frames := 1, cells := 0, slots := 6 * 0, locals := 40 } s m [Value.int x, Value.int (nI n)].toArray below meth c s.heap [] 0 0 (QQ below [Value.int x, Value.int (nI n)].toArray s N b D cA sa 0 (fun v S' => v = none ∧ S' = S) (fun _ _ => False)) (F0 m 5 ls [w, .int (nI n), .int x]) := by
    intro w hw
    refine jS (np := 3) (As := [.int x, .int (nI n), w]) (rest := []) Y (mj_ci3 S hin hn w hw) jl_1059 jt_ci3 ji_RJ3 jc_ci3 (by decide +kernel) rfl ⟨by decide, by decide⟩ hM hS hl.1 (Nat.le_of_ble_eq_true rfl) dJ0_checkIndex_df160_5 (Nat.zero_le _) (Nat.zero_le _) (fun v S' H' locs' h1 hM' hS' => ?_)
    obtain ⟨rfl, rfl⟩ := h1
    refine lv_pop hx hb dJ0_checkIndex_df160_8 rfl ?_
    exact ret_mono (rc := 0) rfl rfl (W.vret hx hb hr (fun t ht hW => ⟨⟨none, S', rfl, ⟨rfl, rfl⟩, by rw [ht]; exact hM'⟩, hS'.F ht⟩) hS'.2.2 dJ0_checkIndex_df160_9 hlocks)
  rcases hZq with hz | ⟨t, hz⟩
  · exact va_gets hx hb hz hS hown (hts _ jf_1053) (fun _ h => h) dJ0_checkIndex_df160_2 (fin _ rfl)
  · exact va_gets hx hb hz hS hown (hts _ jf_1053) (fun _ h => h) dJ0_checkIndex_df160_2 (fin _ rfl)
theorem strB_ok : ∀ i, i < 16 → (strB i).length < 1000 ∧ ∀ v ∈ strB i, v &&& 255 = v ∧ (v.toUInt32 % 65536).toInt32 = v ∧ narrow .char (.int v) = .int v := by decide +kernel
set_option maxHeartbeats 1000000 in
theorem mj_ch1 (S : Mem) {i : Nat} (hi : i < 16) {x : Int32} (hin : vp_in x (strB i).length) : vx_Met l yJ1_charAt_3b067 (.code yJ1_charAt_3b067 cJ1_charAt_3b067 2 (some .char) :: wG) { frames := 2, cells := 0, slots := 6 * 0, locals := 80 } (va_Pc [.ref (adV i), .int x] (PR N b D cA sa adV S)) (QcP N b D cA sa (JQ S ((strB i).getD x.toNatClampNeg 0))) (XcP N b D cA (fun _ _ => False)) 0 (6 * 0) (AB b) := by
  refine js_start (by decide +kernel) (Nat.le_of_ble_eq_true rfl) ?_
  intro p e s m below meth c Y hM hlocks hr ls hl
  obtain ⟨⟨hx, hb, hml, hown, hts, hK, hN⟩, hE, hbs⟩ := id Y
  obtain ⟨hstr, h16, hZ, hZq, -, -, -⟩ := hE
  obtain ⟨g1, g2, g3, g4⟩ := h16 i hi
  have hS : va_S (AB b) s.heap s.heap [] := va_S.rf
  have hl : lv_has ls 2 [(0, .ref (adV i)), (1, .int x)] := hl
  obtain ⟨hlen, hall⟩ := strB_ok i hi
  have hlt : x.toNatClampNeg < (strB i).length := Nat.not_le.mp fun q => hin (Or.inr q)
  obtain ⟨e1, e2, e3⟩ := hall ((strB i).getD x.toNatClampNeg 0) (by rw [List.getD_eq_getElem?_getD, List.getElem?_eq_getElem hlt]; exact List.getElem_mem hlt)
  refine lv_iload_n hx hb dJ1_charAt_3b067_0 rfl (lv_at hl 1 rfl) ?_
  refine lv_aload_n hx hb dJ1_charAt_3b067_1 rfl (lv_at hl 0 rfl) ?_
  refine va_tlen hx hb g4 hS rfl dJ1_charAt_3b067_2 ?_
  refine jS (np := 2) (As := [.int x, .int (nI (strB i).length)]) (rest := []) Y (mj_ci0 S hin hlen) jl_9 jt_ci0 ji_RJ0 jc_ci0 (by decide +kernel) rfl ⟨by decide, by decide⟩ hM hS hl.1 (Nat.le_of_ble_eq_true rfl) dJ1_charAt_3b067_3 (Nat.zero_le _) (Nat.zero_le _) (fun v S' H' locs' h1 hM' hS' => ?_)
  obtain ⟨rfl, rfl⟩ := h1
  refine lv_aload_n hx hb dJ1_charAt_3b067_6 rfl (lv_at hl 0 rfl) ?_
  refine lv_iload_n hx hb dJ1_charAt_3b067_7 rfl (lv_at hl 1 rfl) ?_
  refine va_tb hx hb g4 hS' hin rfl dJ1_charAt_3b067_8 ?_
  refine lv_sipush (v := 255) hx hb dJ1_charAt_3b067_9 (by decide) ?_
  refine lv_iand hx hb dJ1_charAt_3b067_12 ?_
  rw [e1]
  refine lv_i2c hx hb dJ1_charAt_3b067_13 e2 ?_
  exact ret_mono (rc := 0) rfl rfl (W.zret hx hb hr e3 (fun t ht hW => ⟨⟨some (.int ((strB i).getD x.toNatClampNeg 0)), S', rfl, ⟨rfl, rfl⟩, by rw [ht]; exact hM'⟩, hS'.F ht⟩) hS'.2.2 dJ1_charAt_3b067_14 hlocks)
set_option maxHeartbeats 1000000 in
theorem mj_chr (S : Mem) {i : Nat} (hi : i < 16) {x : Int32} (hin : vp_in x (strB i).length) : vx_Met l yJ0_charAt_5068e (.code yJ0_charAt_5068e cJ0_charAt_5068e 2 (some .char) :: wG) { frames := 3, cells := 0, slots := 6 * 0, locals := 120 } (va_Pc [.ref (sa i), .int x] (PR N b D cA sa adV S)) (QcP N b D cA sa (JQ S ((strB i).getD x.toNatClampNeg 0))) (XcP N b D cA (fun _ _ => False)) 0 (6 * 0) (AB b) := by
  refine js_start (by decide +kernel) (Nat.le_of_ble_eq_true rfl) ?_
  intro p e s m below meth c Y hM hlocks hr ls hl
  obtain ⟨⟨hx, hb, hml, hown, hts, hK, hN⟩, hE, hbs⟩ := id Y
  obtain ⟨hstr, h16, hZ, hZq, -, -, -⟩ := hE
  obtain ⟨g1, g2, g3, g4⟩ := h16 i hi
  have hS : va_S (AB b) s.heap s.heap [] := va_S.rf
  have hl : lv_has ls 2 [(0, .ref (sa i)), (1, .int x)] := hl
  obtain ⟨hlen, hall⟩ := strB_ok i hi
  have hlt : x.toNatClampNeg < (strB i).length := Nat.not_le.mp fun q => hin (Or.inr q)
  obtain ⟨e1, e2, e3⟩ := hall ((strB i).getD x.toNatClampNeg 0) (by rw [List.getD_eq_getElem?_getD, List.getElem?_eq_getElem hlt]; exact List.getElem_mem hlt)
  refine lv_aload_n hx hb dJ0_charAt_5068e_0 rfl (lv_at hl 0 rfl) ?_
  obtain ⟨cell, q1, q2, q3, -⟩ := id g1
  refine jV (np := 0) (As := []) (rest := []) Y (mj_isl S hi) jl_492 jn_isl js_isl ji_RJ0 jc_isl ⟨cell, q1, q2, q3⟩ (by decide +kernel) rfl ⟨by decide, by decide⟩ hM hS hl.1 (Nat.le_of_ble_eq_true rfl) dJ0_charAt_5068e_1 (Nat.zero_le _) (Nat.zero_le _) (fun v S' H' locs' h1 hM' hS' => ?_)
  obtain ⟨rfl, rfl⟩ := h1
  refine lv_if_eq (tgt := 16) hx hb dJ0_charAt_5068e_4 (by decide) (fun h => absurd h (by decide)) (fun _ => ?_)
  refine lv_aload_n hx hb dJ0_charAt_5068e_7 rfl (lv_at hl 0 rfl) ?_
  refine vk_getf hx hb g3 hS' hown (hts _ jf_9) (fun _ h => h) dJ0_charAt_5068e_8 ?_
  refine lv_iload_n hx hb dJ0_charAt_5068e_11 rfl (lv_at hl 1 rfl) ?_
  refine jS (np := 2) (As := [.ref (adV i), .int x]) (rest := []) Y (mj_ch1 S' hi hin) jl_495 jt_ch1 ji_RJ1 jc_ch1 (by decide +kernel) rfl ⟨by decide, by decide⟩ hM' hS' hl.1 (Nat.le_of_ble_eq_true rfl) dJ0_charAt_5068e_12 (Nat.zero_le _) (Nat.zero_le _) (fun v S9 H9 locs9 h1 hM9 hS9 => ?_)
  obtain ⟨rfl, rfl⟩ := h1
  exact ret_mono (rc := 0) rfl rfl (W.zret hx hb hr e3 (fun t ht hW => ⟨⟨some (.int ((strB i).getD x.toNatClampNeg 0)), S9, rfl, ⟨rfl, rfl⟩, by rw [ht]; exact hM9⟩, hS9.F ht⟩) hS9.2.2 dJ0_charAt_5068e_15 hlocks)
variable {p : Program} {e : Env} {R : Room} {s : State} {m : MethodId} {args : Array Value} {below : List Frame} {meth : Method} {c : Code} {Q : State → Prop} {cc : ByteArray} {nL : Nat} {own : String}
set_option maxHeartbeats 1000000 in
theorem callLen_of (Y : CY p s m args c cc nL own N b D cA sa adV) {idx : Nat} (hlink : Cond.methodLink own idx yJ0_length_8abf5 ∈ wG) (hR : 1 + 1 ≤ R.frames ∧ 8 + (1 + 11) + 40 ≤ R.locals) : CallR p l e R s m args below meth c N b D cA sa nL cc Q (.invokevirtual idx) 1 0 spLen := by
  intro H locs cells slots pc ls as rest S Qr Qx hlen h hM hS hls hsum hd0 hc1 hc2 kk kx
  unfold spLen at h
  split at h
  · rename_i k
    obtain ⟨i, rfl, hi, h⟩ := h
    rw [List.map_append, List.map_reverse, List.map_cons, cv_str]
    obtain ⟨cell, q1, q2, q3, -⟩ := (Y.2.1.2.1 i hi).1.kept hS.2.1
    exact jV (np := 0) (As := []) (rest := rest.map (cv b sa)) Y (mj_len S hi) hlink (wG_at 746 (by decide +kernel) rfl) (wG_at 747 (by decide +kernel) rfl) ji_RJ0 jc_len ⟨cell, q1, q2, q3⟩ (by decide +kernel) rfl hR hM hS hls (by rw [sumC_cv]; exact hsum) hd0 hc1 hc2 (fun v S' H' locs' h1 hM' hS' => by
      obtain ⟨rfl, rfl⟩ := h1
      rw [opt_map]
      exact kk _ _ H' locs' h hM' hS')
  · cases h
set_option maxHeartbeats 1000000 in
theorem callChar_of (Y : CY p s m args c cc nL own N b D cA sa adV) {idx : Nat} (hlink : Cond.methodLink own idx yJ0_charAt_5068e ∈ wG) (hR : 3 + 1 ≤ R.frames ∧ 8 + (2 + 11) + 120 ≤ R.locals) : CallR p l e R s m args below meth c N b D cA sa nL cc Q (.invokevirtual idx) 2 0 spChar := by
  intro H locs cells slots pc ls as rest S Qr Qx hlen h hM hS hls hsum hd0 hc1 hc2 kk kx
  unfold spChar at h
  split at h
  · rename_i k x
    obtain ⟨i, rfl, hi, hin, h⟩ := h
    rw [List.map_append, List.map_reverse, List.map_cons, cv_str]
    obtain ⟨cell, q1, q2, q3, -⟩ := (Y.2.1.2.1 i hi).1.kept hS.2.1
    exact jV (np := 1) (As := [.int x]) (rest := rest.map (cv b sa)) Y (mj_chr S hi hin) hlink (wG_at 756 (by decide +kernel) rfl) (wG_at 757 (by decide +kernel) rfl) ji_RJ0 jc_chr ⟨cell, q1, q2, q3⟩ (by decide +kernel) rfl hR hM hS hls (by rw [sumC_cv]; exact hsum) hd0 hc1 hc2 (fun v S' H' locs' h1 hM' hS' => by
      obtain ⟨rfl, rfl⟩ := h1
      rw [opt_map]
      exact kk _ _ H' locs' h hM' hS')
  · cases h
end STR2
