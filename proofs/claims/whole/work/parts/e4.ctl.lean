/-! ===== constructors with loops ===== -/
def zX1 (Z : ZM) : ZM := (u2 (zX6 (u2 (zX6 (u2 (zX6 (u2 (zX6 (u2 (zX0 (u2 (zX0 (u2 (zX0 (u2 (zX0 (u2 (zX0 (u2 (u2 Z 1 0 true) 1 1 true) 4) 2 0 true) 21) 2 1 true) 38) 2 2 true) 55) 2 3 true) 72) 2 4 true) 89) 3 0 true) 92) 3 1 true) 95) 3 2 true) 98) 3 3 true)
theorem zo_X1 {Z : ZM} {a : Nat} (h : a < 1 ∨ 101 ≤ a) : zX1 Z a = Z a := by
  unfold zX1
  rw [u2_other _ _ _ (by omega), zo_X6 (by omega), u2_other _ _ _ (by omega), zo_X6 (by omega), u2_other _ _ _ (by omega), zo_X6 (by omega), u2_other _ _ _ (by omega), zo_X6 (by omega), u2_other _ _ _ (by omega), zo_X0 (by omega), u2_other _ _ _ (by omega), zo_X0 (by omega), u2_other _ _ _ (by omega), zo_X0 (by omega), u2_other _ _ _ (by omega), zo_X0 (by omega), u2_other _ _ _ (by omega), zo_X0 (by omega), u2_other _ _ _ (by omega), u2_other _ _ _ (by omega)]
theorem zb_X1 {S : Mem} {Z : ZM} (h : blnk S Z 2) : blnk S (zX1 Z) 101 := (h.up (by omega)).of (fun a ha => zo_X1 (by omega))
set_option maxRecDepth 20000 in
set_option maxHeartbeats 4000000 in
theorem zc_X1 {l : Launch} {b : Nat} {D : va_G} {cA sa adV : Nat → Nat} (S : Mem) (Z : ZM) (hz : blnk S Z 2) : CnZ l b D cA sa adV yX1_init cX1_init 2 4 72 99 804 1 2 S Z 101 S (zX1 Z) := by
  refine CnZ_of (by decide +kernel) rfl (by decide) (fun p e s m below meth c ls K hl => ?_)
  obtain ⟨X, hin, hr, hE, hA, hM, hsz, hlk⟩ := K
  obtain ⟨hx, hb, hml, hown, hts, hK, hN⟩ := id X
  have hbs : b ≤ s.heap.size := by omega
  have hS : va_S (AB b) s.heap s.heap [] := va_S.rf
  refine lv_aload_n hx hb zd_X1_0 rfl (lv_at hl 0 rfl) ?_
  refine W.objInit hx hb hown (hts _ zo_RX1_3) (hts _ zw_oi) (hts _ zw_oc) rfl (by rw [hml]; exact hl.1) rfl zd_X1_1 (Nat.le_of_ble_eq_true rfl) (Nat.le_of_ble_eq_true rfl) ?_
  refine W.eq (g2 := F0 m 4 ls []) rfl ?_
  refine lv_aload_n hx hb zd_X1_4 rfl (lv_at hl 0 rfl) ?_
  refine lv_iconst (v := nI 5) hx hb zd_X1_5 (by decide) ?_
  refine z_newq X hM hS hbs (by omega) (k := 5) (t := 0) rfl hz rfl (by decide) rfl zk_RX1_9 hA.1 (Nat.le_of_ble_eq_true rfl) (Nat.le_of_ble_eq_true rfl) zd_X1_6 (fun H1 hM hS => ?_)
  have hz := hz.up (Nat.le_succ _)
  refine z_putR X hin hM hS (k := 1) (ci := 1) (j := 0) (off := 1) (by decide) rfl rfl rfl (by decide) rfl zf_RX1_11 rfl rfl (tyX1_ok 0 (by decide)) (fun _ => ⟨rfl, rfl⟩) zd_X1_9 (fun H1 locs hM hS => ?_)
  have hz := hz.put (show 1 < 3 by decide) 0 true
  refine lv_aload_n hx hb zd_X1_12 rfl (lv_at hl 0 rfl) ?_
  refine lv_iconst (v := nI 4) hx hb zd_X1_13 (by decide) ?_
  refine z_newq X hM hS hbs (by omega) (k := 4) (t := 1) rfl hz rfl (by decide) rfl zk_RX1_17 hA.2.1 (Nat.le_of_ble_eq_true rfl) (Nat.le_of_ble_eq_true rfl) zd_X1_14 (fun H1 hM hS => ?_)
  have hz := hz.up (Nat.le_succ _)
  refine z_putR X hin hM hS (k := 1) (ci := 1) (j := 1) (off := 2) (by decide) rfl rfl rfl (by decide) rfl zf_RX1_19 rfl rfl (tyX1_ok 1 (by decide)) (fun _ => ⟨rfl, rfl⟩) zd_X1_17 (fun H1 locs hM hS => ?_)
  have hz := hz.put (show 1 < 4 by decide) 1 true
  refine lv_iconst (v := nI 0) hx hb zd_X1_20 (by decide) ?_
  refine lv_istore_n (lv' := [(1, .int (nI 0)), (0, .ref (b + 1))]) hx hb zd_X1_21 rfl hl (by decide) rfl (fun ls hl => ?_)
  refine lv_iload_n hx hb zd_X1_22 rfl (lv_at hl 0 rfl) ?_
  refine lv_aload_n hx hb zd_X1_23 rfl (lv_at hl 1 rfl) ?_
  refine z_getR X hM (k := 1) (ci := 1) (j := 0) (off := 1) (by decide) rfl rfl rfl (by decide) rfl zf_RX1_11 rfl zd_X1_24 ?_
  refine z_alen X hM (k := 2) (t := 0) (by decide) rfl rfl zd_X1_27 ?_
  refine lv_icmp_ge (tgt := 50) hx hb zd_X1_28 (by decide) (fun q => absurd q (by decide)) (fun _ => ?_)
  refine lv_aload_n hx hb zd_X1_31 rfl (lv_at hl 1 rfl) ?_
  refine z_getR X hM (k := 1) (ci := 1) (j := 0) (off := 1) (by decide) rfl rfl rfl (by decide) rfl zf_RX1_11 rfl zd_X1_32 ?_
  refine lv_iload_n hx hb zd_X1_35 rfl (lv_at hl 0 rfl) ?_
  refine z_new X hM hS hbs (by omega) (ci := 0) rfl rfl hz zk_RX1_9 zs_RX0 wi_RX0 (Nat.le_of_ble_eq_true rfl) (Nat.le_of_ble_eq_true rfl) zd_X1_36 (fun H1 hM hS => ?_)
  have hz := hz.up (Nat.le_succ _)
  refine lv_dup hx hb zd_X1_39 rfl ?_
  refine z_call X hE hA hM hS hbs (by omega) (zc_X0 4 _ _ (by decide) hz) (Or.inr zl_RX1_23) zn_RX0 wi_RX0 zc_code0 rfl (by decide +kernel) ⟨(Nat.le_of_ble_eq_true rfl), (Nat.le_of_ble_eq_true rfl)⟩ hl.1 (Nat.le_of_ble_eq_true rfl) (Nat.le_of_ble_eq_true rfl) (Nat.le_of_ble_eq_true rfl) zd_X1_40 (fun H1 locs hM hS => ?_)
  have hz := zb_X0 (k := 4) hz
  refine z_ast X hM hS (k := 2) (kv := 4) (t := 0) (i := 0) (ci := 0) (by decide) (by decide) rfl rfl rfl rfl rfl (by decide) (by decide) rfl zd_X1_43 (fun H1 locs hM hS => ?_)
  have hz := hz.put (show 2 < 21 by decide) 0 true
  refine lv_iinc (k := 0) (v := nI 1) (lv' := [(1, .int (nI 1)), (0, .ref (b + 1))]) hx hb zd_X1_44 hl rfl (by decide) (by decide) rfl (fun ls hl => ?_)
  refine lv_goto (tgt := 22) hx hb zd_X1_47 (by decide) ?_
  refine lv_iload_n hx hb zd_X1_22 rfl (lv_at hl 0 rfl) ?_
  refine lv_aload_n hx hb zd_X1_23 rfl (lv_at hl 1 rfl) ?_
  refine z_getR X hM (k := 1) (ci := 1) (j := 0) (off := 1) (by decide) rfl rfl rfl (by decide) rfl zf_RX1_11 rfl zd_X1_24 ?_
  refine z_alen X hM (k := 2) (t := 0) (by decide) rfl rfl zd_X1_27 ?_
  refine lv_icmp_ge (tgt := 50) hx hb zd_X1_28 (by decide) (fun q => absurd q (by decide)) (fun _ => ?_)
  refine lv_aload_n hx hb zd_X1_31 rfl (lv_at hl 1 rfl) ?_
  refine z_getR X hM (k := 1) (ci := 1) (j := 0) (off := 1) (by decide) rfl rfl rfl (by decide) rfl zf_RX1_11 rfl zd_X1_32 ?_
  refine lv_iload_n hx hb zd_X1_35 rfl (lv_at hl 0 rfl) ?_
  refine z_new X hM hS hbs (by omega) (ci := 0) rfl rfl hz zk_RX1_9 zs_RX0 wi_RX0 (Nat.le_of_ble_eq_true rfl) (Nat.le_of_ble_eq_true rfl) zd_X1_36 (fun H1 hM hS => ?_)
  have hz := hz.up (Nat.le_succ _)
  refine lv_dup hx hb zd_X1_39 rfl ?_
  refine z_call X hE hA hM hS hbs (by omega) (zc_X0 21 _ _ (by decide) hz) (Or.inr zl_RX1_23) zn_RX0 wi_RX0 zc_code0 rfl (by decide +kernel) ⟨(Nat.le_of_ble_eq_true rfl), (Nat.le_of_ble_eq_true rfl)⟩ hl.1 (Nat.le_of_ble_eq_true rfl) (Nat.le_of_ble_eq_true rfl) (Nat.le_of_ble_eq_true rfl) zd_X1_40 (fun H1 locs hM hS => ?_)
  have hz := zb_X0 (k := 21) hz
  refine z_ast X hM hS (k := 2) (kv := 21) (t := 0) (i := 1) (ci := 0) (by decide) (by decide) rfl rfl rfl rfl rfl (by decide) (by decide) rfl zd_X1_43 (fun H1 locs hM hS => ?_)
  have hz := hz.put (show 2 < 38 by decide) 1 true
  refine lv_iinc (k := 0) (v := nI 2) (lv' := [(1, .int (nI 2)), (0, .ref (b + 1))]) hx hb zd_X1_44 hl rfl (by decide) (by decide) rfl (fun ls hl => ?_)
  refine lv_goto (tgt := 22) hx hb zd_X1_47 (by decide) ?_
  refine lv_iload_n hx hb zd_X1_22 rfl (lv_at hl 0 rfl) ?_
  refine lv_aload_n hx hb zd_X1_23 rfl (lv_at hl 1 rfl) ?_
  refine z_getR X hM (k := 1) (ci := 1) (j := 0) (off := 1) (by decide) rfl rfl rfl (by decide) rfl zf_RX1_11 rfl zd_X1_24 ?_
  refine z_alen X hM (k := 2) (t := 0) (by decide) rfl rfl zd_X1_27 ?_
  refine lv_icmp_ge (tgt := 50) hx hb zd_X1_28 (by decide) (fun q => absurd q (by decide)) (fun _ => ?_)
  refine lv_aload_n hx hb zd_X1_31 rfl (lv_at hl 1 rfl) ?_
  refine z_getR X hM (k := 1) (ci := 1) (j := 0) (off := 1) (by decide) rfl rfl rfl (by decide) rfl zf_RX1_11 rfl zd_X1_32 ?_
  refine lv_iload_n hx hb zd_X1_35 rfl (lv_at hl 0 rfl) ?_
  refine z_new X hM hS hbs (by omega) (ci := 0) rfl rfl hz zk_RX1_9 zs_RX0 wi_RX0 (Nat.le_of_ble_eq_true rfl) (Nat.le_of_ble_eq_true rfl) zd_X1_36 (fun H1 hM hS => ?_)
  have hz := hz.up (Nat.le_succ _)
  refine lv_dup hx hb zd_X1_39 rfl ?_
  refine z_call X hE hA hM hS hbs (by omega) (zc_X0 38 _ _ (by decide) hz) (Or.inr zl_RX1_23) zn_RX0 wi_RX0 zc_code0 rfl (by decide +kernel) ⟨(Nat.le_of_ble_eq_true rfl), (Nat.le_of_ble_eq_true rfl)⟩ hl.1 (Nat.le_of_ble_eq_true rfl) (Nat.le_of_ble_eq_true rfl) (Nat.le_of_ble_eq_true rfl) zd_X1_40 (fun H1 locs hM hS => ?_)
  have hz := zb_X0 (k := 38) hz
  refine z_ast X hM hS (k := 2) (kv := 38) (t := 0) (i := 2) (ci := 0) (by decide) (by decide) rfl rfl rfl rfl rfl (by decide) (by decide) rfl zd_X1_43 (fun H1 locs hM hS => ?_)
  have hz := hz.put (show 2 < 55 by decide) 2 true
  refine lv_iinc (k := 0) (v := nI 3) (lv' := [(1, .int (nI 3)), (0, .ref (b + 1))]) hx hb zd_X1_44 hl rfl (by decide) (by decide) rfl (fun ls hl => ?_)
  refine lv_goto (tgt := 22) hx hb zd_X1_47 (by decide) ?_
  refine lv_iload_n hx hb zd_X1_22 rfl (lv_at hl 0 rfl) ?_
  refine lv_aload_n hx hb zd_X1_23 rfl (lv_at hl 1 rfl) ?_
  refine z_getR X hM (k := 1) (ci := 1) (j := 0) (off := 1) (by decide) rfl rfl rfl (by decide) rfl zf_RX1_11 rfl zd_X1_24 ?_
  refine z_alen X hM (k := 2) (t := 0) (by decide) rfl rfl zd_X1_27 ?_
  refine lv_icmp_ge (tgt := 50) hx hb zd_X1_28 (by decide) (fun q => absurd q (by decide)) (fun _ => ?_)
  refine lv_aload_n hx hb zd_X1_31 rfl (lv_at hl 1 rfl) ?_
  refine z_getR X hM (k := 1) (ci := 1) (j := 0) (off := 1) (by decide) rfl rfl rfl (by decide) rfl zf_RX1_11 rfl zd_X1_32 ?_
  refine lv_iload_n hx hb zd_X1_35 rfl (lv_at hl 0 rfl) ?_
  refine z_new X hM hS hbs (by omega) (ci := 0) rfl rfl hz zk_RX1_9 zs_RX0 wi_RX0 (Nat.le_of_ble_eq_true rfl) (Nat.le_of_ble_eq_true rfl) zd_X1_36 (fun H1 hM hS => ?_)
  have hz := hz.up (Nat.le_succ _)
  refine lv_dup hx hb zd_X1_39 rfl ?_
  refine z_call X hE hA hM hS hbs (by omega) (zc_X0 55 _ _ (by decide) hz) (Or.inr zl_RX1_23) zn_RX0 wi_RX0 zc_code0 rfl (by decide +kernel) ⟨(Nat.le_of_ble_eq_true rfl), (Nat.le_of_ble_eq_true rfl)⟩ hl.1 (Nat.le_of_ble_eq_true rfl) (Nat.le_of_ble_eq_true rfl) (Nat.le_of_ble_eq_true rfl) zd_X1_40 (fun H1 locs hM hS => ?_)
  have hz := zb_X0 (k := 55) hz
  refine z_ast X hM hS (k := 2) (kv := 55) (t := 0) (i := 3) (ci := 0) (by decide) (by decide) rfl rfl rfl rfl rfl (by decide) (by decide) rfl zd_X1_43 (fun H1 locs hM hS => ?_)
  have hz := hz.put (show 2 < 72 by decide) 3 true
  refine lv_iinc (k := 0) (v := nI 4) (lv' := [(1, .int (nI 4)), (0, .ref (b + 1))]) hx hb zd_X1_44 hl rfl (by decide) (by decide) rfl (fun ls hl => ?_)
  refine lv_goto (tgt := 22) hx hb zd_X1_47 (by decide) ?_
  refine lv_iload_n hx hb zd_X1_22 rfl (lv_at hl 0 rfl) ?_
  refine lv_aload_n hx hb zd_X1_23 rfl (lv_at hl 1 rfl) ?_
  refine z_getR X hM (k := 1) (ci := 1) (j := 0) (off := 1) (by decide) rfl rfl rfl (by decide) rfl zf_RX1_11 rfl zd_X1_24 ?_
  refine z_alen X hM (k := 2) (t := 0) (by decide) rfl rfl zd_X1_27 ?_
  refine lv_icmp_ge (tgt := 50) hx hb zd_X1_28 (by decide) (fun q => absurd q (by decide)) (fun _ => ?_)
  refine lv_aload_n hx hb zd_X1_31 rfl (lv_at hl 1 rfl) ?_
  refine z_getR X hM (k := 1) (ci := 1) (j := 0) (off := 1) (by decide) rfl rfl rfl (by decide) rfl zf_RX1_11 rfl zd_X1_32 ?_
  refine lv_iload_n hx hb zd_X1_35 rfl (lv_at hl 0 rfl) ?_
  refine z_new X hM hS hbs (by omega) (ci := 0) rfl rfl hz zk_RX1_9 zs_RX0 wi_RX0 (Nat.le_of_ble_eq_true rfl) (Nat.le_of_ble_eq_true rfl) zd_X1_36 (fun H1 hM hS => ?_)
  have hz := hz.up (Nat.le_succ _)
  refine lv_dup hx hb zd_X1_39 rfl ?_
  refine z_call X hE hA hM hS hbs (by omega) (zc_X0 72 _ _ (by decide) hz) (Or.inr zl_RX1_23) zn_RX0 wi_RX0 zc_code0 rfl (by decide +kernel) ⟨(Nat.le_of_ble_eq_true rfl), (Nat.le_of_ble_eq_true rfl)⟩ hl.1 (Nat.le_of_ble_eq_true rfl) (Nat.le_of_ble_eq_true rfl) (Nat.le_of_ble_eq_true rfl) zd_X1_40 (fun H1 locs hM hS => ?_)
  have hz := zb_X0 (k := 72) hz
  refine z_ast X hM hS (k := 2) (kv := 72) (t := 0) (i := 4) (ci := 0) (by decide) (by decide) rfl rfl rfl rfl rfl (by decide) (by decide) rfl zd_X1_43 (fun H1 locs hM hS => ?_)
  have hz := hz.put (show 2 < 89 by decide) 4 true
  refine lv_iinc (k := 0) (v := nI 5) (lv' := [(1, .int (nI 5)), (0, .ref (b + 1))]) hx hb zd_X1_44 hl rfl (by decide) (by decide) rfl (fun ls hl => ?_)
  refine lv_goto (tgt := 22) hx hb zd_X1_47 (by decide) ?_
  refine lv_iload_n hx hb zd_X1_22 rfl (lv_at hl 0 rfl) ?_
  refine lv_aload_n hx hb zd_X1_23 rfl (lv_at hl 1 rfl) ?_
  refine z_getR X hM (k := 1) (ci := 1) (j := 0) (off := 1) (by decide) rfl rfl rfl (by decide) rfl zf_RX1_11 rfl zd_X1_24 ?_
  refine z_alen X hM (k := 2) (t := 0) (by decide) rfl rfl zd_X1_27 ?_
  refine lv_icmp_ge (tgt := 50) hx hb zd_X1_28 (by decide) (fun _ => ?_) (fun q => absurd (by decide) q)
  refine lv_iconst (v := nI 0) hx hb zd_X1_50 (by decide) ?_
  refine lv_istore_n (lv' := [(1, .int (nI 0)), (0, .ref (b + 1))]) hx hb zd_X1_51 rfl hl (by decide) rfl (fun ls hl => ?_)
  refine lv_iload_n hx hb zd_X1_52 rfl (lv_at hl 0 rfl) ?_
  refine lv_aload_n hx hb zd_X1_53 rfl (lv_at hl 1 rfl) ?_
  refine z_getR X hM (k := 1) (ci := 1) (j := 1) (off := 2) (by decide) rfl rfl rfl (by decide) rfl zf_RX1_19 rfl zd_X1_54 ?_
  refine z_alen X hM (k := 3) (t := 1) (by decide) rfl rfl zd_X1_57 ?_
  refine lv_icmp_ge (tgt := 80) hx hb zd_X1_58 (by decide) (fun q => absurd q (by decide)) (fun _ => ?_)
  refine lv_aload_n hx hb zd_X1_61 rfl (lv_at hl 1 rfl) ?_
  refine z_getR X hM (k := 1) (ci := 1) (j := 1) (off := 2) (by decide) rfl rfl rfl (by decide) rfl zf_RX1_19 rfl zd_X1_62 ?_
  refine lv_iload_n hx hb zd_X1_65 rfl (lv_at hl 0 rfl) ?_
  refine z_new X hM hS hbs (by omega) (ci := 6) rfl rfl hz zk_RX1_17 zs_RX6 wi_RX6 (Nat.le_of_ble_eq_true rfl) (Nat.le_of_ble_eq_true rfl) zd_X1_66 (fun H1 hM hS => ?_)
  have hz := hz.up (Nat.le_succ _)
  refine lv_dup hx hb zd_X1_69 rfl ?_
  refine z_call X hE hA hM hS hbs (by omega) (zc_X6 89 _ _ (by decide) hz) (Or.inr zl_RX1_24) zn_RX6 wi_RX6 zc_code6 rfl (by decide +kernel) ⟨(Nat.le_of_ble_eq_true rfl), (Nat.le_of_ble_eq_true rfl)⟩ hl.1 (Nat.le_of_ble_eq_true rfl) (Nat.le_of_ble_eq_true rfl) (Nat.le_of_ble_eq_true rfl) zd_X1_70 (fun H1 locs hM hS => ?_)
  have hz := zb_X6 (k := 89) hz
  refine z_ast X hM hS (k := 3) (kv := 89) (t := 1) (i := 0) (ci := 6) (by decide) (by decide) rfl rfl rfl rfl rfl (by decide) (by decide) rfl zd_X1_73 (fun H1 locs hM hS => ?_)
  have hz := hz.put (show 3 < 92 by decide) 0 true
  refine lv_iinc (k := 0) (v := nI 1) (lv' := [(1, .int (nI 1)), (0, .ref (b + 1))]) hx hb zd_X1_74 hl rfl (by decide) (by decide) rfl (fun ls hl => ?_)
  refine lv_goto (tgt := 52) hx hb zd_X1_77 (by decide) ?_
  refine lv_iload_n hx hb zd_X1_52 rfl (lv_at hl 0 rfl) ?_
  refine lv_aload_n hx hb zd_X1_53 rfl (lv_at hl 1 rfl) ?_
  refine z_getR X hM (k := 1) (ci := 1) (j := 1) (off := 2) (by decide) rfl rfl rfl (by decide) rfl zf_RX1_19 rfl zd_X1_54 ?_
  refine z_alen X hM (k := 3) (t := 1) (by decide) rfl rfl zd_X1_57 ?_
  refine lv_icmp_ge (tgt := 80) hx hb zd_X1_58 (by decide) (fun q => absurd q (by decide)) (fun _ => ?_)
  refine lv_aload_n hx hb zd_X1_61 rfl (lv_at hl 1 rfl) ?_
  refine z_getR X hM (k := 1) (ci := 1) (j := 1) (off := 2) (by decide) rfl rfl rfl (by decide) rfl zf_RX1_19 rfl zd_X1_62 ?_
  refine lv_iload_n hx hb zd_X1_65 rfl (lv_at hl 0 rfl) ?_
  refine z_new X hM hS hbs (by omega) (ci := 6) rfl rfl hz zk_RX1_17 zs_RX6 wi_RX6 (Nat.le_of_ble_eq_true rfl) (Nat.le_of_ble_eq_true rfl) zd_X1_66 (fun H1 hM hS => ?_)
  have hz := hz.up (Nat.le_succ _)
  refine lv_dup hx hb zd_X1_69 rfl ?_
  refine z_call X hE hA hM hS hbs (by omega) (zc_X6 92 _ _ (by decide) hz) (Or.inr zl_RX1_24) zn_RX6 wi_RX6 zc_code6 rfl (by decide +kernel) ⟨(Nat.le_of_ble_eq_true rfl), (Nat.le_of_ble_eq_true rfl)⟩ hl.1 (Nat.le_of_ble_eq_true rfl) (Nat.le_of_ble_eq_true rfl) (Nat.le_of_ble_eq_true rfl) zd_X1_70 (fun H1 locs hM hS => ?_)
  have hz := zb_X6 (k := 92) hz
  refine z_ast X hM hS (k := 3) (kv := 92) (t := 1) (i := 1) (ci := 6) (by decide) (by decide) rfl rfl rfl rfl rfl (by decide) (by decide) rfl zd_X1_73 (fun H1 locs hM hS => ?_)
  have hz := hz.put (show 3 < 95 by decide) 1 true
  refine lv_iinc (k := 0) (v := nI 2) (lv' := [(1, .int (nI 2)), (0, .ref (b + 1))]) hx hb zd_X1_74 hl rfl (by decide) (by decide) rfl (fun ls hl => ?_)
  refine lv_goto (tgt := 52) hx hb zd_X1_77 (by decide) ?_
  refine lv_iload_n hx hb zd_X1_52 rfl (lv_at hl 0 rfl) ?_
  refine lv_aload_n hx hb zd_X1_53 rfl (lv_at hl 1 rfl) ?_
  refine z_getR X hM (k := 1) (ci := 1) (j := 1) (off := 2) (by decide) rfl rfl rfl (by decide) rfl zf_RX1_19 rfl zd_X1_54 ?_
  refine z_alen X hM (k := 3) (t := 1) (by decide) rfl rfl zd_X1_57 ?_
  refine lv_icmp_ge (tgt := 80) hx hb zd_X1_58 (by decide) (fun q => absurd q (by decide)) (fun _ => ?_)
  refine lv_aload_n hx hb zd_X1_61 rfl (lv_at hl 1 rfl) ?_
  refine z_getR X hM (k := 1) (ci := 1) (j := 1) (off := 2) (by decide) rfl rfl rfl (by decide) rfl zf_RX1_19 rfl zd_X1_62 ?_
  refine lv_iload_n hx hb zd_X1_65 rfl (lv_at hl 0 rfl) ?_
  refine z_new X hM hS hbs (by omega) (ci := 6) rfl rfl hz zk_RX1_17 zs_RX6 wi_RX6 (Nat.le_of_ble_eq_true rfl) (Nat.le_of_ble_eq_true rfl) zd_X1_66 (fun H1 hM hS => ?_)
  have hz := hz.up (Nat.le_succ _)
  refine lv_dup hx hb zd_X1_69 rfl ?_
  refine z_call X hE hA hM hS hbs (by omega) (zc_X6 95 _ _ (by decide) hz) (Or.inr zl_RX1_24) zn_RX6 wi_RX6 zc_code6 rfl (by decide +kernel) ⟨(Nat.le_of_ble_eq_true rfl), (Nat.le_of_ble_eq_true rfl)⟩ hl.1 (Nat.le_of_ble_eq_true rfl) (Nat.le_of_ble_eq_true rfl) (Nat.le_of_ble_eq_true rfl) zd_X1_70 (fun H1 locs hM hS => ?_)
  have hz := zb_X6 (k := 95) hz
  refine z_ast X hM hS (k := 3) (kv := 95) (t := 1) (i := 2) (ci := 6) (by decide) (by decide) rfl rfl rfl rfl rfl (by decide) (by decide) rfl zd_X1_73 (fun H1 locs hM hS => ?_)
  have hz := hz.put (show 3 < 98 by decide) 2 true
  refine lv_iinc (k := 0) (v := nI 3) (lv' := [(1, .int (nI 3)), (0, .ref (b + 1))]) hx hb zd_X1_74 hl rfl (by decide) (by decide) rfl (fun ls hl => ?_)
  refine lv_goto (tgt := 52) hx hb zd_X1_77 (by decide) ?_
  refine lv_iload_n hx hb zd_X1_52 rfl (lv_at hl 0 rfl) ?_
  refine lv_aload_n hx hb zd_X1_53 rfl (lv_at hl 1 rfl) ?_
  refine z_getR X hM (k := 1) (ci := 1) (j := 1) (off := 2) (by decide) rfl rfl rfl (by decide) rfl zf_RX1_19 rfl zd_X1_54 ?_
  refine z_alen X hM (k := 3) (t := 1) (by decide) rfl rfl zd_X1_57 ?_
  refine lv_icmp_ge (tgt := 80) hx hb zd_X1_58 (by decide) (fun q => absurd q (by decide)) (fun _ => ?_)
  refine lv_aload_n hx hb zd_X1_61 rfl (lv_at hl 1 rfl) ?_
  refine z_getR X hM (k := 1) (ci := 1) (j := 1) (off := 2) (by decide) rfl rfl rfl (by decide) rfl zf_RX1_19 rfl zd_X1_62 ?_
  refine lv_iload_n hx hb zd_X1_65 rfl (lv_at hl 0 rfl) ?_
  refine z_new X hM hS hbs (by omega) (ci := 6) rfl rfl hz zk_RX1_17 zs_RX6 wi_RX6 (Nat.le_of_ble_eq_true rfl) (Nat.le_of_ble_eq_true rfl) zd_X1_66 (fun H1 hM hS => ?_)
  have hz := hz.up (Nat.le_succ _)
  refine lv_dup hx hb zd_X1_69 rfl ?_
  refine z_call X hE hA hM hS hbs (by omega) (zc_X6 98 _ _ (by decide) hz) (Or.inr zl_RX1_24) zn_RX6 wi_RX6 zc_code6 rfl (by decide +kernel) ⟨(Nat.le_of_ble_eq_true rfl), (Nat.le_of_ble_eq_true rfl)⟩ hl.1 (Nat.le_of_ble_eq_true rfl) (Nat.le_of_ble_eq_true rfl) (Nat.le_of_ble_eq_true rfl) zd_X1_70 (fun H1 locs hM hS => ?_)
  have hz := zb_X6 (k := 98) hz
  refine z_ast X hM hS (k := 3) (kv := 98) (t := 1) (i := 3) (ci := 6) (by decide) (by decide) rfl rfl rfl rfl rfl (by decide) (by decide) rfl zd_X1_73 (fun H1 locs hM hS => ?_)
  have hz := hz.put (show 3 < 101 by decide) 3 true
  refine lv_iinc (k := 0) (v := nI 4) (lv' := [(1, .int (nI 4)), (0, .ref (b + 1))]) hx hb zd_X1_74 hl rfl (by decide) (by decide) rfl (fun ls hl => ?_)
  refine lv_goto (tgt := 52) hx hb zd_X1_77 (by decide) ?_
  refine lv_iload_n hx hb zd_X1_52 rfl (lv_at hl 0 rfl) ?_
  refine lv_aload_n hx hb zd_X1_53 rfl (lv_at hl 1 rfl) ?_
  refine z_getR X hM (k := 1) (ci := 1) (j := 1) (off := 2) (by decide) rfl rfl rfl (by decide) rfl zf_RX1_19 rfl zd_X1_54 ?_
  refine z_alen X hM (k := 3) (t := 1) (by decide) rfl rfl zd_X1_57 ?_
  refine lv_icmp_ge (tgt := 80) hx hb zd_X1_58 (by decide) (fun _ => ?_) (fun q => absurd (by decide) q)
  refine W.widen (k := 99) (n := 804) (Nat.le_of_ble_eq_true rfl) (Nat.le_of_ble_eq_true rfl) ?_
  exact W.vret hx hb hr (fun t ht hW => ⟨⟨(), rfl, trivial, by show MZ _ b D cA S _ t.heap; rw [ht]; exact hM⟩, hS.F ht⟩) hS.2.2 zd_X1_80
def zX2 (Z : ZM) : ZM := (u2 (zX7 (u2 (zX7 (u2 (zX7 (u2 (zX7 (u2 (zX7 (u2 (zX7 (u2 (zX7 (u2 (zX7 (u2 (zX7 (u2 Z 101 0 true) 103) 102 0 true) 105) 102 1 true) 107) 102 2 true) 109) 102 3 true) 111) 102 4 true) 113) 102 5 true) 115) 102 6 true) 117) 102 7 true) 119) 102 8 true)
theorem zo_X2 {Z : ZM} {a : Nat} (h : a < 101 ∨ 121 ≤ a) : zX2 Z a = Z a := by
  unfold zX2
  rw [u2_other _ _ _ (by omega), zo_X7 (by omega), u2_other _ _ _ (by omega), zo_X7 (by omega), u2_other _ _ _ (by omega), zo_X7 (by omega), u2_other _ _ _ (by omega), zo_X7 (by omega), u2_other _ _ _ (by omega), zo_X7 (by omega), u2_other _ _ _ (by omega), zo_X7 (by omega), u2_other _ _ _ (by omega), zo_X7 (by omega), u2_other _ _ _ (by omega), zo_X7 (by omega), u2_other _ _ _ (by omega), zo_X7 (by omega), u2_other _ _ _ (by omega)]
theorem zb_X2 {S : Mem} {Z : ZM} (h : blnk S Z 102) : blnk S (zX2 Z) 121 := (h.up (by omega)).of (fun a ha => zo_X2 (by omega))
set_option maxRecDepth 20000 in
set_option maxHeartbeats 4000000 in
theorem zc_X2 {l : Launch} {b : Nat} {D : va_G} {cA sa adV : Nat → Nat} (S : Mem) (Z : ZM) (hz : blnk S Z 102) : CnZ l b D cA sa adV yX2_init cX2_init 2 2 32 19 6471 101 102 S Z 121 S (zX2 Z) := by
  refine CnZ_of (by decide +kernel) rfl (by decide) (fun p e s m below meth c ls K hl => ?_)
  obtain ⟨X, hin, hr, hE, hA, hM, hsz, hlk⟩ := K
  obtain ⟨hx, hb, hml, hown, hts, hK, hN⟩ := id X
  have hbs : b ≤ s.heap.size := by omega
  have hS : va_S (AB b) s.heap s.heap [] := va_S.rf
  refine lv_aload_n hx hb zd_X2_0 rfl (lv_at hl 0 rfl) ?_
  refine W.objInit hx hb hown (hts _ zo_RX2_3) (hts _ zw_oi) (hts _ zw_oc) rfl (by rw [hml]; exact hl.1) rfl zd_X2_1 (Nat.le_of_ble_eq_true rfl) (Nat.le_of_ble_eq_true rfl) ?_
  refine W.eq (g2 := F0 m 4 ls []) rfl ?_
  refine lv_aload_n hx hb zd_X2_4 rfl (lv_at hl 0 rfl) ?_
  refine lv_bipush (v := nI 9) hx hb zd_X2_5 (by decide) ?_
  refine z_newq X hM hS hbs (by omega) (k := 9) (t := 2) rfl hz rfl (by decide) rfl zk_RX2_9 hA.2.2.1 (Nat.le_of_ble_eq_true rfl) (Nat.le_of_ble_eq_true rfl) zd_X2_7 (fun H1 hM hS => ?_)
  have hz := hz.up (Nat.le_succ _)
  refine z_putR X hin hM hS (k := 101) (ci := 2) (j := 0) (off := 1) (by decide) rfl rfl rfl (by decide) rfl zf_RX2_11 rfl rfl (tyX2_ok 0 (by decide)) (fun _ => ⟨rfl, rfl⟩) zd_X2_10 (fun H1 locs hM hS => ?_)
  have hz := hz.put (show 101 < 103 by decide) 0 true
  refine lv_iconst (v := nI 0) hx hb zd_X2_13 (by decide) ?_
  refine lv_istore_n (lv' := [(1, .int (nI 0)), (0, .ref (b + 101))]) hx hb zd_X2_14 rfl hl (by decide) rfl (fun ls hl => ?_)
  refine lv_iload_n hx hb zd_X2_15 rfl (lv_at hl 0 rfl) ?_
  refine lv_aload_n hx hb zd_X2_16 rfl (lv_at hl 1 rfl) ?_
  refine z_getR X hM (k := 101) (ci := 2) (j := 0) (off := 1) (by decide) rfl rfl rfl (by decide) rfl zf_RX2_11 rfl zd_X2_17 ?_
  refine z_alen X hM (k := 102) (t := 2) (by decide) rfl rfl zd_X2_20 ?_
  refine lv_icmp_ge (tgt := 43) hx hb zd_X2_21 (by decide) (fun q => absurd q (by decide)) (fun _ => ?_)
  refine lv_aload_n hx hb zd_X2_24 rfl (lv_at hl 1 rfl) ?_
  refine z_getR X hM (k := 101) (ci := 2) (j := 0) (off := 1) (by decide) rfl rfl rfl (by decide) rfl zf_RX2_11 rfl zd_X2_25 ?_
  refine lv_iload_n hx hb zd_X2_28 rfl (lv_at hl 0 rfl) ?_
  refine z_new X hM hS hbs (by omega) (ci := 7) rfl rfl hz zk_RX2_9 zs_RX7 wi_RX7 (Nat.le_of_ble_eq_true rfl) (Nat.le_of_ble_eq_true rfl) zd_X2_29 (fun H1 hM hS => ?_)
  have hz := hz.up (Nat.le_succ _)
  refine lv_dup hx hb zd_X2_32 rfl ?_
  refine z_call X hE hA hM hS hbs (by omega) (zc_X7 103 _ _ (by decide) hz) (Or.inr zl_RX2_17) zn_RX7 wi_RX7 zc_code7 rfl (by decide +kernel) ⟨(Nat.le_of_ble_eq_true rfl), (Nat.le_of_ble_eq_true rfl)⟩ hl.1 (Nat.le_of_ble_eq_true rfl) (Nat.le_of_ble_eq_true rfl) (Nat.le_of_ble_eq_true rfl) zd_X2_33 (fun H1 locs hM hS => ?_)
  have hz := zb_X7 (k := 103) hz
  refine z_ast X hM hS (k := 102) (kv := 103) (t := 2) (i := 0) (ci := 7) (by decide) (by decide) rfl rfl rfl rfl rfl (by decide) (by decide) rfl zd_X2_36 (fun H1 locs hM hS => ?_)
  have hz := hz.put (show 102 < 105 by decide) 0 true
  refine lv_iinc (k := 0) (v := nI 1) (lv' := [(1, .int (nI 1)), (0, .ref (b + 101))]) hx hb zd_X2_37 hl rfl (by decide) (by decide) rfl (fun ls hl => ?_)
  refine lv_goto (tgt := 15) hx hb zd_X2_40 (by decide) ?_
  refine lv_iload_n hx hb zd_X2_15 rfl (lv_at hl 0 rfl) ?_
  refine lv_aload_n hx hb zd_X2_16 rfl (lv_at hl 1 rfl) ?_
  refine z_getR X hM (k := 101) (ci := 2) (j := 0) (off := 1) (by decide) rfl rfl rfl (by decide) rfl zf_RX2_11 rfl zd_X2_17 ?_
  refine z_alen X hM (k := 102) (t := 2) (by decide) rfl rfl zd_X2_20 ?_
  refine lv_icmp_ge (tgt := 43) hx hb zd_X2_21 (by decide) (fun q => absurd q (by decide)) (fun _ => ?_)
  refine lv_aload_n hx hb zd_X2_24 rfl (lv_at hl 1 rfl) ?_
  refine z_getR X hM (k := 101) (ci := 2) (j := 0) (off := 1) (by decide) rfl rfl rfl (by decide) rfl zf_RX2_11 rfl zd_X2_25 ?_
  refine lv_iload_n hx hb zd_X2_28 rfl (lv_at hl 0 rfl) ?_
  refine z_new X hM hS hbs (by omega) (ci := 7) rfl rfl hz zk_RX2_9 zs_RX7 wi_RX7 (Nat.le_of_ble_eq_true rfl) (Nat.le_of_ble_eq_true rfl) zd_X2_29 (fun H1 hM hS => ?_)
  have hz := hz.up (Nat.le_succ _)
  refine lv_dup hx hb zd_X2_32 rfl ?_
  refine z_call X hE hA hM hS hbs (by omega) (zc_X7 105 _ _ (by decide) hz) (Or.inr zl_RX2_17) zn_RX7 wi_RX7 zc_code7 rfl (by decide +kernel) ⟨(Nat.le_of_ble_eq_true rfl), (Nat.le_of_ble_eq_true rfl)⟩ hl.1 (Nat.le_of_ble_eq_true rfl) (Nat.le_of_ble_eq_true rfl) (Nat.le_of_ble_eq_true rfl) zd_X2_33 (fun H1 locs hM hS => ?_)
  have hz := zb_X7 (k := 105) hz
  refine z_ast X hM hS (k := 102) (kv := 105) (t := 2) (i := 1) (ci := 7) (by decide) (by decide) rfl rfl rfl rfl rfl (by decide) (by decide) rfl zd_X2_36 (fun H1 locs hM hS => ?_)
  have hz := hz.put (show 102 < 107 by decide) 1 true
  refine lv_iinc (k := 0) (v := nI 2) (lv' := [(1, .int (nI 2)), (0, .ref (b + 101))]) hx hb zd_X2_37 hl rfl (by decide) (by decide) rfl (fun ls hl => ?_)
  refine lv_goto (tgt := 15) hx hb zd_X2_40 (by decide) ?_
  refine lv_iload_n hx hb zd_X2_15 rfl (lv_at hl 0 rfl) ?_
  refine lv_aload_n hx hb zd_X2_16 rfl (lv_at hl 1 rfl) ?_
  refine z_getR X hM (k := 101) (ci := 2) (j := 0) (off := 1) (by decide) rfl rfl rfl (by decide) rfl zf_RX2_11 rfl zd_X2_17 ?_
  refine z_alen X hM (k := 102) (t := 2) (by decide) rfl rfl zd_X2_20 ?_
  refine lv_icmp_ge (tgt := 43) hx hb zd_X2_21 (by decide) (fun q => absurd q (by decide)) (fun _ => ?_)
  refine lv_aload_n hx hb zd_X2_24 rfl (lv_at hl 1 rfl) ?_
  refine z_getR X hM (k := 101) (ci := 2) (j := 0) (off := 1) (by decide) rfl rfl rfl (by decide) rfl zf_RX2_11 rfl zd_X2_25 ?_
  refine lv_iload_n hx hb zd_X2_28 rfl (lv_at hl 0 rfl) ?_
  refine z_new X hM hS hbs (by omega) (ci := 7) rfl rfl hz zk_RX2_9 zs_RX7 wi_RX7 (Nat.le_of_ble_eq_true rfl) (Nat.le_of_ble_eq_true rfl) zd_X2_29 (fun H1 hM hS => ?_)
  have hz := hz.up (Nat.le_succ _)
  refine lv_dup hx hb zd_X2_32 rfl ?_
  refine z_call X hE hA hM hS hbs (by omega) (zc_X7 107 _ _ (by decide) hz) (Or.inr zl_RX2_17) zn_RX7 wi_RX7 zc_code7 rfl (by decide +kernel) ⟨(Nat.le_of_ble_eq_true rfl), (Nat.le_of_ble_eq_true rfl)⟩ hl.1 (Nat.le_of_ble_eq_true rfl) (Nat.le_of_ble_eq_true rfl) (Nat.le_of_ble_eq_true rfl) zd_X2_33 (fun H1 locs hM hS => ?_)
  have hz := zb_X7 (k := 107) hz
  refine z_ast X hM hS (k := 102) (kv := 107) (t := 2) (i := 2) (ci := 7) (by decide) (by decide) rfl rfl rfl rfl rfl (by decide) (by decide) rfl zd_X2_36 (fun H1 locs hM hS => ?_)
  have hz := hz.put (show 102 < 109 by decide) 2 true
  refine lv_iinc (k := 0) (v := nI 3) (lv' := [(1, .int (nI 3)), (0, .ref (b + 101))]) hx hb zd_X2_37 hl rfl (by decide) (by decide) rfl (fun ls hl => ?_)
  refine lv_goto (tgt := 15) hx hb zd_X2_40 (by decide) ?_
  refine lv_iload_n hx hb zd_X2_15 rfl (lv_at hl 0 rfl) ?_
  refine lv_aload_n hx hb zd_X2_16 rfl (lv_at hl 1 rfl) ?_
  refine z_getR X hM (k := 101) (ci := 2) (j := 0) (off := 1) (by decide) rfl rfl rfl (by decide) rfl zf_RX2_11 rfl zd_X2_17 ?_
  refine z_alen X hM (k := 102) (t := 2) (by decide) rfl rfl zd_X2_20 ?_
  refine lv_icmp_ge (tgt := 43) hx hb zd_X2_21 (by decide) (fun q => absurd q (by decide)) (fun _ => ?_)
  refine lv_aload_n hx hb zd_X2_24 rfl (lv_at hl 1 rfl) ?_
  refine z_getR X hM (k := 101) (ci := 2) (j := 0) (off := 1) (by decide) rfl rfl rfl (by decide) rfl zf_RX2_11 rfl zd_X2_25 ?_
  refine lv_iload_n hx hb zd_X2_28 rfl (lv_at hl 0 rfl) ?_
  refine z_new X hM hS hbs (by omega) (ci := 7) rfl rfl hz zk_RX2_9 zs_RX7 wi_RX7 (Nat.le_of_ble_eq_true rfl) (Nat.le_of_ble_eq_true rfl) zd_X2_29 (fun H1 hM hS => ?_)
  have hz := hz.up (Nat.le_succ _)
  refine lv_dup hx hb zd_X2_32 rfl ?_
  refine z_call X hE hA hM hS hbs (by omega) (zc_X7 109 _ _ (by decide) hz) (Or.inr zl_RX2_17) zn_RX7 wi_RX7 zc_code7 rfl (by decide +kernel) ⟨(Nat.le_of_ble_eq_true rfl), (Nat.le_of_ble_eq_true rfl)⟩ hl.1 (Nat.le_of_ble_eq_true rfl) (Nat.le_of_ble_eq_true rfl) (Nat.le_of_ble_eq_true rfl) zd_X2_33 (fun H1 locs hM hS => ?_)
  have hz := zb_X7 (k := 109) hz
  refine z_ast X hM hS (k := 102) (kv := 109) (t := 2) (i := 3) (ci := 7) (by decide) (by decide) rfl rfl rfl rfl rfl (by decide) (by decide) rfl zd_X2_36 (fun H1 locs hM hS => ?_)
  have hz := hz.put (show 102 < 111 by decide) 3 true
  refine lv_iinc (k := 0) (v := nI 4) (lv' := [(1, .int (nI 4)), (0, .ref (b + 101))]) hx hb zd_X2_37 hl rfl (by decide) (by decide) rfl (fun ls hl => ?_)
  refine lv_goto (tgt := 15) hx hb zd_X2_40 (by decide) ?_
  refine lv_iload_n hx hb zd_X2_15 rfl (lv_at hl 0 rfl) ?_
  refine lv_aload_n hx hb zd_X2_16 rfl (lv_at hl 1 rfl) ?_
  refine z_getR X hM (k := 101) (ci := 2) (j := 0) (off := 1) (by decide) rfl rfl rfl (by decide) rfl zf_RX2_11 rfl zd_X2_17 ?_
  refine z_alen X hM (k := 102) (t := 2) (by decide) rfl rfl zd_X2_20 ?_
  refine lv_icmp_ge (tgt := 43) hx hb zd_X2_21 (by decide) (fun q => absurd q (by decide)) (fun _ => ?_)
  refine lv_aload_n hx hb zd_X2_24 rfl (lv_at hl 1 rfl) ?_
  refine z_getR X hM (k := 101) (ci := 2) (j := 0) (off := 1) (by decide) rfl rfl rfl (by decide) rfl zf_RX2_11 rfl zd_X2_25 ?_
  refine lv_iload_n hx hb zd_X2_28 rfl (lv_at hl 0 rfl) ?_
  refine z_new X hM hS hbs (by omega) (ci := 7) rfl rfl hz zk_RX2_9 zs_RX7 wi_RX7 (Nat.le_of_ble_eq_true rfl) (Nat.le_of_ble_eq_true rfl) zd_X2_29 (fun H1 hM hS => ?_)
  have hz := hz.up (Nat.le_succ _)
  refine lv_dup hx hb zd_X2_32 rfl ?_
  refine z_call X hE hA hM hS hbs (by omega) (zc_X7 111 _ _ (by decide) hz) (Or.inr zl_RX2_17) zn_RX7 wi_RX7 zc_code7 rfl (by decide +kernel) ⟨(Nat.le_of_ble_eq_true rfl), (Nat.le_of_ble_eq_true rfl)⟩ hl.1 (Nat.le_of_ble_eq_true rfl) (Nat.le_of_ble_eq_true rfl) (Nat.le_of_ble_eq_true rfl) zd_X2_33 (fun H1 locs hM hS => ?_)
  have hz := zb_X7 (k := 111) hz
  refine z_ast X hM hS (k := 102) (kv := 111) (t := 2) (i := 4) (ci := 7) (by decide) (by decide) rfl rfl rfl rfl rfl (by decide) (by decide) rfl zd_X2_36 (fun H1 locs hM hS => ?_)
  have hz := hz.put (show 102 < 113 by decide) 4 true
  refine lv_iinc (k := 0) (v := nI 5) (lv' := [(1, .int (nI 5)), (0, .ref (b + 101))]) hx hb zd_X2_37 hl rfl (by decide) (by decide) rfl (fun ls hl => ?_)
  refine lv_goto (tgt := 15) hx hb zd_X2_40 (by decide) ?_
  refine lv_iload_n hx hb zd_X2_15 rfl (lv_at hl 0 rfl) ?_
  refine lv_aload_n hx hb zd_X2_16 rfl (lv_at hl 1 rfl) ?_
  refine z_getR X hM (k := 101) (ci := 2) (j := 0) (off := 1) (by decide) rfl rfl rfl (by decide) rfl zf_RX2_11 rfl zd_X2_17 ?_
  refine z_alen X hM (k := 102) (t := 2) (by decide) rfl rfl zd_X2_20 ?_
  refine lv_icmp_ge (tgt := 43) hx hb zd_X2_21 (by decide) (fun q => absurd q (by decide)) (fun _ => ?_)
  refine lv_aload_n hx hb zd_X2_24 rfl (lv_at hl 1 rfl) ?_
  refine z_getR X hM (k := 101) (ci := 2) (j := 0) (off := 1) (by decide) rfl rfl rfl (by decide) rfl zf_RX2_11 rfl zd_X2_25 ?_
  refine lv_iload_n hx hb zd_X2_28 rfl (lv_at hl 0 rfl) ?_
  refine z_new X hM hS hbs (by omega) (ci := 7) rfl rfl hz zk_RX2_9 zs_RX7 wi_RX7 (Nat.le_of_ble_eq_true rfl) (Nat.le_of_ble_eq_true rfl) zd_X2_29 (fun H1 hM hS => ?_)
  have hz := hz.up (Nat.le_succ _)
  refine lv_dup hx hb zd_X2_32 rfl ?_
  refine z_call X hE hA hM hS hbs (by omega) (zc_X7 113 _ _ (by decide) hz) (Or.inr zl_RX2_17) zn_RX7 wi_RX7 zc_code7 rfl (by decide +kernel) ⟨(Nat.le_of_ble_eq_true rfl), (Nat.le_of_ble_eq_true rfl)⟩ hl.1 (Nat.le_of_ble_eq_true rfl) (Nat.le_of_ble_eq_true rfl) (Nat.le_of_ble_eq_true rfl) zd_X2_33 (fun H1 locs hM hS => ?_)
  have hz := zb_X7 (k := 113) hz
  refine z_ast X hM hS (k := 102) (kv := 113) (t := 2) (i := 5) (ci := 7) (by decide) (by decide) rfl rfl rfl rfl rfl (by decide) (by decide) rfl zd_X2_36 (fun H1 locs hM hS => ?_)
  have hz := hz.put (show 102 < 115 by decide) 5 true
  refine lv_iinc (k := 0) (v := nI 6) (lv' := [(1, .int (nI 6)), (0, .ref (b + 101))]) hx hb zd_X2_37 hl rfl (by decide) (by decide) rfl (fun ls hl => ?_)
  refine lv_goto (tgt := 15) hx hb zd_X2_40 (by decide) ?_
  refine lv_iload_n hx hb zd_X2_15 rfl (lv_at hl 0 rfl) ?_
  refine lv_aload_n hx hb zd_X2_16 rfl (lv_at hl 1 rfl) ?_
  refine z_getR X hM (k := 101) (ci := 2) (j := 0) (off := 1) (by decide) rfl rfl rfl (by decide) rfl zf_RX2_11 rfl zd_X2_17 ?_
  refine z_alen X hM (k := 102) (t := 2) (by decide) rfl rfl zd_X2_20 ?_
  refine lv_icmp_ge (tgt := 43) hx hb zd_X2_21 (by decide) (fun q => absurd q (by decide)) (fun _ => ?_)
  refine lv_aload_n hx hb zd_X2_24 rfl (lv_at hl 1 rfl) ?_
  refine z_getR X hM (k := 101) (ci := 2) (j := 0) (off := 1) (by decide) rfl rfl rfl (by decide) rfl zf_RX2_11 rfl zd_X2_25 ?_
  refine lv_iload_n hx hb zd_X2_28 rfl (lv_at hl 0 rfl) ?_
  refine z_new X hM hS hbs (by omega) (ci := 7) rfl rfl hz zk_RX2_9 zs_RX7 wi_RX7 (Nat.le_of_ble_eq_true rfl) (Nat.le_of_ble_eq_true rfl) zd_X2_29 (fun H1 hM hS => ?_)
  have hz := hz.up (Nat.le_succ _)
  refine lv_dup hx hb zd_X2_32 rfl ?_
  refine z_call X hE hA hM hS hbs (by omega) (zc_X7 115 _ _ (by decide) hz) (Or.inr zl_RX2_17) zn_RX7 wi_RX7 zc_code7 rfl (by decide +kernel) ⟨(Nat.le_of_ble_eq_true rfl), (Nat.le_of_ble_eq_true rfl)⟩ hl.1 (Nat.le_of_ble_eq_true rfl) (Nat.le_of_ble_eq_true rfl) (Nat.le_of_ble_eq_true rfl) zd_X2_33 (fun H1 locs hM hS => ?_)
  have hz := zb_X7 (k := 115) hz
  refine z_ast X hM hS (k := 102) (kv := 115) (t := 2) (i := 6) (ci := 7) (by decide) (by decide) rfl rfl rfl rfl rfl (by decide) (by decide) rfl zd_X2_36 (fun H1 locs hM hS => ?_)
  have hz := hz.put (show 102 < 117 by decide) 6 true
  refine lv_iinc (k := 0) (v := nI 7) (lv' := [(1, .int (nI 7)), (0, .ref (b + 101))]) hx hb zd_X2_37 hl rfl (by decide) (by decide) rfl (fun ls hl => ?_)
  refine lv_goto (tgt := 15) hx hb zd_X2_40 (by decide) ?_
  refine lv_iload_n hx hb zd_X2_15 rfl (lv_at hl 0 rfl) ?_
  refine lv_aload_n hx hb zd_X2_16 rfl (lv_at hl 1 rfl) ?_
  refine z_getR X hM (k := 101) (ci := 2) (j := 0) (off := 1) (by decide) rfl rfl rfl (by decide) rfl zf_RX2_11 rfl zd_X2_17 ?_
  refine z_alen X hM (k := 102) (t := 2) (by decide) rfl rfl zd_X2_20 ?_
  refine lv_icmp_ge (tgt := 43) hx hb zd_X2_21 (by decide) (fun q => absurd q (by decide)) (fun _ => ?_)
  refine lv_aload_n hx hb zd_X2_24 rfl (lv_at hl 1 rfl) ?_
  refine z_getR X hM (k := 101) (ci := 2) (j := 0) (off := 1) (by decide) rfl rfl rfl (by decide) rfl zf_RX2_11 rfl zd_X2_25 ?_
  refine lv_iload_n hx hb zd_X2_28 rfl (lv_at hl 0 rfl) ?_
  refine z_new X hM hS hbs (by omega) (ci := 7) rfl rfl hz zk_RX2_9 zs_RX7 wi_RX7 (Nat.le_of_ble_eq_true rfl) (Nat.le_of_ble_eq_true rfl) zd_X2_29 (fun H1 hM hS => ?_)
  have hz := hz.up (Nat.le_succ _)
  refine lv_dup hx hb zd_X2_32 rfl ?_
  refine z_call X hE hA hM hS hbs (by omega) (zc_X7 117 _ _ (by decide) hz) (Or.inr zl_RX2_17) zn_RX7 wi_RX7 zc_code7 rfl (by decide +kernel) ⟨(Nat.le_of_ble_eq_true rfl), (Nat.le_of_ble_eq_true rfl)⟩ hl.1 (Nat.le_of_ble_eq_true rfl) (Nat.le_of_ble_eq_true rfl) (Nat.le_of_ble_eq_true rfl) zd_X2_33 (fun H1 locs hM hS => ?_)
  have hz := zb_X7 (k := 117) hz
  refine z_ast X hM hS (k := 102) (kv := 117) (t := 2) (i := 7) (ci := 7) (by decide) (by decide) rfl rfl rfl rfl rfl (by decide) (by decide) rfl zd_X2_36 (fun H1 locs hM hS => ?_)
  have hz := hz.put (show 102 < 119 by decide) 7 true
  refine lv_iinc (k := 0) (v := nI 8) (lv' := [(1, .int (nI 8)), (0, .ref (b + 101))]) hx hb zd_X2_37 hl rfl (by decide) (by decide) rfl (fun ls hl => ?_)
  refine lv_goto (tgt := 15) hx hb zd_X2_40 (by decide) ?_
  refine lv_iload_n hx hb zd_X2_15 rfl (lv_at hl 0 rfl) ?_
  refine lv_aload_n hx hb zd_X2_16 rfl (lv_at hl 1 rfl) ?_
  refine z_getR X hM (k := 101) (ci := 2) (j := 0) (off := 1) (by decide) rfl rfl rfl (by decide) rfl zf_RX2_11 rfl zd_X2_17 ?_
  refine z_alen X hM (k := 102) (t := 2) (by decide) rfl rfl zd_X2_20 ?_
  refine lv_icmp_ge (tgt := 43) hx hb zd_X2_21 (by decide) (fun q => absurd q (by decide)) (fun _ => ?_)
  refine lv_aload_n hx hb zd_X2_24 rfl (lv_at hl 1 rfl) ?_
  refine z_getR X hM (k := 101) (ci := 2) (j := 0) (off := 1) (by decide) rfl rfl rfl (by decide) rfl zf_RX2_11 rfl zd_X2_25 ?_
  refine lv_iload_n hx hb zd_X2_28 rfl (lv_at hl 0 rfl) ?_
  refine z_new X hM hS hbs (by omega) (ci := 7) rfl rfl hz zk_RX2_9 zs_RX7 wi_RX7 (Nat.le_of_ble_eq_true rfl) (Nat.le_of_ble_eq_true rfl) zd_X2_29 (fun H1 hM hS => ?_)
  have hz := hz.up (Nat.le_succ _)
  refine lv_dup hx hb zd_X2_32 rfl ?_
  refine z_call X hE hA hM hS hbs (by omega) (zc_X7 119 _ _ (by decide) hz) (Or.inr zl_RX2_17) zn_RX7 wi_RX7 zc_code7 rfl (by decide +kernel) ⟨(Nat.le_of_ble_eq_true rfl), (Nat.le_of_ble_eq_true rfl)⟩ hl.1 (Nat.le_of_ble_eq_true rfl) (Nat.le_of_ble_eq_true rfl) (Nat.le_of_ble_eq_true rfl) zd_X2_33 (fun H1 locs hM hS => ?_)
  have hz := zb_X7 (k := 119) hz
  refine z_ast X hM hS (k := 102) (kv := 119) (t := 2) (i := 8) (ci := 7) (by decide) (by decide) rfl rfl rfl rfl rfl (by decide) (by decide) rfl zd_X2_36 (fun H1 locs hM hS => ?_)
  have hz := hz.put (show 102 < 121 by decide) 8 true
  refine lv_iinc (k := 0) (v := nI 9) (lv' := [(1, .int (nI 9)), (0, .ref (b + 101))]) hx hb zd_X2_37 hl rfl (by decide) (by decide) rfl (fun ls hl => ?_)
  refine lv_goto (tgt := 15) hx hb zd_X2_40 (by decide) ?_
  refine lv_iload_n hx hb zd_X2_15 rfl (lv_at hl 0 rfl) ?_
  refine lv_aload_n hx hb zd_X2_16 rfl (lv_at hl 1 rfl) ?_
  refine z_getR X hM (k := 101) (ci := 2) (j := 0) (off := 1) (by decide) rfl rfl rfl (by decide) rfl zf_RX2_11 rfl zd_X2_17 ?_
  refine z_alen X hM (k := 102) (t := 2) (by decide) rfl rfl zd_X2_20 ?_
  refine lv_icmp_ge (tgt := 43) hx hb zd_X2_21 (by decide) (fun _ => ?_) (fun q => absurd (by decide) q)
  refine W.widen (k := 19) (n := 6471) (Nat.le_of_ble_eq_true rfl) (Nat.le_of_ble_eq_true rfl) ?_
  exact W.vret hx hb hr (fun t ht hW => ⟨⟨(), rfl, trivial, by show MZ _ b D cA S _ t.heap; rw [ht]; exact hM⟩, hS.F ht⟩) hS.2.2 zd_X2_43
