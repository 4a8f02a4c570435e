/-! ===== constructors of the class and of the model ===== -/
theorem zw_mna : Cond.classLink RX10 30 ("[" ++ (FieldType.array .long).toString) ∈ wG := wG_at 1242 (by decide +kernel) rfl
theorem wl_RX9_48 : Cond.methodLink RX9 48 yX1_tellFirst ∈ wG := wG_at 430 (by decide +kernel) rfl
theorem wn_X1_tellFirst : Cond.instanceMethod yX1_tellFirst ∈ wG := wG_at 431 (by decide +kernel) rfl
theorem ws_X1_tellFirst : Cond.selects yX1_tellFirst.cls yX1_tellFirst yX1_tellFirst ∈ wG := wG_at 432 (by decide +kernel) rfl
theorem wc_X1_tellFirst : Cond.code yX1_tellFirst cX1_tellFirst 1 none ∈ wG := wG_at 433 (by decide +kernel) rfl
theorem zw_c49 : Cond.constantLong RX10 49 100 ∈ wG := wG_at 1251 (by decide +kernel) rfl
def z00 : ZM := fun _ _ => false
def S00 : Mem := (fun _ _ => 0, fun _ _ => 0)
theorem blnk_00 (n : Nat) : blnk S00 z00 n := fun _ _ => ⟨rfl, rfl, rfl⟩
set_option maxRecDepth 20000 in
set_option maxHeartbeats 4000000 in
theorem zc_X9 {l : Launch} (hl0 : l.stackTraces = false) {b : Nat} {D : va_G} {cA sa adV : Nat → Nat} : CnY l b D cA sa adV yX9_init cX9_init 1 6 125 137 7771 0 1 S00 z00 138 (fun v S' => v = none ∧ dskF (u2 S00.1 0 0 (-1), S00.2) S') := by
  have hz := blnk_00 1
  refine CnY_of (by decide +kernel) rfl (by decide) (fun p e s m below meth c ls K hl => ?_)
  obtain ⟨X, hin, hr, hE, hA, hM, hsz, hlk⟩ := K
  obtain ⟨hx, hb, hml, hown, hts, hK, hN⟩ := id X
  have hbs : b ≤ s.heap.size := by omega
  have hS : va_S (AB b) s.heap s.heap [] := va_S.rf
  refine lv_aload_n hx hb zd_X9_0 rfl (lv_at hl 0 rfl) ?_
  refine W.objInit hx hb hown (hts _ zo_RX9_3) (hts _ zw_oi) (hts _ zw_oc) rfl (by rw [hml]; exact hl.1) rfl zd_X9_1 (Nat.le_of_ble_eq_true rfl) (Nat.le_of_ble_eq_true rfl) ?_
  refine W.eq (g2 := F0 m 4 ls []) rfl ?_
  refine lv_aload_n hx hb zd_X9_4 rfl (lv_at hl 0 rfl) ?_
  refine lv_iconst (v := -1) hx hb zd_X9_5 (by decide) ?_
  refine z_puti X hM hS (k := 0) (ci := 9) (j := 0) (v := -1) (by decide) rfl rfl rfl (by decide) rfl zf_RX9_9 rfl rfl zd_X9_6 (fun H1 locs hM hS => ?_)
  have hz := hz.puti (show 0 < 1 by decide) 0 (-1)
  refine lv_aload_n hx hb zd_X9_9 rfl (lv_at hl 0 rfl) ?_
  refine z_new X hM hS hbs (by omega) (ci := 1) rfl rfl hz zk_RX9_13 zs_RX1 wi_RX1 (Nat.le_of_ble_eq_true rfl) (Nat.le_of_ble_eq_true rfl) zd_X9_10 (fun H1 hM hS => ?_)
  have hz := hz.up (Nat.le_succ _)
  refine lv_dup hx hb zd_X9_13 rfl ?_
  refine z_call X hE hA hM hS hbs (by omega) (zc_X1 _ _ hz) (Or.inl zl_RX9_15) zn_RX1 wi_RX1 zc_code1 rfl (by decide +kernel) ⟨(Nat.le_of_ble_eq_true rfl), (Nat.le_of_ble_eq_true rfl)⟩ hl.1 (Nat.le_of_ble_eq_true rfl) (Nat.le_of_ble_eq_true rfl) (Nat.le_of_ble_eq_true rfl) zd_X9_14 (fun H1 locs hM hS => ?_)
  have hz := zb_X1 hz
  refine z_putR X hin hM hS (k := 0) (ci := 9) (j := 4) (off := 1) (by decide) rfl rfl rfl (by decide) rfl zf_RX9_16 rfl rfl (tyX9_ok 4 (by decide)) (fun _ => ⟨rfl, rfl⟩) zd_X9_17 (fun H1 locs hM hS => ?_)
  have hz := hz.put (show 0 < 101 by decide) 4 true
  refine lv_aload_n hx hb zd_X9_20 rfl (lv_at hl 0 rfl) ?_
  refine z_new X hM hS hbs (by omega) (ci := 2) rfl rfl hz zk_RX9_20 zs_RX2 wi_RX2 (Nat.le_of_ble_eq_true rfl) (Nat.le_of_ble_eq_true rfl) zd_X9_21 (fun H1 hM hS => ?_)
  have hz := hz.up (Nat.le_succ _)
  refine lv_dup hx hb zd_X9_24 rfl ?_
  refine z_call X hE hA hM hS hbs (by omega) (zc_X2 _ _ hz) (Or.inl zl_RX9_22) zn_RX2 wi_RX2 zc_code2 rfl (by decide +kernel) ⟨(Nat.le_of_ble_eq_true rfl), (Nat.le_of_ble_eq_true rfl)⟩ hl.1 (Nat.le_of_ble_eq_true rfl) (Nat.le_of_ble_eq_true rfl) (Nat.le_of_ble_eq_true rfl) zd_X9_25 (fun H1 locs hM hS => ?_)
  have hz := zb_X2 hz
  refine z_putR X hin hM hS (k := 0) (ci := 9) (j := 5) (off := 101) (by decide) rfl rfl rfl (by decide) rfl zf_RX9_23 rfl rfl (tyX9_ok 5 (by decide)) (fun _ => ⟨rfl, rfl⟩) zd_X9_28 (fun H1 locs hM hS => ?_)
  have hz := hz.put (show 0 < 121 by decide) 5 true
  refine lv_aload_n hx hb zd_X9_31 rfl (lv_at hl 0 rfl) ?_
  refine z_new X hM hS hbs (by omega) (ci := 8) rfl rfl hz zk_RX9_27 zs_RX8 wi_RX8 (Nat.le_of_ble_eq_true rfl) (Nat.le_of_ble_eq_true rfl) zd_X9_32 (fun H1 hM hS => ?_)
  have hz := hz.up (Nat.le_succ _)
  refine lv_dup hx hb zd_X9_35 rfl ?_
  refine z_call X hE hA hM hS hbs (by omega) (zc_X8 121 _ _ (by decide) hz) (Or.inr zl_RX9_29) zn_RX8 wi_RX8 zc_code8 rfl (by decide +kernel) ⟨(Nat.le_of_ble_eq_true rfl), (Nat.le_of_ble_eq_true rfl)⟩ hl.1 (Nat.le_of_ble_eq_true rfl) (Nat.le_of_ble_eq_true rfl) (Nat.le_of_ble_eq_true rfl) zd_X9_36 (fun H1 locs hM hS => ?_)
  have hz := zb_X8 (k := 121) hz
  refine z_putR X hin hM hS (k := 0) (ci := 9) (j := 6) (off := 121) (by decide) rfl rfl rfl (by decide) rfl zf_RX9_30 rfl rfl (tyX9_ok 6 (by decide)) (fun _ => ⟨rfl, rfl⟩) zd_X9_39 (fun H1 locs hM hS => ?_)
  have hz := hz.put (show 0 < 123 by decide) 6 true
  refine lv_aload_n hx hb zd_X9_42 rfl (lv_at hl 0 rfl) ?_
  refine z_new X hM hS hbs (by omega) (ci := 5) rfl rfl hz zk_RX9_34 zs_RX5 wi_RX5 (Nat.le_of_ble_eq_true rfl) (Nat.le_of_ble_eq_true rfl) zd_X9_43 (fun H1 hM hS => ?_)
  have hz := hz.up (Nat.le_succ _)
  refine lv_dup hx hb zd_X9_46 rfl ?_
  refine z_call X hE hA hM hS hbs (by omega) (zc_X5 123 _ _ (by decide) hz) (Or.inr zl_RX9_36) zn_RX5 wi_RX5 zc_code5 rfl (by decide +kernel) ⟨(Nat.le_of_ble_eq_true rfl), (Nat.le_of_ble_eq_true rfl)⟩ hl.1 (Nat.le_of_ble_eq_true rfl) (Nat.le_of_ble_eq_true rfl) (Nat.le_of_ble_eq_true rfl) zd_X9_47 (fun H1 locs hM hS => ?_)
  have hz := zb_X5 (k := 123) hz
  refine z_putR X hin hM hS (k := 0) (ci := 9) (j := 7) (off := 123) (by decide) rfl rfl rfl (by decide) rfl zf_RX9_37 rfl rfl (tyX9_ok 7 (by decide)) (fun _ => ⟨rfl, rfl⟩) zd_X9_50 (fun H1 locs hM hS => ?_)
  have hz := hz.put (show 0 < 126 by decide) 7 true
  refine lv_aload_n hx hb zd_X9_53 rfl (lv_at hl 0 rfl) ?_
  refine z_new X hM hS hbs (by omega) (ci := 4) rfl rfl hz zk_RX9_41 zs_RX4 wi_RX4 (Nat.le_of_ble_eq_true rfl) (Nat.le_of_ble_eq_true rfl) zd_X9_54 (fun H1 hM hS => ?_)
  have hz := hz.up (Nat.le_succ _)
  refine lv_dup hx hb zd_X9_57 rfl ?_
  refine z_call X hE hA hM hS hbs (by omega) (zc_X4 126 _ _ (by decide) hz) (Or.inr zl_RX9_43) zn_RX4 wi_RX4 zc_code4 rfl (by decide +kernel) ⟨(Nat.le_of_ble_eq_true rfl), (Nat.le_of_ble_eq_true rfl)⟩ hl.1 (Nat.le_of_ble_eq_true rfl) (Nat.le_of_ble_eq_true rfl) (Nat.le_of_ble_eq_true rfl) zd_X9_58 (fun H1 locs hM hS => ?_)
  have hz := zb_X4 (k := 126) hz
  refine z_putR X hin hM hS (k := 0) (ci := 9) (j := 8) (off := 126) (by decide) rfl rfl rfl (by decide) rfl zf_RX9_44 rfl rfl (tyX9_ok 8 (by decide)) (fun _ => ⟨rfl, rfl⟩) zd_X9_61 (fun H1 locs hM hS => ?_)
  have hz := hz.put (show 0 < 138 by decide) 8 true
  have hMM := MM_of hM (by decide +kernel)
  refine lv_aload_n hx hb zd_X9_64 rfl (lv_at hl 0 rfl) ?_
  refine gf_snd X (ci := 9) (j := 4) (t := 4) (k := 0) (pos := 469) (w := .fieldLink RX9 16 RX9 (TX9 4).2.1 (TX9 4).2.2.1) (by decide +kernel) (by decide +kernel) hMM rfl rfl zd_X9_65 ?_
  refine W.eq (g2 := F0 m 68 ls (([Value.ref 1].reverse ++ []).map (cv b sa))) rfl ?_
  refine callV_of (N := 138) (adV := adV) (np := 0) (ci := 1) ⟨X, hE, hbs⟩ (mX1_tellFirst hl0) wl_RX9_48 wn_X1_tellFirst ws_X1_tellFirst wi_RX1 wc_X1_tellFirst (T := TX1) (N1 := _) rfl (by decide +kernel) ⟨(Nat.le_of_ble_eq_true rfl), (Nat.le_of_ble_eq_true rfl)⟩ _ _ _ _ 68 ls [.ref 1] [] _ (fun v S' => v = none ∧ dskF (u2 S00.1 0 0 (-1), S00.2) S') (fun _ _ => False) rfl (e_tellFirst (by decide) _ (fun S' h => ⟨rfl, h⟩)) hMM hS hl.1 (by decide) zd_X9_68 (Nat.le_of_ble_eq_true rfl) (Nat.le_of_ble_eq_true rfl) (fun v S' H1 locs h1 hM1 hS1 => ?_) (fun E ce q S' H1 locs h1 => absurd h1 id)
  obtain ⟨rfl, h1⟩ := h1
  refine W.eq (g2 := F0 m 71 ls []) rfl ?_
  refine W.widen (k := 137) (n := 7771) (Nat.le_of_ble_eq_true rfl) (Nat.le_of_ble_eq_true rfl) ?_
  exact W.vret hx hb hr (fun t ht hW => ⟨⟨none, S', rfl, ⟨rfl, h1⟩, by rw [ht]; exact hM1⟩, hS1.F ht⟩) hS1.2.2 zd_X9_71
