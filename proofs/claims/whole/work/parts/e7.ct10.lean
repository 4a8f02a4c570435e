theorem zr0 {X : Nat → Nat → Int64} {k n : Nat} (h : X k = fun _ => 0) : zr X k n k = fun _ => 0 := by
  funext i
  unfold zr
  rw [h]
  simp
theorem dp_1 {X Y : Nat → Nat → Int64} {j : Nat} {a b c d e f : Int64} (h : Y 141 = wDepL (u2 (u2 X 141 2 1) 141 j 1 141) 0 a b c d e f) : Y 141 = wDepL (u1L (u1L (X 141) 2 1) j 1) 0 a b c d e f := by
  rw [h, u2_rowL, u2_rowL]
theorem dp_2 {X Y : Nat → Nat → Int64} {j : Nat} (h : ∀ c, c ≠ 141 → Y c = u2 (u2 (zr X 141 754) 141 2 1) 141 j 1 c) : ∀ c, c ≠ 141 → Y c = X c := fun c hc => by
  rw [h c hc, u2_other _ _ _ hc, u2_other _ _ _ hc]
  exact funext fun i => zr_k hc
def wIni : Nat → Int64 := u1L (u1L (u1L (wDepL (u1L (u1L (fun _ => 0) 2 1) 0 1) 0 1 100 0 0 (-1) (-1)) 1 1) 50 100) 51 100
set_option maxRecDepth 20000 in
set_option maxHeartbeats 4000000 in
theorem zc_X10 {l : Launch} (hl0 : l.stackTraces = false) {b : Nat} {D : va_G} {cA sa adV : Nat → Nat} (S : Mem) (hz : blnk S (zW 138) 139) : CnY l b D cA sa adV yX10_init cX10_init 1 1 26 16 8715 138 139 S (zW 138) 155 (fun v S' => v = none ∧ S'.1 = u2 S.1 138 5 (-1) ∧ (∀ c, c ≠ 141 → S'.2 c = S.2 c) ∧ S'.2 141 = wIni) := by
  have hz0 := hz
  refine CnY_of (by decide +kernel) rfl (by decide) (fun p e s m below meth c ls K hl => ?_)
  obtain ⟨X, hin, hr, hE, hA, hM, hsz, hlk⟩ := K
  obtain ⟨hx, hb, hml, hown, hts, hK, hN⟩ := id X
  have hbs : b ≤ s.heap.size := by omega
  have hS : va_S (AB b) s.heap s.heap [] := va_S.rf
  refine lv_aload_n hx hb zd_X10_0 rfl (lv_at hl 0 rfl) ?_
  refine W.objInit hx hb hown (hts _ zo_RX10_3) (hts _ zw_oi) (hts _ zw_oc) rfl (by rw [hml]; exact hl.1) rfl zd_X10_1 (Nat.le_of_ble_eq_true rfl) (Nat.le_of_ble_eq_true rfl) ?_
  refine W.eq (g2 := F0 m 4 ls []) rfl ?_
  refine lv_aload_n hx hb zd_X10_4 rfl (lv_at hl 0 rfl) ?_
  refine lv_iconst (v := nI 3) hx hb zd_X10_5 (by decide) ?_
  refine z_newi X hM hS hbs (by omega) (k := 3) rfl hz rfl (by decide) zw_int (Nat.le_of_ble_eq_true rfl) (Nat.le_of_ble_eq_true rfl) zd_X10_6 (fun H1 hM hS => ?_)
  have hz := hz.up (Nat.le_succ _)
  refine z_putR X hin hM hS (k := 138) (ci := 10) (j := 1) (off := 1) (by decide) rfl rfl rfl (by decide) rfl zf_RX10_9 rfl rfl (tyX10_ok 1 (by decide)) (fun _ => ⟨rfl, rfl⟩) zd_X10_8 (fun H1 locs hM hS => ?_)
  have hz := hz.put (show 138 < 140 by decide) 1 true
  refine lv_aload_n hx hb zd_X10_11 rfl (lv_at hl 0 rfl) ?_
  refine lv_iconst (v := -1) hx hb zd_X10_12 (by decide) ?_
  refine z_puti X hM hS (k := 138) (ci := 10) (j := 5) (v := -1) (by decide) rfl rfl rfl (by decide) rfl zf_RX10_13 rfl rfl zd_X10_13 (fun H1 locs hM hS => ?_)
  have hz := hz.puti (show 138 < 140 by decide) 5 (-1)
  refine lv_aload_n hx hb zd_X10_16 rfl (lv_at hl 0 rfl) ?_
  refine lv_sipush (v := nI 400) hx hb zd_X10_17 (by decide) ?_
  refine z_newi X hM hS hbs (by omega) (k := 400) rfl hz rfl (by decide) zw_int (Nat.le_of_ble_eq_true rfl) (Nat.le_of_ble_eq_true rfl) zd_X10_20 (fun H1 hM hS => ?_)
  have hz := hz.up (Nat.le_succ _)
  refine z_putR X hin hM hS (k := 138) (ci := 10) (j := 8) (off := 2) (by decide) rfl rfl rfl (by decide) rfl zf_RX10_17 rfl rfl (tyX10_ok 8 (by decide)) (fun _ => ⟨rfl, rfl⟩) zd_X10_22 (fun H1 locs hM hS => ?_)
  have hz := hz.put (show 138 < 141 by decide) 8 true
  refine lv_aload_n hx hb zd_X10_25 rfl (lv_at hl 0 rfl) ?_
  refine lv_sipush (v := nI 754) hx hb zd_X10_26 (by decide) ?_
  refine z_newl X hM hS hbs (by omega) (k := 754) rfl hz rfl (by decide) zw_long (Nat.le_of_ble_eq_true rfl) (Nat.le_of_ble_eq_true rfl) zd_X10_29 (fun H1 hM hS => ?_)
  have hz := hz.up (Nat.le_succ _)
  refine z_putR X hin hM hS (k := 138) (ci := 10) (j := 9) (off := 3) (by decide) rfl rfl rfl (by decide) rfl zf_RX10_20 rfl rfl (tyX10_ok 9 (by decide)) (fun _ => ⟨rfl, rfl⟩) zd_X10_31 (fun H1 locs hM hS => ?_)
  have hz := hz.put (show 138 < 142 by decide) 9 true
  refine lv_aload_n hx hb zd_X10_34 rfl (lv_at hl 0 rfl) ?_
  refine lv_sipush (v := nI 754) hx hb zd_X10_35 (by decide) ?_
  refine z_newl X hM hS hbs (by omega) (k := 754) rfl hz rfl (by decide) zw_long (Nat.le_of_ble_eq_true rfl) (Nat.le_of_ble_eq_true rfl) zd_X10_38 (fun H1 hM hS => ?_)
  have hz := hz.up (Nat.le_succ _)
  refine z_putR X hin hM hS (k := 138) (ci := 10) (j := 10) (off := 4) (by decide) rfl rfl rfl (by decide) rfl zf_RX10_24 rfl rfl (tyX10_ok 10 (by decide)) (fun _ => ⟨rfl, rfl⟩) zd_X10_40 (fun H1 locs hM hS => ?_)
  have hz := hz.put (show 138 < 143 by decide) 10 true
  refine lv_aload_n hx hb zd_X10_43 rfl (lv_at hl 0 rfl) ?_
  refine lv_sipush (v := nI 754) hx hb zd_X10_44 (by decide) ?_
  refine z_newl X hM hS hbs (by omega) (k := 754) rfl hz rfl (by decide) zw_long (Nat.le_of_ble_eq_true rfl) (Nat.le_of_ble_eq_true rfl) zd_X10_47 (fun H1 hM hS => ?_)
  have hz := hz.up (Nat.le_succ _)
  refine z_putR X hin hM hS (k := 138) (ci := 10) (j := 11) (off := 5) (by decide) rfl rfl rfl (by decide) rfl zf_RX10_27 rfl rfl (tyX10_ok 11 (by decide)) (fun _ => ⟨rfl, rfl⟩) zd_X10_49 (fun H1 locs hM hS => ?_)
  have hz := hz.put (show 138 < 144 by decide) 11 true
  refine lv_aload_n hx hb zd_X10_52 rfl (lv_at hl 0 rfl) ?_
  refine lv_bipush (v := nI 8) hx hb zd_X10_53 (by decide) ?_
  refine lv_sipush (v := nI 754) hx hb zd_X10_55 (by decide) ?_
  refine z_mna X hM hS hbs (by omega) hz zw_mna hA.2.2.2 zw_long (Nat.le_of_ble_eq_true rfl) (Nat.le_of_ble_eq_true rfl) zd_X10_58 (fun H1 hM hS => ?_)
  have hz := hz.put9
  refine z_putR X hin hM hS (k := 138) (ci := 10) (j := 12) (off := 6) (by decide) rfl rfl rfl (by decide) rfl zf_RX10_32 rfl rfl (tyX10_ok 12 (by decide)) (fun _ => ⟨rfl, rfl⟩) zd_X10_62 (fun H1 locs hM hS => ?_)
  have hz := hz.put (show 138 < 153 by decide) 12 true
  refine lv_aload_n hx hb zd_X10_65 rfl (lv_at hl 0 rfl) ?_
  refine lv_iconst (v := nI 5) hx hb zd_X10_66 (by decide) ?_
  refine z_newl X hM hS hbs (by omega) (k := 5) rfl hz rfl (by decide) zw_long (Nat.le_of_ble_eq_true rfl) (Nat.le_of_ble_eq_true rfl) zd_X10_67 (fun H1 hM hS => ?_)
  have hz := hz.up (Nat.le_succ _)
  refine z_putR X hin hM hS (k := 138) (ci := 10) (j := 15) (off := 15) (by decide) rfl rfl rfl (by decide) rfl zf_RX10_35 rfl rfl (tyX10_ok 15 (by decide)) (fun _ => ⟨rfl, rfl⟩) zd_X10_69 (fun H1 locs hM hS => ?_)
  have hz := hz.put (show 138 < 154 by decide) 15 true
  refine lv_aload_n hx hb zd_X10_72 rfl (lv_at hl 0 rfl) ?_
  refine lv_iconst (v := nI 5) hx hb zd_X10_73 (by decide) ?_
  refine z_newl X hM hS hbs (by omega) (k := 5) rfl hz rfl (by decide) zw_long (Nat.le_of_ble_eq_true rfl) (Nat.le_of_ble_eq_true rfl) zd_X10_74 (fun H1 hM hS => ?_)
  have hz := hz.up (Nat.le_succ _)
  refine z_putR X hin hM hS (k := 138) (ci := 10) (j := 16) (off := 16) (by decide) rfl rfl rfl (by decide) rfl zf_RX10_38 rfl rfl (tyX10_ok 16 (by decide)) (fun _ => ⟨rfl, rfl⟩) zd_X10_76 (fun H1 locs hM hS => ?_)
  have hz := hz.put (show 138 < 155 by decide) 16 true
  have hMM := MM_of hM (by decide +kernel)
  refine lv_aload_n hx hb zd_X10_79 rfl (lv_at hl 0 rfl) ?_
  refine gf_snd X (ci := 10) (j := 9) (t := 6) (k := 138) (pos := 1261) (w := .fieldLink RX10 20 RX10 (TX10 9).2.1 (TX10 9).2.2.1) (by decide +kernel) (by decide +kernel) hMM rfl rfl zd_X10_80 ?_
  refine W.eq (g2 := F0 m 83 ls (([Value.ref 141].reverse ++ []).map (cv b sa))) rfl ?_
  refine callS_of (N := 155) (adV := adV) (np := 1) ⟨X, hE, hbs⟩ (mX10_begins hl0) wl_RX10_41 wt_X10_begins wi_RX10 wc_X10_begins (by decide +kernel) ⟨(Nat.le_of_ble_eq_true rfl), (Nat.le_of_ble_eq_true rfl)⟩ _ _ _ _ 83 ls [.ref 141] [] _ (fun v S' => v = none ∧ S' = (u2 S.1 138 5 (-1), u2 (zr S.2 141 754) 141 2 1)) (fun _ _ => False) rfl (e_begins rfl _ ⟨rfl, rfl⟩) hMM hS hl.1 (by decide) zd_X10_83 (Nat.le_of_ble_eq_true rfl) (Nat.le_of_ble_eq_true rfl) (fun v S' H1 locs h1 hMM hS => ?_) (fun E ce q S' H1 locs h1 => absurd h1 id)
  obtain ⟨rfl, rfl⟩ := h1
  refine W.eq (g2 := F0 m 86 ls []) rfl ?_
  refine lv_aload_n hx hb zd_X10_86 rfl (lv_at hl 0 rfl) ?_
  refine gf_snd X (ci := 10) (j := 9) (t := 6) (k := 138) (pos := 1261) (w := .fieldLink RX10 20 RX10 (TX10 9).2.1 (TX10 9).2.2.1) (by decide +kernel) (by decide +kernel) hMM rfl rfl zd_X10_87 ?_
  refine lv_iconst (v := nI 0) hx hb zd_X10_90 (by decide) ?_
  refine lv_lconst (v := 1) hx hb zd_X10_91 rfl ?_
  refine ls_snd X (N := 155) (k := 141) (n := 754) (x := nI 0) (v := 1) hMM hS rfl (vp_nI (by decide)) zd_X10_92 (fun H1 locs hMM hS => ?_)
  refine lv_aload_n hx hb zd_X10_93 rfl (lv_at hl 0 rfl) ?_
  refine gf_snd X (ci := 10) (j := 9) (t := 6) (k := 138) (pos := 1261) (w := .fieldLink RX10 20 RX10 (TX10 9).2.1 (TX10 9).2.2.1) (by decide +kernel) (by decide +kernel) hMM rfl rfl zd_X10_94 ?_
  refine lv_iconst (v := nI 0) hx hb zd_X10_97 (by decide) ?_
  refine lv_iconst (v := 1) hx hb zd_X10_98 (by decide) ?_
  refine lv_bipush (v := 100) hx hb zd_X10_99 (by decide) ?_
  refine lv_iconst (v := 0) hx hb zd_X10_101 (by decide) ?_
  refine lv_iconst (v := 0) hx hb zd_X10_102 (by decide) ?_
  refine W.eq (g2 := F0 m 103 ls (([Value.ref 141, .int (nI 0), .int 1, .int 100, .int 0, .int 0].reverse ++ []).map (cv b sa))) rfl ?_
  refine callS_of (N := 155) (adV := adV) (np := 6) ⟨X, hE, hbs⟩ (mX10_dept hl0) wl_RX10_45 wt_X10_dept wi_RX10 wc_X10_dept (by decide +kernel) ⟨(Nat.le_of_ble_eq_true rfl), (Nat.le_of_ble_eq_true rfl)⟩ _ _ _ _ 103 ls [.ref 141, .int (nI 0), .int 1, .int 100, .int 0, .int 0] [] _ (fun v S' => v = none ∧ ∃ Y : Nat → Nat → Int64, S' = (u2 S.1 138 5 (-1), Y) ∧ Y 141 = wDepL (u1L (u1L (zr S.2 141 754 141) 2 1) (nI 0).toNatClampNeg 1) 0 1 100 0 0 (-1) (-1) ∧ ∀ c, c ≠ 141 → Y c = S.2 c) (fun _ _ => False) rfl (e_mdept rfl (by decide) _ _ _ _ _ (fun Y y1 y2 => ⟨rfl, Y, rfl, dp_1 y1, dp_2 y2⟩)) hMM hS hl.1 (by decide) zd_X10_103 (Nat.le_of_ble_eq_true rfl) (Nat.le_of_ble_eq_true rfl) (fun v S' H1 locs h1 hMM hS => ?_) (fun E ce q S' H1 locs h1 => absurd h1 id)
  obtain ⟨rfl, Y, rfl, y1, y2⟩ := h1
  refine W.eq (g2 := F0 m 106 ls []) rfl ?_
  refine lv_aload_n hx hb zd_X10_106 rfl (lv_at hl 0 rfl) ?_
  refine gf_snd X (ci := 10) (j := 9) (t := 6) (k := 138) (pos := 1261) (w := .fieldLink RX10 20 RX10 (TX10 9).2.1 (TX10 9).2.2.1) (by decide +kernel) (by decide +kernel) hMM rfl rfl zd_X10_107 ?_
  refine lv_iconst (v := nI 1) hx hb zd_X10_110 (by decide) ?_
  refine lv_lconst (v := 1) hx hb zd_X10_111 rfl ?_
  refine ls_snd X (N := 155) (k := 141) (n := 754) (x := nI 1) (v := 1) hMM hS rfl (vp_nI (by decide)) zd_X10_112 (fun H1 locs hMM hS => ?_)
  refine lv_aload_n hx hb zd_X10_113 rfl (lv_at hl 0 rfl) ?_
  refine gf_snd X (ci := 10) (j := 9) (t := 6) (k := 138) (pos := 1261) (w := .fieldLink RX10 20 RX10 (TX10 9).2.1 (TX10 9).2.2.1) (by decide +kernel) (by decide +kernel) hMM rfl rfl zd_X10_114 ?_
  refine lv_bipush (v := nI 50) hx hb zd_X10_117 (by decide) ?_
  refine lv_ldc2 (v := 100) hx hb hown (hts _ zw_c49) zd_X10_119 ?_
  refine ls_snd X (N := 155) (k := 141) (n := 754) (x := nI 50) (v := 100) hMM hS rfl (vp_nI (by decide)) zd_X10_122 (fun H1 locs hMM hS => ?_)
  refine lv_aload_n hx hb zd_X10_123 rfl (lv_at hl 0 rfl) ?_
  refine gf_snd X (ci := 10) (j := 9) (t := 6) (k := 138) (pos := 1261) (w := .fieldLink RX10 20 RX10 (TX10 9).2.1 (TX10 9).2.2.1) (by decide +kernel) (by decide +kernel) hMM rfl rfl zd_X10_124 ?_
  refine lv_bipush (v := nI 51) hx hb zd_X10_127 (by decide) ?_
  refine lv_ldc2 (v := 100) hx hb hown (hts _ zw_c49) zd_X10_129 ?_
  refine ls_snd X (N := 155) (k := 141) (n := 754) (x := nI 51) (v := 100) hMM hS rfl (vp_nI (by decide)) zd_X10_132 (fun H1 locs hMM hS => ?_)
  refine W.widen (k := 16) (n := 8715) (Nat.le_of_ble_eq_true rfl) (Nat.le_of_ble_eq_true rfl) ?_
  refine W.vret hx hb hr (fun t ht hW => ⟨⟨none, _, rfl, ⟨rfl, rfl, fun c hc => ?_, ?_⟩, by rw [ht]; exact hMM⟩, hS.F ht⟩) hS.2.2 zd_X10_133
  · show u2 (u2 (u2 Y 141 _ 1) 141 _ 100) 141 _ 100 c = S.2 c
    rw [u2_other _ _ _ hc, u2_other _ _ _ hc, u2_other _ _ _ hc]; exact y2 c hc
  · show u2 (u2 (u2 Y 141 (nI 1).toNatClampNeg 1) 141 (nI 50).toNatClampNeg 100) 141 (nI 51).toNatClampNeg 100 141 = wIni
    rw [u2_rowL, u2_rowL, u2_rowL, y1, zr0 (hz0 141 (by decide)).2.1]; rfl
