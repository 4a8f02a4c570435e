/-! ===== constructors ===== -/
def tyL (j : Nat) : Nat × Nat × Nat × Nat := match j with
  | 0 => (0, 3, 0, 0)
  | _ => (1, 4, 0, 0)
def tyT8 (j : Nat) : Nat × Nat × Nat × Nat := match j with
  | 0 => (0, 8, 0, 0)
  | _ => (3, 400, 0, 0)
def tyP5 (j : Nat) : Nat × Nat × Nat × Nat := match j with
  | 0 => (0, 5, 0, 0)
  | _ => (1, 5, 0, 0)
theorem ts_4_1_3 : ∀ j, j < 2 → tyM (1 + j) = tyL j := by decide
theorem ts_4_3_3 : ∀ j, j < 2 → tyM (3 + j) = tyL j := by decide
theorem ts_0_3_3 : ∀ j, j < 2 → tyD (3 + j) = tyL j := by decide
theorem ts_0_5_4 : ∀ j, j < 12 → tyD (5 + j) = tyM j := by decide
def zX3 (Z : ZM) (k : Nat) : ZM := (u2 Z k 2 true)
theorem zo_X3 {Z : ZM} {k a : Nat} (h : a < k ∨ k + 2 ≤ a) : zX3 Z k a = Z a := by
  unfold zX3
  rw [u2_other _ _ _ (by omega)]
theorem zb_X3 {S : Mem} {Z : ZM} {k : Nat} (h : blnk S Z (k + 1)) : blnk S (zX3 Z k) (k + 2) := (h.up (by omega)).of (fun a ha => zo_X3 (by omega))
set_option maxRecDepth 20000 in
set_option maxHeartbeats 2000000 in
theorem zc_X3 {l : Launch} {b : Nat} {D : va_G} {cA sa adV : Nat → Nat} (k : Nat) (S : Mem) (Z : ZM) (hT : ∀ j, j < 2 → tyOf (k + j) = tyL j) (hz : blnk S Z (k + 1)) : CnZ l b D cA sa adV yX3_init cX3_init 1 1 12 1 4 k (k + 1) S Z (k + 2) S (zX3 Z k) := by
  refine CnZ_of (by decide +kernel) rfl (by decide) (fun p e s m below meth c ls K hl => ?_)
  obtain ⟨X, hin, hr, hE, hA, hM, hsz, hlk⟩ := K
  obtain ⟨hx, hb, hml, hown, hts, hK, hN⟩ := id X
  have hbs : b ≤ s.heap.size := by omega
  have hS : va_S (AB b) s.heap s.heap [] := va_S.rf
  refine lv_aload_n hx hb zd_X3_0 rfl (lv_at hl 0 rfl) ?_
  refine W.objInit hx hb hown (hts _ zo_RX3_3) (hts _ zw_oi) (hts _ zw_oc) rfl (by rw [hml]; exact hl.1) rfl zd_X3_1 (Nat.le_of_ble_eq_true rfl) (Nat.le_of_ble_eq_true rfl) ?_
  refine W.eq (g2 := F0 m 4 ls []) rfl ?_
  refine lv_aload_n hx hb zd_X3_4 rfl (lv_at hl 0 rfl) ?_
  refine lv_iconst (v := nI 4) hx hb zd_X3_5 (by decide) ?_
  refine z_newl X hM hS hbs (by omega) (k := 4) (hT 1 (by decide)) hz rfl (by decide) zw_long (Nat.le_of_ble_eq_true rfl) (Nat.le_of_ble_eq_true rfl) zd_X3_6 (fun H1 hM hS => ?_)
  have hz := hz.up (Nat.le_succ _)
  refine z_putR X hin hM hS (k := k) (ci := 3) (j := 2) (off := 1) (by omega) (hT 0 (by decide)) rfl rfl (by decide) rfl zf_RX3_9 rfl rfl (tyX3_ok 2 (by decide)) (fun _ => ⟨rfl, rfl⟩) zd_X3_8 (fun H1 locs hM hS => ?_)
  have hz := hz.put (show k < k + 2 by omega) 2 true
  refine W.widen (k := 1) (n := 4) (Nat.le_of_ble_eq_true rfl) (Nat.le_of_ble_eq_true rfl) ?_
  exact W.vret hx hb hr (fun t ht hW => ⟨⟨(), rfl, trivial, by show MZ _ b D cA S _ t.heap; rw [ht]; exact hM⟩, hS.F ht⟩) hS.2.2 zd_X3_11
def zX6 (Z : ZM) (k : Nat) : ZM := (u2 (u2 Z k 8 true) k 9 true)
theorem zo_X6 {Z : ZM} {k a : Nat} (h : a < k ∨ k + 3 ≤ a) : zX6 Z k a = Z a := by
  unfold zX6
  rw [u2_other _ _ _ (by omega), u2_other _ _ _ (by omega)]
theorem zb_X6 {S : Mem} {Z : ZM} {k : Nat} (h : blnk S Z (k + 1)) : blnk S (zX6 Z k) (k + 3) := (h.up (by omega)).of (fun a ha => zo_X6 (by omega))
set_option maxRecDepth 20000 in
set_option maxHeartbeats 2000000 in
theorem zc_X6 {l : Launch} {b : Nat} {D : va_G} {cA sa adV : Nat → Nat} (k : Nat) (S : Mem) (Z : ZM) (hT : ∀ j, j < 3 → tyOf (k + j) = tyP j) (hz : blnk S Z (k + 1)) : CnZ l b D cA sa adV yX6_init cX6_init 1 1 12 2 80 k (k + 1) S Z (k + 3) S (zX6 Z k) := by
  refine CnZ_of (by decide +kernel) rfl (by decide) (fun p e s m below meth c ls K hl => ?_)
  obtain ⟨X, hin, hr, hE, hA, hM, hsz, hlk⟩ := K
  obtain ⟨hx, hb, hml, hown, hts, hK, hN⟩ := id X
  have hbs : b ≤ s.heap.size := by omega
  have hS : va_S (AB b) s.heap s.heap [] := va_S.rf
  refine lv_aload_n hx hb zd_X6_0 rfl (lv_at hl 0 rfl) ?_
  refine W.objInit hx hb hown (hts _ zo_RX6_3) (hts _ zw_oi) (hts _ zw_oc) rfl (by rw [hml]; exact hl.1) rfl zd_X6_1 (Nat.le_of_ble_eq_true rfl) (Nat.le_of_ble_eq_true rfl) ?_
  refine W.eq (g2 := F0 m 4 ls []) rfl ?_
  refine lv_aload_n hx hb zd_X6_4 rfl (lv_at hl 0 rfl) ?_
  refine lv_bipush (v := nI 40) hx hb zd_X6_5 (by decide) ?_
  refine z_newl X hM hS hbs (by omega) (k := 40) (hT 1 (by decide)) hz rfl (by decide) zw_long (Nat.le_of_ble_eq_true rfl) (Nat.le_of_ble_eq_true rfl) zd_X6_7 (fun H1 hM hS => ?_)
  have hz := hz.up (Nat.le_succ _)
  refine z_putR X hin hM hS (k := k) (ci := 6) (j := 8) (off := 1) (by omega) (hT 0 (by decide)) rfl rfl (by decide) rfl zf_RX6_9 rfl rfl (tyX6_ok 8 (by decide)) (fun _ => ⟨rfl, rfl⟩) zd_X6_9 (fun H1 locs hM hS => ?_)
  have hz := hz.put (show k < k + 2 by omega) 8 true
  refine lv_aload_n hx hb zd_X6_12 rfl (lv_at hl 0 rfl) ?_
  refine lv_bipush (v := nI 40) hx hb zd_X6_13 (by decide) ?_
  refine z_newl X hM hS hbs (by omega) (k := 40) (hT 2 (by decide)) hz rfl (by decide) zw_long (Nat.le_of_ble_eq_true rfl) (Nat.le_of_ble_eq_true rfl) zd_X6_15 (fun H1 hM hS => ?_)
  have hz := hz.up (Nat.le_succ _)
  refine z_putR X hin hM hS (k := k) (ci := 6) (j := 9) (off := 2) (by omega) (hT 0 (by decide)) rfl rfl (by decide) rfl zf_RX6_15 rfl rfl (tyX6_ok 9 (by decide)) (fun _ => ⟨rfl, rfl⟩) zd_X6_17 (fun H1 locs hM hS => ?_)
  have hz := hz.put (show k < k + 3 by omega) 9 true
  refine W.widen (k := 2) (n := 80) (Nat.le_of_ble_eq_true rfl) (Nat.le_of_ble_eq_true rfl) ?_
  exact W.vret hx hb hr (fun t ht hW => ⟨⟨(), rfl, trivial, by show MZ _ b D cA S _ t.heap; rw [ht]; exact hM⟩, hS.F ht⟩) hS.2.2 zd_X6_20
def zX7 (Z : ZM) (k : Nat) : ZM := (u2 Z k 0 true)
theorem zo_X7 {Z : ZM} {k a : Nat} (h : a < k ∨ k + 2 ≤ a) : zX7 Z k a = Z a := by
  unfold zX7
  rw [u2_other _ _ _ (by omega)]
theorem zb_X7 {S : Mem} {Z : ZM} {k : Nat} (h : blnk S Z (k + 1)) : blnk S (zX7 Z k) (k + 2) := (h.up (by omega)).of (fun a ha => zo_X7 (by omega))
set_option maxRecDepth 20000 in
set_option maxHeartbeats 2000000 in
theorem zc_X7 {l : Launch} {b : Nat} {D : va_G} {cA sa adV : Nat → Nat} (k : Nat) (S : Mem) (Z : ZM) (hT : ∀ j, j < 2 → tyOf (k + j) = tyR j) (hz : blnk S Z (k + 1)) : CnZ l b D cA sa adV yX7_init cX7_init 1 1 12 1 716 k (k + 1) S Z (k + 2) S (zX7 Z k) := by
  refine CnZ_of (by decide +kernel) rfl (by decide) (fun p e s m below meth c ls K hl => ?_)
  obtain ⟨X, hin, hr, hE, hA, hM, hsz, hlk⟩ := K
  obtain ⟨hx, hb, hml, hown, hts, hK, hN⟩ := id X
  have hbs : b ≤ s.heap.size := by omega
  have hS : va_S (AB b) s.heap s.heap [] := va_S.rf
  refine lv_aload_n hx hb zd_X7_0 rfl (lv_at hl 0 rfl) ?_
  refine W.objInit hx hb hown (hts _ zo_RX7_3) (hts _ zw_oi) (hts _ zw_oc) rfl (by rw [hml]; exact hl.1) rfl zd_X7_1 (Nat.le_of_ble_eq_true rfl) (Nat.le_of_ble_eq_true rfl) ?_
  refine W.eq (g2 := F0 m 4 ls []) rfl ?_
  refine lv_aload_n hx hb zd_X7_4 rfl (lv_at hl 0 rfl) ?_
  refine lv_sipush (v := nI 716) hx hb zd_X7_5 (by decide) ?_
  refine z_newl X hM hS hbs (by omega) (k := 716) (hT 1 (by decide)) hz rfl (by decide) zw_long (Nat.le_of_ble_eq_true rfl) (Nat.le_of_ble_eq_true rfl) zd_X7_8 (fun H1 hM hS => ?_)
  have hz := hz.up (Nat.le_succ _)
  refine z_putR X hin hM hS (k := k) (ci := 7) (j := 0) (off := 1) (by omega) (hT 0 (by decide)) rfl rfl (by decide) rfl zf_RX7_9 rfl rfl (tyX7_ok 0 (by decide)) (fun _ => ⟨rfl, rfl⟩) zd_X7_10 (fun H1 locs hM hS => ?_)
  have hz := hz.put (show k < k + 2 by omega) 0 true
  refine W.widen (k := 1) (n := 716) (Nat.le_of_ble_eq_true rfl) (Nat.le_of_ble_eq_true rfl) ?_
  exact W.vret hx hb hr (fun t ht hW => ⟨⟨(), rfl, trivial, by show MZ _ b D cA S _ t.heap; rw [ht]; exact hM⟩, hS.F ht⟩) hS.2.2 zd_X7_13
def zX8 (Z : ZM) (k : Nat) : ZM := (u2 Z k 0 true)
theorem zo_X8 {Z : ZM} {k a : Nat} (h : a < k ∨ k + 2 ≤ a) : zX8 Z k a = Z a := by
  unfold zX8
  rw [u2_other _ _ _ (by omega)]
theorem zb_X8 {S : Mem} {Z : ZM} {k : Nat} (h : blnk S Z (k + 1)) : blnk S (zX8 Z k) (k + 2) := (h.up (by omega)).of (fun a ha => zo_X8 (by omega))
set_option maxRecDepth 20000 in
set_option maxHeartbeats 2000000 in
theorem zc_X8 {l : Launch} {b : Nat} {D : va_G} {cA sa adV : Nat → Nat} (k : Nat) (S : Mem) (Z : ZM) (hT : ∀ j, j < 2 → tyOf (k + j) = tyT8 j) (hz : blnk S Z (k + 1)) : CnZ l b D cA sa adV yX8_init cX8_init 1 1 12 1 400 k (k + 1) S Z (k + 2) S (zX8 Z k) := by
  refine CnZ_of (by decide +kernel) rfl (by decide) (fun p e s m below meth c ls K hl => ?_)
  obtain ⟨X, hin, hr, hE, hA, hM, hsz, hlk⟩ := K
  obtain ⟨hx, hb, hml, hown, hts, hK, hN⟩ := id X
  have hbs : b ≤ s.heap.size := by omega
  have hS : va_S (AB b) s.heap s.heap [] := va_S.rf
  refine lv_aload_n hx hb zd_X8_0 rfl (lv_at hl 0 rfl) ?_
  refine W.objInit hx hb hown (hts _ zo_RX8_3) (hts _ zw_oi) (hts _ zw_oc) rfl (by rw [hml]; exact hl.1) rfl zd_X8_1 (Nat.le_of_ble_eq_true rfl) (Nat.le_of_ble_eq_true rfl) ?_
  refine W.eq (g2 := F0 m 4 ls []) rfl ?_
  refine lv_aload_n hx hb zd_X8_4 rfl (lv_at hl 0 rfl) ?_
  refine lv_sipush (v := nI 400) hx hb zd_X8_5 (by decide) ?_
  refine z_newb X hM hS hbs (by omega) (k := 400) (hT 1 (by decide)) hz rfl (by decide) zw_byte (Nat.le_of_ble_eq_true rfl) (Nat.le_of_ble_eq_true rfl) zd_X8_8 (fun H1 hM hS => ?_)
  have hz := hz.up (Nat.le_succ _)
  refine z_putR X hin hM hS (k := k) (ci := 8) (j := 0) (off := 1) (by omega) (hT 0 (by decide)) rfl rfl (by decide) rfl zf_RX8_9 rfl rfl (tyX8_ok 0 (by decide)) (fun _ => ⟨rfl, rfl⟩) zd_X8_10 (fun H1 locs hM hS => ?_)
  have hz := hz.put (show k < k + 2 by omega) 0 true
  refine W.widen (k := 1) (n := 400) (Nat.le_of_ble_eq_true rfl) (Nat.le_of_ble_eq_true rfl) ?_
  exact W.vret hx hb hr (fun t ht hW => ⟨⟨(), rfl, trivial, by show MZ _ b D cA S _ t.heap; rw [ht]; exact hM⟩, hS.F ht⟩) hS.2.2 zd_X8_13
def zX5 (Z : ZM) (k : Nat) : ZM := (u2 (u2 Z k 0 true) k 1 true)
theorem zo_X5 {Z : ZM} {k a : Nat} (h : a < k ∨ k + 3 ≤ a) : zX5 Z k a = Z a := by
  unfold zX5
  rw [u2_other _ _ _ (by omega), u2_other _ _ _ (by omega)]
theorem zb_X5 {S : Mem} {Z : ZM} {k : Nat} (h : blnk S Z (k + 1)) : blnk S (zX5 Z k) (k + 3) := (h.up (by omega)).of (fun a ha => zo_X5 (by omega))
set_option maxRecDepth 20000 in
set_option maxHeartbeats 2000000 in
theorem zc_X5 {l : Launch} {b : Nat} {D : va_G} {cA sa adV : Nat → Nat} (k : Nat) (S : Mem) (Z : ZM) (hT : ∀ j, j < 3 → tyOf (k + j) = tyP5 j) (hz : blnk S Z (k + 1)) : CnZ l b D cA sa adV yX5_init cX5_init 1 1 12 2 10 k (k + 1) S Z (k + 3) S (zX5 Z k) := by
  refine CnZ_of (by decide +kernel) rfl (by decide) (fun p e s m below meth c ls K hl => ?_)
  obtain ⟨X, hin, hr, hE, hA, hM, hsz, hlk⟩ := K
  obtain ⟨hx, hb, hml, hown, hts, hK, hN⟩ := id X
  have hbs : b ≤ s.heap.size := by omega
  have hS : va_S (AB b) s.heap s.heap [] := va_S.rf
  refine lv_aload_n hx hb zd_X5_0 rfl (lv_at hl 0 rfl) ?_
  refine W.objInit hx hb hown (hts _ zo_RX5_3) (hts _ zw_oi) (hts _ zw_oc) rfl (by rw [hml]; exact hl.1) rfl zd_X5_1 (Nat.le_of_ble_eq_true rfl) (Nat.le_of_ble_eq_true rfl) ?_
  refine W.eq (g2 := F0 m 4 ls []) rfl ?_
  refine lv_aload_n hx hb zd_X5_4 rfl (lv_at hl 0 rfl) ?_
  refine lv_iconst (v := nI 5) hx hb zd_X5_5 (by decide) ?_
  refine z_newl X hM hS hbs (by omega) (k := 5) (hT 1 (by decide)) hz rfl (by decide) zw_long (Nat.le_of_ble_eq_true rfl) (Nat.le_of_ble_eq_true rfl) zd_X5_6 (fun H1 hM hS => ?_)
  have hz := hz.up (Nat.le_succ _)
  refine z_putR X hin hM hS (k := k) (ci := 5) (j := 0) (off := 1) (by omega) (hT 0 (by decide)) rfl rfl (by decide) rfl zf_RX5_9 rfl rfl (tyX5_ok 0 (by decide)) (fun _ => ⟨rfl, rfl⟩) zd_X5_8 (fun H1 locs hM hS => ?_)
  have hz := hz.put (show k < k + 2 by omega) 0 true
  refine lv_aload_n hx hb zd_X5_11 rfl (lv_at hl 0 rfl) ?_
  refine lv_iconst (v := nI 5) hx hb zd_X5_12 (by decide) ?_
  refine z_newl X hM hS hbs (by omega) (k := 5) (hT 2 (by decide)) hz rfl (by decide) zw_long (Nat.le_of_ble_eq_true rfl) (Nat.le_of_ble_eq_true rfl) zd_X5_13 (fun H1 hM hS => ?_)
  have hz := hz.up (Nat.le_succ _)
  refine z_putR X hin hM hS (k := k) (ci := 5) (j := 1) (off := 2) (by omega) (hT 0 (by decide)) rfl rfl (by decide) rfl zf_RX5_15 rfl rfl (tyX5_ok 1 (by decide)) (fun _ => ⟨rfl, rfl⟩) zd_X5_15 (fun H1 locs hM hS => ?_)
  have hz := hz.put (show k < k + 3 by omega) 1 true
  refine W.widen (k := 2) (n := 10) (Nat.le_of_ble_eq_true rfl) (Nat.le_of_ble_eq_true rfl) ?_
  exact W.vret hx hb hr (fun t ht hW => ⟨⟨(), rfl, trivial, by show MZ _ b D cA S _ t.heap; rw [ht]; exact hM⟩, hS.F ht⟩) hS.2.2 zd_X5_18
def zX4 (Z : ZM) (k : Nat) : ZM := (u2 (u2 (u2 (u2 (u2 (u2 (u2 (u2 (zX3 (u2 (zX3 Z (k + 1)) k 0 true) (k + 3)) k 1 true) k 2 true) k 8 true) k 9 true) k 10 true) k 11 true) k 12 true) k 13 true)
theorem zo_X4 {Z : ZM} {k a : Nat} (h : a < k ∨ k + 12 ≤ a) : zX4 Z k a = Z a := by
  unfold zX4
  rw [u2_other _ _ _ (by omega), u2_other _ _ _ (by omega), u2_other _ _ _ (by omega), u2_other _ _ _ (by omega), u2_other _ _ _ (by omega), u2_other _ _ _ (by omega), u2_other _ _ _ (by omega), u2_other _ _ _ (by omega), zo_X3 (by omega), u2_other _ _ _ (by omega), zo_X3 (by omega)]
theorem zb_X4 {S : Mem} {Z : ZM} {k : Nat} (h : blnk S Z (k + 1)) : blnk S (zX4 Z k) (k + 12) := (h.up (by omega)).of (fun a ha => zo_X4 (by omega))
set_option maxRecDepth 20000 in
set_option maxHeartbeats 2000000 in
theorem zc_X4 {l : Launch} {b : Nat} {D : va_G} {cA sa adV : Nat → Nat} (k : Nat) (S : Mem) (Z : ZM) (hT : ∀ j, j < 12 → tyOf (k + j) = tyM j) (hz : blnk S Z (k + 1)) : CnZ l b D cA sa adV yX4_init cX4_init 1 2 32 11 42 k (k + 1) S Z (k + 12) S (zX4 Z k) := by
  refine CnZ_of (by decide +kernel) rfl (by decide) (fun p e s m below meth c ls K hl => ?_)
  obtain ⟨X, hin, hr, hE, hA, hM, hsz, hlk⟩ := K
  obtain ⟨hx, hb, hml, hown, hts, hK, hN⟩ := id X
  have hbs : b ≤ s.heap.size := by omega
  have hS : va_S (AB b) s.heap s.heap [] := va_S.rf
  refine lv_aload_n hx hb zd_X4_0 rfl (lv_at hl 0 rfl) ?_
  refine W.objInit hx hb hown (hts _ zo_RX4_3) (hts _ zw_oi) (hts _ zw_oc) rfl (by rw [hml]; exact hl.1) rfl zd_X4_1 (Nat.le_of_ble_eq_true rfl) (Nat.le_of_ble_eq_true rfl) ?_
  refine W.eq (g2 := F0 m 4 ls []) rfl ?_
  refine lv_aload_n hx hb zd_X4_4 rfl (lv_at hl 0 rfl) ?_
  refine z_new X hM hS hbs (by omega) (ci := 3) rfl (hT 1 (by decide)) hz zk_RX4_9 zs_RX3 wi_RX3 (Nat.le_of_ble_eq_true rfl) (Nat.le_of_ble_eq_true rfl) zd_X4_5 (fun H1 hM hS => ?_)
  have hz := hz.up (Nat.le_succ _)
  refine lv_dup hx hb zd_X4_8 rfl ?_
  refine z_call X hE hA hM hS hbs (by omega) (zc_X3 (k + 1) S _ (fun j hj => by have h := hT (1 + j) (by omega); rw [← Nat.add_assoc] at h; rw [h]; exact ts_4_1_3 j hj) hz) (Or.inr zl_RX4_11) zn_RX3 wi_RX3 zc_code3 rfl (by decide +kernel) ⟨(Nat.le_of_ble_eq_true rfl), (Nat.le_of_ble_eq_true rfl)⟩ hl.1 (Nat.le_of_ble_eq_true rfl) (Nat.le_of_ble_eq_true rfl) (Nat.le_of_ble_eq_true rfl) zd_X4_9 (fun H1 locs hM hS => ?_)
  have hz := zb_X3 (k := (k + 1)) hz
  refine z_putR X hin hM hS (k := k) (ci := 4) (j := 0) (off := 1) (by omega) (hT 0 (by decide)) rfl rfl (by decide) rfl zf_RX4_12 rfl rfl (tyX4_ok 0 (by decide)) (fun _ => ⟨rfl, rfl⟩) zd_X4_12 (fun H1 locs hM hS => ?_)
  have hz := hz.put (show k < k + 3 by omega) 0 true
  refine lv_aload_n hx hb zd_X4_15 rfl (lv_at hl 0 rfl) ?_
  refine z_new X hM hS hbs (by omega) (ci := 3) rfl (hT 3 (by decide)) hz zk_RX4_9 zs_RX3 wi_RX3 (Nat.le_of_ble_eq_true rfl) (Nat.le_of_ble_eq_true rfl) zd_X4_16 (fun H1 hM hS => ?_)
  have hz := hz.up (Nat.le_succ _)
  refine lv_dup hx hb zd_X4_19 rfl ?_
  refine z_call X hE hA hM hS hbs (by omega) (zc_X3 (k + 3) S _ (fun j hj => by have h := hT (3 + j) (by omega); rw [← Nat.add_assoc] at h; rw [h]; exact ts_4_3_3 j hj) hz) (Or.inr zl_RX4_11) zn_RX3 wi_RX3 zc_code3 rfl (by decide +kernel) ⟨(Nat.le_of_ble_eq_true rfl), (Nat.le_of_ble_eq_true rfl)⟩ hl.1 (Nat.le_of_ble_eq_true rfl) (Nat.le_of_ble_eq_true rfl) (Nat.le_of_ble_eq_true rfl) zd_X4_20 (fun H1 locs hM hS => ?_)
  have hz := zb_X3 (k := (k + 3)) hz
  refine z_putR X hin hM hS (k := k) (ci := 4) (j := 1) (off := 3) (by omega) (hT 0 (by decide)) rfl rfl (by decide) rfl zf_RX4_18 rfl rfl (tyX4_ok 1 (by decide)) (fun _ => ⟨rfl, rfl⟩) zd_X4_23 (fun H1 locs hM hS => ?_)
  have hz := hz.put (show k < k + 5 by omega) 1 true
  refine lv_aload_n hx hb zd_X4_26 rfl (lv_at hl 0 rfl) ?_
  refine lv_iconst (v := nI 4) hx hb zd_X4_27 (by decide) ?_
  refine z_newl X hM hS hbs (by omega) (k := 4) (hT 5 (by decide)) hz rfl (by decide) zw_long (Nat.le_of_ble_eq_true rfl) (Nat.le_of_ble_eq_true rfl) zd_X4_28 (fun H1 hM hS => ?_)
  have hz := hz.up (Nat.le_succ _)
  refine z_putR X hin hM hS (k := k) (ci := 4) (j := 2) (off := 5) (by omega) (hT 0 (by decide)) rfl rfl (by decide) rfl zf_RX4_21 rfl rfl (tyX4_ok 2 (by decide)) (fun _ => ⟨rfl, rfl⟩) zd_X4_30 (fun H1 locs hM hS => ?_)
  have hz := hz.put (show k < k + 6 by omega) 2 true
  refine lv_aload_n hx hb zd_X4_33 rfl (lv_at hl 0 rfl) ?_
  refine lv_iconst (v := nI 4) hx hb zd_X4_34 (by decide) ?_
  refine z_newl X hM hS hbs (by omega) (k := 4) (hT 6 (by decide)) hz rfl (by decide) zw_long (Nat.le_of_ble_eq_true rfl) (Nat.le_of_ble_eq_true rfl) zd_X4_35 (fun H1 hM hS => ?_)
  have hz := hz.up (Nat.le_succ _)
  refine z_putR X hin hM hS (k := k) (ci := 4) (j := 8) (off := 6) (by omega) (hT 0 (by decide)) rfl rfl (by decide) rfl zf_RX4_25 rfl rfl (tyX4_ok 8 (by decide)) (fun _ => ⟨rfl, rfl⟩) zd_X4_37 (fun H1 locs hM hS => ?_)
  have hz := hz.put (show k < k + 7 by omega) 8 true
  refine lv_aload_n hx hb zd_X4_40 rfl (lv_at hl 0 rfl) ?_
  refine lv_iconst (v := nI 4) hx hb zd_X4_41 (by decide) ?_
  refine z_newl X hM hS hbs (by omega) (k := 4) (hT 7 (by decide)) hz rfl (by decide) zw_long (Nat.le_of_ble_eq_true rfl) (Nat.le_of_ble_eq_true rfl) zd_X4_42 (fun H1 hM hS => ?_)
  have hz := hz.up (Nat.le_succ _)
  refine z_putR X hin hM hS (k := k) (ci := 4) (j := 9) (off := 7) (by omega) (hT 0 (by decide)) rfl rfl (by decide) rfl zf_RX4_28 rfl rfl (tyX4_ok 9 (by decide)) (fun _ => ⟨rfl, rfl⟩) zd_X4_44 (fun H1 locs hM hS => ?_)
  have hz := hz.put (show k < k + 8 by omega) 9 true
  refine lv_aload_n hx hb zd_X4_47 rfl (lv_at hl 0 rfl) ?_
  refine lv_iconst (v := nI 4) hx hb zd_X4_48 (by decide) ?_
  refine z_newl X hM hS hbs (by omega) (k := 4) (hT 8 (by decide)) hz rfl (by decide) zw_long (Nat.le_of_ble_eq_true rfl) (Nat.le_of_ble_eq_true rfl) zd_X4_49 (fun H1 hM hS => ?_)
  have hz := hz.up (Nat.le_succ _)
  refine z_putR X hin hM hS (k := k) (ci := 4) (j := 10) (off := 8) (by omega) (hT 0 (by decide)) rfl rfl (by decide) rfl zf_RX4_31 rfl rfl (tyX4_ok 10 (by decide)) (fun _ => ⟨rfl, rfl⟩) zd_X4_51 (fun H1 locs hM hS => ?_)
  have hz := hz.put (show k < k + 9 by omega) 10 true
  refine lv_aload_n hx hb zd_X4_54 rfl (lv_at hl 0 rfl) ?_
  refine lv_iconst (v := nI 4) hx hb zd_X4_55 (by decide) ?_
  refine z_newl X hM hS hbs (by omega) (k := 4) (hT 9 (by decide)) hz rfl (by decide) zw_long (Nat.le_of_ble_eq_true rfl) (Nat.le_of_ble_eq_true rfl) zd_X4_56 (fun H1 hM hS => ?_)
  have hz := hz.up (Nat.le_succ _)
  refine z_putR X hin hM hS (k := k) (ci := 4) (j := 11) (off := 9) (by omega) (hT 0 (by decide)) rfl rfl (by decide) rfl zf_RX4_34 rfl rfl (tyX4_ok 11 (by decide)) (fun _ => ⟨rfl, rfl⟩) zd_X4_58 (fun H1 locs hM hS => ?_)
  have hz := hz.put (show k < k + 10 by omega) 11 true
  refine lv_aload_n hx hb zd_X4_61 rfl (lv_at hl 0 rfl) ?_
  refine lv_iconst (v := nI 4) hx hb zd_X4_62 (by decide) ?_
  refine z_newl X hM hS hbs (by omega) (k := 4) (hT 10 (by decide)) hz rfl (by decide) zw_long (Nat.le_of_ble_eq_true rfl) (Nat.le_of_ble_eq_true rfl) zd_X4_63 (fun H1 hM hS => ?_)
  have hz := hz.up (Nat.le_succ _)
  refine z_putR X hin hM hS (k := k) (ci := 4) (j := 12) (off := 10) (by omega) (hT 0 (by decide)) rfl rfl (by decide) rfl zf_RX4_37 rfl rfl (tyX4_ok 12 (by decide)) (fun _ => ⟨rfl, rfl⟩) zd_X4_65 (fun H1 locs hM hS => ?_)
  have hz := hz.put (show k < k + 11 by omega) 12 true
  refine lv_aload_n hx hb zd_X4_68 rfl (lv_at hl 0 rfl) ?_
  refine lv_iconst (v := nI 4) hx hb zd_X4_69 (by decide) ?_
  refine z_newl X hM hS hbs (by omega) (k := 4) (hT 11 (by decide)) hz rfl (by decide) zw_long (Nat.le_of_ble_eq_true rfl) (Nat.le_of_ble_eq_true rfl) zd_X4_70 (fun H1 hM hS => ?_)
  have hz := hz.up (Nat.le_succ _)
  refine z_putR X hin hM hS (k := k) (ci := 4) (j := 13) (off := 11) (by omega) (hT 0 (by decide)) rfl rfl (by decide) rfl zf_RX4_40 rfl rfl (tyX4_ok 13 (by decide)) (fun _ => ⟨rfl, rfl⟩) zd_X4_72 (fun H1 locs hM hS => ?_)
  have hz := hz.put (show k < k + 12 by omega) 13 true
  refine W.widen (k := 11) (n := 42) (Nat.le_of_ble_eq_true rfl) (Nat.le_of_ble_eq_true rfl) ?_
  exact W.vret hx hb hr (fun t ht hW => ⟨⟨(), rfl, trivial, by show MZ _ b D cA S _ t.heap; rw [ht]; exact hM⟩, hS.F ht⟩) hS.2.2 zd_X4_75
def zX0 (Z : ZM) (k : Nat) : ZM := (u2 (zX4 (u2 (zX3 (u2 (u2 Z k 5 true) k 11 true) (k + 3)) k 12 true) (k + 5)) k 13 true)
theorem zo_X0 {Z : ZM} {k a : Nat} (h : a < k ∨ k + 17 ≤ a) : zX0 Z k a = Z a := by
  unfold zX0
  rw [u2_other _ _ _ (by omega), zo_X4 (by omega), u2_other _ _ _ (by omega), zo_X3 (by omega), u2_other _ _ _ (by omega), u2_other _ _ _ (by omega)]
theorem zb_X0 {S : Mem} {Z : ZM} {k : Nat} (h : blnk S Z (k + 1)) : blnk S (zX0 Z k) (k + 17) := (h.up (by omega)).of (fun a ha => zo_X0 (by omega))
set_option maxRecDepth 20000 in
set_option maxHeartbeats 2000000 in
theorem zc_X0 {l : Launch} {b : Nat} {D : va_G} {cA sa adV : Nat → Nat} (k : Nat) (S : Mem) (Z : ZM) (hT : ∀ j, j < 17 → tyOf (k + j) = tyD j) (hz : blnk S Z (k + 1)) : CnZ l b D cA sa adV yX0_init cX0_init 1 3 52 16 73 k (k + 1) S Z (k + 17) S (zX0 Z k) := by
  refine CnZ_of (by decide +kernel) rfl (by decide) (fun p e s m below meth c ls K hl => ?_)
  obtain ⟨X, hin, hr, hE, hA, hM, hsz, hlk⟩ := K
  obtain ⟨hx, hb, hml, hown, hts, hK, hN⟩ := id X
  have hbs : b ≤ s.heap.size := by omega
  have hS : va_S (AB b) s.heap s.heap [] := va_S.rf
  refine lv_aload_n hx hb zd_X0_0 rfl (lv_at hl 0 rfl) ?_
  refine W.objInit hx hb hown (hts _ zo_RX0_3) (hts _ zw_oi) (hts _ zw_oc) rfl (by rw [hml]; exact hl.1) rfl zd_X0_1 (Nat.le_of_ble_eq_true rfl) (Nat.le_of_ble_eq_true rfl) ?_
  refine W.eq (g2 := F0 m 4 ls []) rfl ?_
  refine lv_aload_n hx hb zd_X0_4 rfl (lv_at hl 0 rfl) ?_
  refine lv_iconst (v := nI 2) hx hb zd_X0_5 (by decide) ?_
  refine z_newl X hM hS hbs (by omega) (k := 2) (hT 1 (by decide)) hz rfl (by decide) zw_long (Nat.le_of_ble_eq_true rfl) (Nat.le_of_ble_eq_true rfl) zd_X0_6 (fun H1 hM hS => ?_)
  have hz := hz.up (Nat.le_succ _)
  refine z_putR X hin hM hS (k := k) (ci := 0) (j := 5) (off := 1) (by omega) (hT 0 (by decide)) rfl rfl (by decide) rfl zf_RX0_9 rfl rfl (tyX0_ok 5 (by decide)) (fun _ => ⟨rfl, rfl⟩) zd_X0_8 (fun H1 locs hM hS => ?_)
  have hz := hz.put (show k < k + 2 by omega) 5 true
  refine lv_aload_n hx hb zd_X0_11 rfl (lv_at hl 0 rfl) ?_
  refine lv_iconst (v := nI 4) hx hb zd_X0_12 (by decide) ?_
  refine z_newl X hM hS hbs (by omega) (k := 4) (hT 2 (by decide)) hz rfl (by decide) zw_long (Nat.le_of_ble_eq_true rfl) (Nat.le_of_ble_eq_true rfl) zd_X0_13 (fun H1 hM hS => ?_)
  have hz := hz.up (Nat.le_succ _)
  refine z_putR X hin hM hS (k := k) (ci := 0) (j := 11) (off := 2) (by omega) (hT 0 (by decide)) rfl rfl (by decide) rfl zf_RX0_15 rfl rfl (tyX0_ok 11 (by decide)) (fun _ => ⟨rfl, rfl⟩) zd_X0_15 (fun H1 locs hM hS => ?_)
  have hz := hz.put (show k < k + 3 by omega) 11 true
  refine lv_aload_n hx hb zd_X0_18 rfl (lv_at hl 0 rfl) ?_
  refine z_new X hM hS hbs (by omega) (ci := 3) rfl (hT 3 (by decide)) hz zk_RX0_18 zs_RX3 wi_RX3 (Nat.le_of_ble_eq_true rfl) (Nat.le_of_ble_eq_true rfl) zd_X0_19 (fun H1 hM hS => ?_)
  have hz := hz.up (Nat.le_succ _)
  refine lv_dup hx hb zd_X0_22 rfl ?_
  refine z_call X hE hA hM hS hbs (by omega) (zc_X3 (k + 3) S _ (fun j hj => by have h := hT (3 + j) (by omega); rw [← Nat.add_assoc] at h; rw [h]; exact ts_0_3_3 j hj) hz) (Or.inr zl_RX0_20) zn_RX3 wi_RX3 zc_code3 rfl (by decide +kernel) ⟨(Nat.le_of_ble_eq_true rfl), (Nat.le_of_ble_eq_true rfl)⟩ hl.1 (Nat.le_of_ble_eq_true rfl) (Nat.le_of_ble_eq_true rfl) (Nat.le_of_ble_eq_true rfl) zd_X0_23 (fun H1 locs hM hS => ?_)
  have hz := zb_X3 (k := (k + 3)) hz
  refine z_putR X hin hM hS (k := k) (ci := 0) (j := 12) (off := 3) (by omega) (hT 0 (by decide)) rfl rfl (by decide) rfl zf_RX0_21 rfl rfl (tyX0_ok 12 (by decide)) (fun _ => ⟨rfl, rfl⟩) zd_X0_26 (fun H1 locs hM hS => ?_)
  have hz := hz.put (show k < k + 5 by omega) 12 true
  refine lv_aload_n hx hb zd_X0_29 rfl (lv_at hl 0 rfl) ?_
  refine z_new X hM hS hbs (by omega) (ci := 4) rfl (hT 5 (by decide)) hz zk_RX0_25 zs_RX4 wi_RX4 (Nat.le_of_ble_eq_true rfl) (Nat.le_of_ble_eq_true rfl) zd_X0_30 (fun H1 hM hS => ?_)
  have hz := hz.up (Nat.le_succ _)
  refine lv_dup hx hb zd_X0_33 rfl ?_
  refine z_call X hE hA hM hS hbs (by omega) (zc_X4 (k + 5) S _ (fun j hj => by have h := hT (5 + j) (by omega); rw [← Nat.add_assoc] at h; rw [h]; exact ts_0_5_4 j hj) hz) (Or.inr zl_RX0_27) zn_RX4 wi_RX4 zc_code4 rfl (by decide +kernel) ⟨(Nat.le_of_ble_eq_true rfl), (Nat.le_of_ble_eq_true rfl)⟩ hl.1 (Nat.le_of_ble_eq_true rfl) (Nat.le_of_ble_eq_true rfl) (Nat.le_of_ble_eq_true rfl) zd_X0_34 (fun H1 locs hM hS => ?_)
  have hz := zb_X4 (k := (k + 5)) hz
  refine z_putR X hin hM hS (k := k) (ci := 0) (j := 13) (off := 5) (by omega) (hT 0 (by decide)) rfl rfl (by decide) rfl zf_RX0_28 rfl rfl (tyX0_ok 13 (by decide)) (fun _ => ⟨rfl, rfl⟩) zd_X0_37 (fun H1 locs hM hS => ?_)
  have hz := hz.put (show k < k + 17 by omega) 13 true
  refine W.widen (k := 16) (n := 73) (Nat.le_of_ble_eq_true rfl) (Nat.le_of_ble_eq_true rfl) ?_
  exact W.vret hx hb hr (fun t ht hW => ⟨⟨(), rfl, trivial, by show MZ _ b D cA S _ t.heap; rw [ht]; exact hM⟩, hS.F ht⟩) hS.2.2 zd_X0_40
