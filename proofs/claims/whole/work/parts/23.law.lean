def kL_law (N : Nat) : List (Nat × Nat × SP) := [(6, 0, vsp N 9 (sX9_feed N)), (6, 0, vsp N 10 (sX10_feed N)), (3, 1, nsp (sL_text N)), (2, 0, vsp N 10 (sX10_text N)), (1, 0, vsp N 10 (sX10_thrown N)), (1, 0, vsp N 9 (sX9_fault N)), (1, 0, vsp N 10 (sX10_fault N)), (3, 2, nsp (sL_start N)), (2, 0, vsp N 10 (sX10_start N)), (5, 4, nsp (sL_spend N)), (4, 0, vsp N 10 (sX10_spend N)), (4, 2, nsp (sL_lost N)), (3, 0, vsp N 10 (sX10_lost N)), (5, 3, nsp (sL_left N)), (4, 0, vsp N 10 (sX10_left N)), (2, 1, nsp (sL_close N)), (1, 0, vsp N 10 (sX10_close N)), (4, 3, nsp (sL_sell N)), (3, 0, vsp N 10 (sX10_sell N)), (1, 0, vsp N 9 (sX9_undo N)), (1, 0, vsp N 10 (sX10_undo N)), (3, 1, nsp (sL_told N)), (2, 0, vsp N 10 (sX10_told N)), (4, 2, nsp (sL_department N)), (3, 0, vsp N 10 (sX10_department N)), (4, 2, nsp (sL_product N)), (3, 0, vsp N 10 (sX10_product N)), (4, 2, nsp (sL_work N)), (3, 0, vsp N 10 (sX10_work N)), (4, 2, nsp (sL_units N)), (3, 0, vsp N 10 (sX10_units N)), (5, 3, nsp (sL_asDone N)), (4, 0, vsp N 10 (sX10_asDone N)), (5, 3, nsp (sL_cents N)), (4, 0, vsp N 10 (sX10_cents N)), (4, 2, nsp (sL_loss N)), (3, 0, vsp N 10 (sX10_loss N)), (3, 1, nsp (sL_other N)), (2, 0, vsp N 10 (sX10_other N)), (4, 2, nsp (sL_parted N)), (3, 0, vsp N 10 (sX10_parted N)), (4, 2, nsp (sL_store N)), (3, 0, vsp N 10 (sX10_store N)), (5, 3, nsp (sL_layer N)), (4, 0, vsp N 10 (sX10_layer N)), (3, 1, nsp (sL_account N)), (2, 0, vsp N 10 (sX10_account N)), (4, 3, nsp (sL_plan N)), (3, 0, vsp N 10 (sX10_plan N)), (1, 0, vsp N 9 (sX9_print N)), (1, 0, vsp N 10 (sX10_print N)), (2, 0, vsp N 9 (sX9_status N)), (2, 0, vsp N 10 (sX10_status N))]
set_option maxHeartbeats 4000000 in
set_option maxRecDepth 20000 in
theorem hC_law {l : Launch} {N b : Nat} {D : va_G} {cA sa adV : Nat → Nat} (hl : l.stackTraces = false) (p : Program) (e : Env) (s : State) (m : MethodId) (args : Array Value) (below : List Frame) (meth : Method) (c : Code) (Q : State → Prop) (Y : CY p s m args c cL_law 8 RL N b D cA sa adV) : ∀ q : PI, q ∈ pL_law → ∀ (k na mc : Nat) (tr : SP), q.2.2.1 = [k] → (kL_law N)[k]? = some (na, mc, tr) → ((∃ x, q.2.2.2.2.2 = .invokevirtual x) ∨ ∃ x, q.2.2.2.2.2 = .invokestatic x) → CallR p l e room_1 s m args below meth c N b D cA sa 8 cL_law Q q.2.2.2.2.2 na mc tr := by
  intro q hq k na mc tr ha hc hi
  have hchk : pL_law.all (chkK [(0, 89), (0, 93), (1, 94), (0, 99), (0, 100), (0, 104), (0, 107), (1, 108), (0, 110), (1, 111), (0, 114), (1, 115), (0, 118), (1, 119), (0, 121), (1, 122), (0, 125), (1, 126), (0, 128), (0, 129), (0, 132), (1, 133), (0, 135), (1, 136), (0, 138), (1, 139), (0, 141), (1, 142), (0, 144), (1, 145), (0, 147), (1, 148), (0, 150), (1, 151), (0, 153), (1, 154), (0, 156), (1, 157), (0, 159), (1, 160), (0, 162), (1, 163), (0, 165), (1, 166), (0, 168), (1, 169), (0, 171), (1, 172), (0, 174), (0, 175), (0, 178), (0, 179), (0, 182)]) = true := by decide +kernel
  have h1 := List.all_eq_true.mp hchk q hq
  have key : ∀ (k kd x na mc : Nat) (tr : SP), ([(0, 89), (0, 93), (1, 94), (0, 99), (0, 100), (0, 104), (0, 107), (1, 108), (0, 110), (1, 111), (0, 114), (1, 115), (0, 118), (1, 119), (0, 121), (1, 122), (0, 125), (1, 126), (0, 128), (0, 129), (0, 132), (1, 133), (0, 135), (1, 136), (0, 138), (1, 139), (0, 141), (1, 142), (0, 144), (1, 145), (0, 147), (1, 148), (0, 150), (1, 151), (0, 153), (1, 154), (0, 156), (1, 157), (0, 159), (1, 160), (0, 162), (1, 163), (0, 165), (1, 166), (0, 168), (1, 169), (0, 171), (1, 172), (0, 174), (0, 175), (0, 178), (0, 179), (0, 182)] : List (Nat × Nat))[k]? = some (kd, x) → (kL_law N)[k]? = some (na, mc, tr) → CallR p l e room_1 s m args below meth c N b D cA sa 8 cL_law Q (insK kd x) na mc tr := by
    intro k kd x na mc tr h1 h2
    match k, h1, h2 with
    | 0, h1, h2 => cases h1; cases h2; exact callV_of Y (mX9_feed hl) wl_RL_89 wn_X9_feed ws_X9_feed wi_RX9 wc_X9_feed (T := TX9) (N1 := _) rfl (by decide +kernel) ⟨by decide, by decide⟩
    | 1, h1, h2 => cases h1; cases h2; exact callV_of Y (mX10_feed hl) wl_RL_93 wn_X10_feed ws_X10_feed wi_RX10 wc_X10_feed (T := TX10) (N1 := _) rfl (by decide +kernel) ⟨by decide, by decide⟩
    | 2, h1, h2 => cases h1; cases h2; exact callH_of Y (mL_text hl) wl_RL_94 wt_L_text wi_RL wh_L_text (by decide +kernel) ⟨by decide, by decide⟩
    | 3, h1, h2 => cases h1; cases h2; exact callV_of Y (mX10_text hl) wl_RL_99 wn_X10_text ws_X10_text wi_RX10 wc_X10_text (T := TX10) (N1 := _) rfl (by decide +kernel) ⟨by decide, by decide⟩
    | 4, h1, h2 => cases h1; cases h2; exact callV_of Y (mX10_thrown hl) wl_RL_100 wn_X10_thrown ws_X10_thrown wi_RX10 wc_X10_thrown (T := TX10) (N1 := _) rfl (by decide +kernel) ⟨by decide, by decide⟩
    | 5, h1, h2 => cases h1; cases h2; exact callV_of Y (mX9_fault hl) wl_RL_104 wn_X9_fault ws_X9_fault wi_RX9 wc_X9_fault (T := TX9) (N1 := _) rfl (by decide +kernel) ⟨by decide, by decide⟩
    | 6, h1, h2 => cases h1; cases h2; exact callV_of Y (mX10_fault hl) wl_RL_107 wn_X10_fault ws_X10_fault wi_RX10 wc_X10_fault (T := TX10) (N1 := _) rfl (by decide +kernel) ⟨by decide, by decide⟩
    | 7, h1, h2 => cases h1; cases h2; exact callH_of Y (mL_start hl) wl_RL_108 wt_L_start wi_RL wh_L_start (by decide +kernel) ⟨by decide, by decide⟩
    | 8, h1, h2 => cases h1; cases h2; exact callV_of Y (mX10_start hl) wl_RL_110 wn_X10_start ws_X10_start wi_RX10 wc_X10_start (T := TX10) (N1 := _) rfl (by decide +kernel) ⟨by decide, by decide⟩
    | 9, h1, h2 => cases h1; cases h2; exact callH_of Y (mL_spend hl) wl_RL_111 wt_L_spend wi_RL wh_L_spend (by decide +kernel) ⟨by decide, by decide⟩
    | 10, h1, h2 => cases h1; cases h2; exact callV_of Y (mX10_spend hl) wl_RL_114 wn_X10_spend ws_X10_spend wi_RX10 wc_X10_spend (T := TX10) (N1 := _) rfl (by decide +kernel) ⟨by decide, by decide⟩
    | 11, h1, h2 => cases h1; cases h2; exact callH_of Y (mL_lost hl) wl_RL_115 wt_L_lost wi_RL wh_L_lost (by decide +kernel) ⟨by decide, by decide⟩
    | 12, h1, h2 => cases h1; cases h2; exact callV_of Y (mX10_lost hl) wl_RL_118 wn_X10_lost ws_X10_lost wi_RX10 wc_X10_lost (T := TX10) (N1 := _) rfl (by decide +kernel) ⟨by decide, by decide⟩
    | 13, h1, h2 => cases h1; cases h2; exact callH_of Y (mL_left hl) wl_RL_119 wt_L_left wi_RL wh_L_left (by decide +kernel) ⟨by decide, by decide⟩
    | 14, h1, h2 => cases h1; cases h2; exact callV_of Y (mX10_left hl) wl_RL_121 wn_X10_left ws_X10_left wi_RX10 wc_X10_left (T := TX10) (N1 := _) rfl (by decide +kernel) ⟨by decide, by decide⟩
    | 15, h1, h2 => cases h1; cases h2; exact callH_of Y (mL_close hl) wl_RL_122 wt_L_close wi_RL wh_L_close (by decide +kernel) ⟨by decide, by decide⟩
    | 16, h1, h2 => cases h1; cases h2; exact callV_of Y (mX10_close hl) wl_RL_125 wn_X10_close ws_X10_close wi_RX10 wc_X10_close (T := TX10) (N1 := _) rfl (by decide +kernel) ⟨by decide, by decide⟩
    | 17, h1, h2 => cases h1; cases h2; exact callH_of Y (mL_sell hl) wl_RL_126 wt_L_sell wi_RL wh_L_sell (by decide +kernel) ⟨by decide, by decide⟩
    | 18, h1, h2 => cases h1; cases h2; exact callV_of Y (mX10_sell hl) wl_RL_128 wn_X10_sell ws_X10_sell wi_RX10 wc_X10_sell (T := TX10) (N1 := _) rfl (by decide +kernel) ⟨by decide, by decide⟩
    | 19, h1, h2 => cases h1; cases h2; exact callV_of Y (mX9_undo hl) wl_RL_129 wn_X9_undo ws_X9_undo wi_RX9 wc_X9_undo (T := TX9) (N1 := _) rfl (by decide +kernel) ⟨by decide, by decide⟩
    | 20, h1, h2 => cases h1; cases h2; exact callV_of Y (mX10_undo hl) wl_RL_132 wn_X10_undo ws_X10_undo wi_RX10 wc_X10_undo (T := TX10) (N1 := _) rfl (by decide +kernel) ⟨by decide, by decide⟩
    | 21, h1, h2 => cases h1; cases h2; exact callH_of Y (mL_told hl) wl_RL_133 wt_L_told wi_RL wh_L_told (by decide +kernel) ⟨by decide, by decide⟩
    | 22, h1, h2 => cases h1; cases h2; exact callV_of Y (mX10_told hl) wl_RL_135 wn_X10_told ws_X10_told wi_RX10 wc_X10_told (T := TX10) (N1 := _) rfl (by decide +kernel) ⟨by decide, by decide⟩
    | 23, h1, h2 => cases h1; cases h2; exact callH_of Y (mL_department hl) wl_RL_136 wt_L_department wi_RL wh_L_department (by decide +kernel) ⟨by decide, by decide⟩
    | 24, h1, h2 => cases h1; cases h2; exact callV_of Y (mX10_department hl) wl_RL_138 wn_X10_department ws_X10_department wi_RX10 wc_X10_department (T := TX10) (N1 := _) rfl (by decide +kernel) ⟨by decide, by decide⟩
    | 25, h1, h2 => cases h1; cases h2; exact callH_of Y (mL_product hl) wl_RL_139 wt_L_product wi_RL wh_L_product (by decide +kernel) ⟨by decide, by decide⟩
    | 26, h1, h2 => cases h1; cases h2; exact callV_of Y (mX10_product hl) wl_RL_141 wn_X10_product ws_X10_product wi_RX10 wc_X10_product (T := TX10) (N1 := _) rfl (by decide +kernel) ⟨by decide, by decide⟩
    | 27, h1, h2 => cases h1; cases h2; exact callH_of Y (mL_work hl) wl_RL_142 wt_L_work wi_RL wh_L_work (by decide +kernel) ⟨by decide, by decide⟩
    | 28, h1, h2 => cases h1; cases h2; exact callV_of Y (mX10_work hl) wl_RL_144 wn_X10_work ws_X10_work wi_RX10 wc_X10_work (T := TX10) (N1 := _) rfl (by decide +kernel) ⟨by decide, by decide⟩
    | 29, h1, h2 => cases h1; cases h2; exact callH_of Y (mL_units hl) wl_RL_145 wt_L_units wi_RL wh_L_units (by decide +kernel) ⟨by decide, by decide⟩
    | 30, h1, h2 => cases h1; cases h2; exact callV_of Y (mX10_units hl) wl_RL_147 wn_X10_units ws_X10_units wi_RX10 wc_X10_units (T := TX10) (N1 := _) rfl (by decide +kernel) ⟨by decide, by decide⟩
    | 31, h1, h2 => cases h1; cases h2; exact callH_of Y (mL_asDone hl) wl_RL_148 wt_L_asDone wi_RL wh_L_asDone (by decide +kernel) ⟨by decide, by decide⟩
    | 32, h1, h2 => cases h1; cases h2; exact callV_of Y (mX10_asDone hl) wl_RL_150 wn_X10_asDone ws_X10_asDone wi_RX10 wc_X10_asDone (T := TX10) (N1 := _) rfl (by decide +kernel) ⟨by decide, by decide⟩
    | 33, h1, h2 => cases h1; cases h2; exact callH_of Y (mL_cents hl) wl_RL_151 wt_L_cents wi_RL wh_L_cents (by decide +kernel) ⟨by decide, by decide⟩
    | 34, h1, h2 => cases h1; cases h2; exact callV_of Y (mX10_cents hl) wl_RL_153 wn_X10_cents ws_X10_cents wi_RX10 wc_X10_cents (T := TX10) (N1 := _) rfl (by decide +kernel) ⟨by decide, by decide⟩
    | 35, h1, h2 => cases h1; cases h2; exact callH_of Y (mL_loss hl) wl_RL_154 wt_L_loss wi_RL wh_L_loss (by decide +kernel) ⟨by decide, by decide⟩
    | 36, h1, h2 => cases h1; cases h2; exact callV_of Y (mX10_loss hl) wl_RL_156 wn_X10_loss ws_X10_loss wi_RX10 wc_X10_loss (T := TX10) (N1 := _) rfl (by decide +kernel) ⟨by decide, by decide⟩
    | 37, h1, h2 => cases h1; cases h2; exact callH_of Y (mL_other hl) wl_RL_157 wt_L_other wi_RL wh_L_other (by decide +kernel) ⟨by decide, by decide⟩
    | 38, h1, h2 => cases h1; cases h2; exact callV_of Y (mX10_other hl) wl_RL_159 wn_X10_other ws_X10_other wi_RX10 wc_X10_other (T := TX10) (N1 := _) rfl (by decide +kernel) ⟨by decide, by decide⟩
    | 39, h1, h2 => cases h1; cases h2; exact callH_of Y (mL_parted hl) wl_RL_160 wt_L_parted wi_RL wh_L_parted (by decide +kernel) ⟨by decide, by decide⟩
    | 40, h1, h2 => cases h1; cases h2; exact callV_of Y (mX10_parted hl) wl_RL_162 wn_X10_parted ws_X10_parted wi_RX10 wc_X10_parted (T := TX10) (N1 := _) rfl (by decide +kernel) ⟨by decide, by decide⟩
    | 41, h1, h2 => cases h1; cases h2; exact callH_of Y (mL_store hl) wl_RL_163 wt_L_store wi_RL wh_L_store (by decide +kernel) ⟨by decide, by decide⟩
    | 42, h1, h2 => cases h1; cases h2; exact callV_of Y (mX10_store hl) wl_RL_165 wn_X10_store ws_X10_store wi_RX10 wc_X10_store (T := TX10) (N1 := _) rfl (by decide +kernel) ⟨by decide, by decide⟩
    | 43, h1, h2 => cases h1; cases h2; exact callH_of Y (mL_layer hl) wl_RL_166 wt_L_layer wi_RL wh_L_layer (by decide +kernel) ⟨by decide, by decide⟩
    | 44, h1, h2 => cases h1; cases h2; exact callV_of Y (mX10_layer hl) wl_RL_168 wn_X10_layer ws_X10_layer wi_RX10 wc_X10_layer (T := TX10) (N1 := _) rfl (by decide +kernel) ⟨by decide, by decide⟩
    | 45, h1, h2 => cases h1; cases h2; exact callH_of Y (mL_account hl) wl_RL_169 wt_L_account wi_RL wh_L_account (by decide +kernel) ⟨by decide, by decide⟩
    | 46, h1, h2 => cases h1; cases h2; exact callV_of Y (mX10_account hl) wl_RL_171 wn_X10_account ws_X10_account wi_RX10 wc_X10_account (T := TX10) (N1 := _) rfl (by decide +kernel) ⟨by decide, by decide⟩
    | 47, h1, h2 => cases h1; cases h2; exact callH_of Y (mL_plan hl) wl_RL_172 wt_L_plan wi_RL wh_L_plan (by decide +kernel) ⟨by decide, by decide⟩
    | 48, h1, h2 => cases h1; cases h2; exact callV_of Y (mX10_plan hl) wl_RL_174 wn_X10_plan ws_X10_plan wi_RX10 wc_X10_plan (T := TX10) (N1 := _) rfl (by decide +kernel) ⟨by decide, by decide⟩
    | 49, h1, h2 => cases h1; cases h2; exact callV_of Y (mX9_print hl) wl_RL_175 wn_X9_print ws_X9_print wi_RX9 wc_X9_print (T := TX9) (N1 := _) rfl (by decide +kernel) ⟨by decide, by decide⟩
    | 50, h1, h2 => cases h1; cases h2; exact callV_of Y (mX10_print hl) wl_RL_178 wn_X10_print ws_X10_print wi_RX10 wc_X10_print (T := TX10) (N1 := _) rfl (by decide +kernel) ⟨by decide, by decide⟩
    | 51, h1, h2 => cases h1; cases h2; exact callV_of Y (mX9_status hl) wl_RL_179 wn_X9_status ws_X9_status wi_RX9 wc_X9_status (T := TX9) (N1 := _) rfl (by decide +kernel) ⟨by decide, by decide⟩
    | 52, h1, h2 => cases h1; cases h2; exact callV_of Y (mX10_status hl) wl_RL_182 wn_X10_status ws_X10_status wi_RX10 wc_X10_status (T := TX10) (N1 := _) rfl (by decide +kernel) ⟨by decide, by decide⟩
    | k + 53, h1, _ => simp at h1
  unfold chkK at h1
  rcases hi with ⟨x, hi⟩ | ⟨x, hi⟩
  · rw [hi, ha] at h1
    rw [hi]
    exact key k 0 x na mc tr (of_decide_eq_true h1) hc
  · rw [hi, ha] at h1
    rw [hi]
    exact key k 1 x na mc tr (of_decide_eq_true h1) hc

