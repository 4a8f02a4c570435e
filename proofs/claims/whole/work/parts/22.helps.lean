def kL_text (N : Nat) : List (Nat × Nat × SP) := [(2, 1, vsp N 9 (sX9_text N))]
def cL_text_h : List HE := [("java/lang/IllegalArgumentException", 12, 13, 1)]
def sL_text (N : Nat) : SP := RUN N pL_text (kL_text N) (hdlH cL_text_h 9) [] 4 (some .int) 1
theorem wh_L_text : Cond.codeWith yL_text cL_text 4 (some .int) (tabH cL_text_h 9) ∈ wG := wG_at 602 (by decide +kernel) rfl
theorem mL_text {l : Launch} {N b : Nat} {D : va_G} {cA sa adV : Nat → Nat} (hl : l.stackTraces = false) : CnH l N b D cA sa adV yL_text cL_text 4 (some .int) (tabH cL_text_h 9) 10 275 1 (sL_text N) := by
  refine CnH_of (calls := kL_text N) (by decide +kernel) oL_text (hC_of (cidx := [(0, 7)]) (by decide +kernel) (fun p e s m args below meth c Q Y k kd x na mc tr h1 h2 => ?_)) (hL_of (by decide +kernel)) (by decide +kernel) (by decide +kernel) ?_ ?_
  · match k, h1, h2 with
    | 0, h1, h2 => cases h1; cases h2; exact callV_of Y (mX9_text hl) wl_RL_7 wn_X9_text ws_X9_text wi_RX9 wc_X9_text (T := TX9) (N1 := _) rfl (by decide +kernel) ⟨by decide, by decide⟩
    | k + 1, h1, _ => simp at h1
  · intro d hd
    simp only [cL_text_h, List.mem_cons, List.not_mem_nil, or_false] at hd
    rcases hd with rfl
    · exact ⟨hk_13, by decide⟩
  · intro d hd
    simp only [cL_text_h, List.mem_cons, List.not_mem_nil, or_false] at hd
    rcases hd with rfl
    · exact hc_13
def kL_start (N : Nat) : List (Nat × Nat × SP) := [(2, 2, vsp N 9 (sX9_start N))]
def cL_start_h : List HE := [("java/lang/IllegalArgumentException", 12, 13, 1), ("java/lang/IllegalStateException", 15, 18, 1)]
def sL_start (N : Nat) : SP := RUN N pL_start (kL_start N) (hdlH cL_start_h 9) [] 4 (some .int) 2
theorem wh_L_start : Cond.codeWith yL_start cL_start 4 (some .int) (tabH cL_start_h 9) ∈ wG := wG_at 862 (by decide +kernel) rfl
theorem mL_start {l : Launch} {N b : Nat} {D : va_G} {cA sa adV : Nat → Nat} (hl : l.stackTraces = false) : CnH l N b D cA sa adV yL_start cL_start 4 (some .int) (tabH cL_start_h 9) 8 154 2 (sL_start N) := by
  refine CnH_of (calls := kL_start N) (by decide +kernel) oL_start (hC_of (cidx := [(0, 15)]) (by decide +kernel) (fun p e s m args below meth c Q Y k kd x na mc tr h1 h2 => ?_)) (hL_of (by decide +kernel)) (by decide +kernel) (by decide +kernel) ?_ ?_
  · match k, h1, h2 with
    | 0, h1, h2 => cases h1; cases h2; exact callV_of Y (mX9_start hl) wl_RL_15 wn_X9_start ws_X9_start wi_RX9 wc_X9_start (T := TX9) (N1 := _) rfl (by decide +kernel) ⟨by decide, by decide⟩
    | k + 1, h1, _ => simp at h1
  · intro d hd
    simp only [cL_start_h, List.mem_cons, List.not_mem_nil, or_false] at hd
    rcases hd with rfl | rfl
    · exact ⟨hk_13, by decide⟩
    · exact ⟨hk_18, by decide⟩
  · intro d hd
    simp only [cL_start_h, List.mem_cons, List.not_mem_nil, or_false] at hd
    rcases hd with rfl | rfl
    · exact hc_13
    · exact hc_18
def kL_spend (N : Nat) : List (Nat × Nat × SP) := [(4, 4, vsp N 9 (sX9_spend N))]
def cL_spend_h : List HE := [("java/util/NoSuchElementException", 15, 24, 2), ("java/lang/IllegalArgumentException", 19, 13, 2), ("java/lang/IllegalStateException", 23, 18, 2)]
def sL_spend (N : Nat) : SP := RUN N pL_spend (kL_spend N) (hdlH cL_spend_h 12) [] 6 (some .int) 4
theorem wh_L_spend : Cond.codeWith yL_spend cL_spend 6 (some .int) (tabH cL_spend_h 12) ∈ wG := wG_at 890 (by decide +kernel) rfl
theorem mL_spend {l : Launch} {N b : Nat} {D : va_G} {cA sa adV : Nat → Nat} (hl : l.stackTraces = false) : CnH l N b D cA sa adV yL_spend cL_spend 6 (some .int) (tabH cL_spend_h 12) 8 157 4 (sL_spend N) := by
  refine CnH_of (calls := kL_spend N) (by decide +kernel) oL_spend (hC_of (cidx := [(0, 20)]) (by decide +kernel) (fun p e s m args below meth c Q Y k kd x na mc tr h1 h2 => ?_)) (hL_of (by decide +kernel)) (by decide +kernel) (by decide +kernel) ?_ ?_
  · match k, h1, h2 with
    | 0, h1, h2 => cases h1; cases h2; exact callV_of Y (mX9_spend hl) wl_RL_20 wn_X9_spend ws_X9_spend wi_RX9 wc_X9_spend (T := TX9) (N1 := _) rfl (by decide +kernel) ⟨by decide, by decide⟩
    | k + 1, h1, _ => simp at h1
  · intro d hd
    simp only [cL_spend_h, List.mem_cons, List.not_mem_nil, or_false] at hd
    rcases hd with rfl | rfl | rfl
    · exact ⟨hk_24, by decide⟩
    · exact ⟨hk_13, by decide⟩
    · exact ⟨hk_18, by decide⟩
  · intro d hd
    simp only [cL_spend_h, List.mem_cons, List.not_mem_nil, or_false] at hd
    rcases hd with rfl | rfl | rfl
    · exact hc_24
    · exact hc_13
    · exact hc_18
def kL_lost (N : Nat) : List (Nat × Nat × SP) := [(3, 2, vsp N 9 (sX9_lost N))]
def cL_lost_h : List HE := [("java/util/NoSuchElementException", 13, 24, 2), ("java/lang/IllegalArgumentException", 17, 13, 2)]
def sL_lost (N : Nat) : SP := RUN N pL_lost (kL_lost N) (hdlH cL_lost_h 10) [] 5 (some .int) 2
theorem wh_L_lost : Cond.codeWith yL_lost cL_lost 5 (some .int) (tabH cL_lost_h 10) ∈ wG := wG_at 929 (by decide +kernel) rfl
theorem mL_lost {l : Launch} {N b : Nat} {D : va_G} {cA sa adV : Nat → Nat} (hl : l.stackTraces = false) : CnH l N b D cA sa adV yL_lost cL_lost 5 (some .int) (tabH cL_lost_h 10) 8 157 2 (sL_lost N) := by
  refine CnH_of (calls := kL_lost N) (by decide +kernel) oL_lost (hC_of (cidx := [(0, 26)]) (by decide +kernel) (fun p e s m args below meth c Q Y k kd x na mc tr h1 h2 => ?_)) (hL_of (by decide +kernel)) (by decide +kernel) (by decide +kernel) ?_ ?_
  · match k, h1, h2 with
    | 0, h1, h2 => cases h1; cases h2; exact callV_of Y (mX9_lost hl) wl_RL_26 wn_X9_lost ws_X9_lost wi_RX9 wc_X9_lost (T := TX9) (N1 := _) rfl (by decide +kernel) ⟨by decide, by decide⟩
    | k + 1, h1, _ => simp at h1
  · intro d hd
    simp only [cL_lost_h, List.mem_cons, List.not_mem_nil, or_false] at hd
    rcases hd with rfl | rfl
    · exact ⟨hk_24, by decide⟩
    · exact ⟨hk_13, by decide⟩
  · intro d hd
    simp only [cL_lost_h, List.mem_cons, List.not_mem_nil, or_false] at hd
    rcases hd with rfl | rfl
    · exact hc_24
    · exact hc_13
def kL_left (N : Nat) : List (Nat × Nat × SP) := [(4, 3, vsp N 9 (sX9_left N))]
def cL_left_h : List HE := [("java/util/NoSuchElementException", 15, 24, 2), ("java/lang/IllegalArgumentException", 19, 13, 2)]
def sL_left (N : Nat) : SP := RUN N pL_left (kL_left N) (hdlH cL_left_h 12) [] 6 (some .int) 3
theorem wh_L_left : Cond.codeWith yL_left cL_left 6 (some .int) (tabH cL_left_h 12) ∈ wG := wG_at 937 (by decide +kernel) rfl
theorem mL_left {l : Launch} {N b : Nat} {D : va_G} {cA sa adV : Nat → Nat} (hl : l.stackTraces = false) : CnH l N b D cA sa adV yL_left cL_left 6 (some .int) (tabH cL_left_h 12) 8 158 3 (sL_left N) := by
  refine CnH_of (calls := kL_left N) (by decide +kernel) oL_left (hC_of (cidx := [(0, 30)]) (by decide +kernel) (fun p e s m args below meth c Q Y k kd x na mc tr h1 h2 => ?_)) (hL_of (by decide +kernel)) (by decide +kernel) (by decide +kernel) ?_ ?_
  · match k, h1, h2 with
    | 0, h1, h2 => cases h1; cases h2; exact callV_of Y (mX9_left hl) wl_RL_30 wn_X9_left ws_X9_left wi_RX9 wc_X9_left (T := TX9) (N1 := _) rfl (by decide +kernel) ⟨by decide, by decide⟩
    | k + 1, h1, _ => simp at h1
  · intro d hd
    simp only [cL_left_h, List.mem_cons, List.not_mem_nil, or_false] at hd
    rcases hd with rfl | rfl
    · exact ⟨hk_24, by decide⟩
    · exact ⟨hk_13, by decide⟩
  · intro d hd
    simp only [cL_left_h, List.mem_cons, List.not_mem_nil, or_false] at hd
    rcases hd with rfl | rfl
    · exact hc_24
    · exact hc_13
def kL_close (N : Nat) : List (Nat × Nat × SP) := [(1, 1, vsp N 9 (sX9_close N))]
def cL_close_h : List HE := [("java/lang/IllegalStateException", 10, 18, 1)]
def sL_close (N : Nat) : SP := RUN N pL_close (kL_close N) (hdlH cL_close_h 7) [] 3 (some .int) 1
theorem wh_L_close : Cond.codeWith yL_close cL_close 3 (some .int) (tabH cL_close_h 7) ∈ wG := wG_at 944 (by decide +kernel) rfl
theorem mL_close {l : Launch} {N b : Nat} {D : va_G} {cA sa adV : Nat → Nat} (hl : l.stackTraces = false) : CnH l N b D cA sa adV yL_close cL_close 3 (some .int) (tabH cL_close_h 7) 8 154 1 (sL_close N) := by
  refine CnH_of (calls := kL_close N) (by decide +kernel) oL_close (hC_of (cidx := [(0, 33)]) (by decide +kernel) (fun p e s m args below meth c Q Y k kd x na mc tr h1 h2 => ?_)) (hL_of (by decide +kernel)) (by decide +kernel) (by decide +kernel) ?_ ?_
  · match k, h1, h2 with
    | 0, h1, h2 => cases h1; cases h2; exact callV_of Y (mX9_close hl) wl_RL_33 wn_X9_close ws_X9_close wi_RX9 wc_X9_close (T := TX9) (N1 := _) rfl (by decide +kernel) ⟨by decide, by decide⟩
    | k + 1, h1, _ => simp at h1
  · intro d hd
    simp only [cL_close_h, List.mem_cons, List.not_mem_nil, or_false] at hd
    rcases hd with rfl
    · exact ⟨hk_18, by decide⟩
  · intro d hd
    simp only [cL_close_h, List.mem_cons, List.not_mem_nil, or_false] at hd
    rcases hd with rfl
    · exact hc_18
def kL_sell (N : Nat) : List (Nat × Nat × SP) := [(3, 3, vsp N 9 (sX9_sell N))]
def cL_sell_h : List HE := [("java/util/NoSuchElementException", 12, 24, 2), ("java/lang/IllegalArgumentException", 16, 13, 2), ("java/lang/IllegalStateException", 20, 18, 2)]
def sL_sell (N : Nat) : SP := RUN N pL_sell (kL_sell N) (hdlH cL_sell_h 9) [] 5 (some .int) 3
theorem wh_L_sell : Cond.codeWith yL_sell cL_sell 5 (some .int) (tabH cL_sell_h 9) ∈ wG := wG_at 1062 (by decide +kernel) rfl
theorem mL_sell {l : Launch} {N b : Nat} {D : va_G} {cA sa adV : Nat → Nat} (hl : l.stackTraces = false) : CnH l N b D cA sa adV yL_sell cL_sell 5 (some .int) (tabH cL_sell_h 9) 8 158 3 (sL_sell N) := by
  refine CnH_of (calls := kL_sell N) (by decide +kernel) oL_sell (hC_of (cidx := [(0, 37)]) (by decide +kernel) (fun p e s m args below meth c Q Y k kd x na mc tr h1 h2 => ?_)) (hL_of (by decide +kernel)) (by decide +kernel) (by decide +kernel) ?_ ?_
  · match k, h1, h2 with
    | 0, h1, h2 => cases h1; cases h2; exact callV_of Y (mX9_sell hl) wl_RL_37 wn_X9_sell ws_X9_sell wi_RX9 wc_X9_sell (T := TX9) (N1 := _) rfl (by decide +kernel) ⟨by decide, by decide⟩
    | k + 1, h1, _ => simp at h1
  · intro d hd
    simp only [cL_sell_h, List.mem_cons, List.not_mem_nil, or_false] at hd
    rcases hd with rfl | rfl | rfl
    · exact ⟨hk_24, by decide⟩
    · exact ⟨hk_13, by decide⟩
    · exact ⟨hk_18, by decide⟩
  · intro d hd
    simp only [cL_sell_h, List.mem_cons, List.not_mem_nil, or_false] at hd
    rcases hd with rfl | rfl | rfl
    · exact hc_24
    · exact hc_13
    · exact hc_18
def kL_told (N : Nat) : List (Nat × Nat × SP) := [(2, 1, vsp N 9 (sX9_told N))]
def cL_told_h : List HE := [("java/lang/IllegalArgumentException", 12, 13, 1)]
def sL_told (N : Nat) : SP := RUN N pL_told (kL_told N) (hdlH cL_told_h 9) [] 4 (some .int) 1
theorem wh_L_told : Cond.codeWith yL_told cL_told 4 (some .int) (tabH cL_told_h 9) ∈ wG := wG_at 1084 (by decide +kernel) rfl
theorem mL_told {l : Launch} {N b : Nat} {D : va_G} {cA sa adV : Nat → Nat} (hl : l.stackTraces = false) : CnH l N b D cA sa adV yL_told cL_told 4 (some .int) (tabH cL_told_h 9) 8 134 1 (sL_told N) := by
  refine CnH_of (calls := kL_told N) (by decide +kernel) oL_told (hC_of (cidx := [(0, 41)]) (by decide +kernel) (fun p e s m args below meth c Q Y k kd x na mc tr h1 h2 => ?_)) (hL_of (by decide +kernel)) (by decide +kernel) (by decide +kernel) ?_ ?_
  · match k, h1, h2 with
    | 0, h1, h2 => cases h1; cases h2; exact callV_of Y (mX9_told hl) wl_RL_41 wn_X9_told ws_X9_told wi_RX9 wc_X9_told (T := TX9) (N1 := _) rfl (by decide +kernel) ⟨by decide, by decide⟩
    | k + 1, h1, _ => simp at h1
  · intro d hd
    simp only [cL_told_h, List.mem_cons, List.not_mem_nil, or_false] at hd
    rcases hd with rfl
    · exact ⟨hk_13, by decide⟩
  · intro d hd
    simp only [cL_told_h, List.mem_cons, List.not_mem_nil, or_false] at hd
    rcases hd with rfl
    · exact hc_13
def kL_department (N : Nat) : List (Nat × Nat × SP) := [(3, 2, vsp N 9 (sX9_department N))]
def cL_department_h : List HE := [("java/util/NoSuchElementException", 13, 24, 2), ("java/lang/IllegalArgumentException", 17, 13, 2)]
def sL_department (N : Nat) : SP := RUN N pL_department (kL_department N) (hdlH cL_department_h 10) [] 5 (some .int) 2
theorem wh_L_department : Cond.codeWith yL_department cL_department 5 (some .int) (tabH cL_department_h 10) ∈ wG := wG_at 1091 (by decide +kernel) rfl
theorem mL_department {l : Launch} {N b : Nat} {D : va_G} {cA sa adV : Nat → Nat} (hl : l.stackTraces = false) : CnH l N b D cA sa adV yL_department cL_department 5 (some .int) (tabH cL_department_h 10) 8 136 2 (sL_department N) := by
  refine CnH_of (calls := kL_department N) (by decide +kernel) oL_department (hC_of (cidx := [(0, 44)]) (by decide +kernel) (fun p e s m args below meth c Q Y k kd x na mc tr h1 h2 => ?_)) (hL_of (by decide +kernel)) (by decide +kernel) (by decide +kernel) ?_ ?_
  · match k, h1, h2 with
    | 0, h1, h2 => cases h1; cases h2; exact callV_of Y (mX9_department hl) wl_RL_44 wn_X9_department ws_X9_department wi_RX9 wc_X9_department (T := TX9) (N1 := _) rfl (by decide +kernel) ⟨by decide, by decide⟩
    | k + 1, h1, _ => simp at h1
  · intro d hd
    simp only [cL_department_h, List.mem_cons, List.not_mem_nil, or_false] at hd
    rcases hd with rfl | rfl
    · exact ⟨hk_24, by decide⟩
    · exact ⟨hk_13, by decide⟩
  · intro d hd
    simp only [cL_department_h, List.mem_cons, List.not_mem_nil, or_false] at hd
    rcases hd with rfl | rfl
    · exact hc_24
    · exact hc_13
def kL_product (N : Nat) : List (Nat × Nat × SP) := [(3, 2, vsp N 9 (sX9_product N))]
def cL_product_h : List HE := [("java/util/NoSuchElementException", 13, 24, 2), ("java/lang/IllegalArgumentException", 17, 13, 2)]
def sL_product (N : Nat) : SP := RUN N pL_product (kL_product N) (hdlH cL_product_h 10) [] 5 (some .int) 2
theorem wh_L_product : Cond.codeWith yL_product cL_product 5 (some .int) (tabH cL_product_h 10) ∈ wG := wG_at 1098 (by decide +kernel) rfl
theorem mL_product {l : Launch} {N b : Nat} {D : va_G} {cA sa adV : Nat → Nat} (hl : l.stackTraces = false) : CnH l N b D cA sa adV yL_product cL_product 5 (some .int) (tabH cL_product_h 10) 8 136 2 (sL_product N) := by
  refine CnH_of (calls := kL_product N) (by decide +kernel) oL_product (hC_of (cidx := [(0, 47)]) (by decide +kernel) (fun p e s m args below meth c Q Y k kd x na mc tr h1 h2 => ?_)) (hL_of (by decide +kernel)) (by decide +kernel) (by decide +kernel) ?_ ?_
  · match k, h1, h2 with
    | 0, h1, h2 => cases h1; cases h2; exact callV_of Y (mX9_product hl) wl_RL_47 wn_X9_product ws_X9_product wi_RX9 wc_X9_product (T := TX9) (N1 := _) rfl (by decide +kernel) ⟨by decide, by decide⟩
    | k + 1, h1, _ => simp at h1
  · intro d hd
    simp only [cL_product_h, List.mem_cons, List.not_mem_nil, or_false] at hd
    rcases hd with rfl | rfl
    · exact ⟨hk_24, by decide⟩
    · exact ⟨hk_13, by decide⟩
  · intro d hd
    simp only [cL_product_h, List.mem_cons, List.not_mem_nil, or_false] at hd
    rcases hd with rfl | rfl
    · exact hc_24
    · exact hc_13
def kL_work (N : Nat) : List (Nat × Nat × SP) := [(3, 2, vsp N 9 (sX9_work N))]
def cL_work_h : List HE := [("java/util/NoSuchElementException", 12, 24, 2), ("java/lang/IllegalArgumentException", 16, 13, 2)]
def sL_work (N : Nat) : SP := RUN N pL_work (kL_work N) (hdlH cL_work_h 9) [] 5 (some .int) 2
theorem wh_L_work : Cond.codeWith yL_work cL_work 5 (some .int) (tabH cL_work_h 9) ∈ wG := wG_at 1105 (by decide +kernel) rfl
theorem mL_work {l : Launch} {N b : Nat} {D : va_G} {cA sa adV : Nat → Nat} (hl : l.stackTraces = false) : CnH l N b D cA sa adV yL_work cL_work 5 (some .int) (tabH cL_work_h 9) 8 136 2 (sL_work N) := by
  refine CnH_of (calls := kL_work N) (by decide +kernel) oL_work (hC_of (cidx := [(0, 50)]) (by decide +kernel) (fun p e s m args below meth c Q Y k kd x na mc tr h1 h2 => ?_)) (hL_of (by decide +kernel)) (by decide +kernel) (by decide +kernel) ?_ ?_
  · match k, h1, h2 with
    | 0, h1, h2 => cases h1; cases h2; exact callV_of Y (mX9_work hl) wl_RL_50 wn_X9_work ws_X9_work wi_RX9 wc_X9_work (T := TX9) (N1 := _) rfl (by decide +kernel) ⟨by decide, by decide⟩
    | k + 1, h1, _ => simp at h1
  · intro d hd
    simp only [cL_work_h, List.mem_cons, List.not_mem_nil, or_false] at hd
    rcases hd with rfl | rfl
    · exact ⟨hk_24, by decide⟩
    · exact ⟨hk_13, by decide⟩
  · intro d hd
    simp only [cL_work_h, List.mem_cons, List.not_mem_nil, or_false] at hd
    rcases hd with rfl | rfl
    · exact hc_24
    · exact hc_13
def kL_units (N : Nat) : List (Nat × Nat × SP) := [(3, 2, vsp N 9 (sX9_units N))]
def cL_units_h : List HE := [("java/util/NoSuchElementException", 13, 24, 2), ("java/lang/IllegalArgumentException", 17, 13, 2)]
def sL_units (N : Nat) : SP := RUN N pL_units (kL_units N) (hdlH cL_units_h 10) [] 5 (some .int) 2
theorem wh_L_units : Cond.codeWith yL_units cL_units 5 (some .int) (tabH cL_units_h 10) ∈ wG := wG_at 1112 (by decide +kernel) rfl
theorem mL_units {l : Launch} {N b : Nat} {D : va_G} {cA sa adV : Nat → Nat} (hl : l.stackTraces = false) : CnH l N b D cA sa adV yL_units cL_units 5 (some .int) (tabH cL_units_h 10) 8 136 2 (sL_units N) := by
  refine CnH_of (calls := kL_units N) (by decide +kernel) oL_units (hC_of (cidx := [(0, 53)]) (by decide +kernel) (fun p e s m args below meth c Q Y k kd x na mc tr h1 h2 => ?_)) (hL_of (by decide +kernel)) (by decide +kernel) (by decide +kernel) ?_ ?_
  · match k, h1, h2 with
    | 0, h1, h2 => cases h1; cases h2; exact callV_of Y (mX9_units hl) wl_RL_53 wn_X9_units ws_X9_units wi_RX9 wc_X9_units (T := TX9) (N1 := _) rfl (by decide +kernel) ⟨by decide, by decide⟩
    | k + 1, h1, _ => simp at h1
  · intro d hd
    simp only [cL_units_h, List.mem_cons, List.not_mem_nil, or_false] at hd
    rcases hd with rfl | rfl
    · exact ⟨hk_24, by decide⟩
    · exact ⟨hk_13, by decide⟩
  · intro d hd
    simp only [cL_units_h, List.mem_cons, List.not_mem_nil, or_false] at hd
    rcases hd with rfl | rfl
    · exact hc_24
    · exact hc_13
def kL_asDone (N : Nat) : List (Nat × Nat × SP) := [(4, 3, vsp N 9 (sX9_asDone N))]
def cL_asDone_h : List HE := [("java/util/NoSuchElementException", 15, 24, 2), ("java/lang/IllegalArgumentException", 19, 13, 2)]
def sL_asDone (N : Nat) : SP := RUN N pL_asDone (kL_asDone N) (hdlH cL_asDone_h 12) [] 6 (some .int) 3
theorem wh_L_asDone : Cond.codeWith yL_asDone cL_asDone 6 (some .int) (tabH cL_asDone_h 12) ∈ wG := wG_at 1119 (by decide +kernel) rfl
theorem mL_asDone {l : Launch} {N b : Nat} {D : va_G} {cA sa adV : Nat → Nat} (hl : l.stackTraces = false) : CnH l N b D cA sa adV yL_asDone cL_asDone 6 (some .int) (tabH cL_asDone_h 12) 8 138 3 (sL_asDone N) := by
  refine CnH_of (calls := kL_asDone N) (by decide +kernel) oL_asDone (hC_of (cidx := [(0, 56)]) (by decide +kernel) (fun p e s m args below meth c Q Y k kd x na mc tr h1 h2 => ?_)) (hL_of (by decide +kernel)) (by decide +kernel) (by decide +kernel) ?_ ?_
  · match k, h1, h2 with
    | 0, h1, h2 => cases h1; cases h2; exact callV_of Y (mX9_asDone hl) wl_RL_56 wn_X9_asDone ws_X9_asDone wi_RX9 wc_X9_asDone (T := TX9) (N1 := _) rfl (by decide +kernel) ⟨by decide, by decide⟩
    | k + 1, h1, _ => simp at h1
  · intro d hd
    simp only [cL_asDone_h, List.mem_cons, List.not_mem_nil, or_false] at hd
    rcases hd with rfl | rfl
    · exact ⟨hk_24, by decide⟩
    · exact ⟨hk_13, by decide⟩
  · intro d hd
    simp only [cL_asDone_h, List.mem_cons, List.not_mem_nil, or_false] at hd
    rcases hd with rfl | rfl
    · exact hc_24
    · exact hc_13
def kL_cents (N : Nat) : List (Nat × Nat × SP) := [(4, 3, vsp N 9 (sX9_cents N))]
def cL_cents_h : List HE := [("java/util/NoSuchElementException", 14, 24, 2), ("java/lang/IllegalArgumentException", 18, 13, 2)]
def sL_cents (N : Nat) : SP := RUN N pL_cents (kL_cents N) (hdlH cL_cents_h 11) [] 6 (some .int) 3
theorem wh_L_cents : Cond.codeWith yL_cents cL_cents 6 (some .int) (tabH cL_cents_h 11) ∈ wG := wG_at 1127 (by decide +kernel) rfl
theorem mL_cents {l : Launch} {N b : Nat} {D : va_G} {cA sa adV : Nat → Nat} (hl : l.stackTraces = false) : CnH l N b D cA sa adV yL_cents cL_cents 6 (some .int) (tabH cL_cents_h 11) 8 138 3 (sL_cents N) := by
  refine CnH_of (calls := kL_cents N) (by decide +kernel) oL_cents (hC_of (cidx := [(0, 59)]) (by decide +kernel) (fun p e s m args below meth c Q Y k kd x na mc tr h1 h2 => ?_)) (hL_of (by decide +kernel)) (by decide +kernel) (by decide +kernel) ?_ ?_
  · match k, h1, h2 with
    | 0, h1, h2 => cases h1; cases h2; exact callV_of Y (mX9_cents hl) wl_RL_59 wn_X9_cents ws_X9_cents wi_RX9 wc_X9_cents (T := TX9) (N1 := _) rfl (by decide +kernel) ⟨by decide, by decide⟩
    | k + 1, h1, _ => simp at h1
  · intro d hd
    simp only [cL_cents_h, List.mem_cons, List.not_mem_nil, or_false] at hd
    rcases hd with rfl | rfl
    · exact ⟨hk_24, by decide⟩
    · exact ⟨hk_13, by decide⟩
  · intro d hd
    simp only [cL_cents_h, List.mem_cons, List.not_mem_nil, or_false] at hd
    rcases hd with rfl | rfl
    · exact hc_24
    · exact hc_13
def kL_loss (N : Nat) : List (Nat × Nat × SP) := [(3, 2, vsp N 9 (sX9_loss N))]
def cL_loss_h : List HE := [("java/util/NoSuchElementException", 12, 24, 2), ("java/lang/IllegalArgumentException", 16, 13, 2)]
def sL_loss (N : Nat) : SP := RUN N pL_loss (kL_loss N) (hdlH cL_loss_h 9) [] 5 (some .int) 2
theorem wh_L_loss : Cond.codeWith yL_loss cL_loss 5 (some .int) (tabH cL_loss_h 9) ∈ wG := wG_at 1134 (by decide +kernel) rfl
theorem mL_loss {l : Launch} {N b : Nat} {D : va_G} {cA sa adV : Nat → Nat} (hl : l.stackTraces = false) : CnH l N b D cA sa adV yL_loss cL_loss 5 (some .int) (tabH cL_loss_h 9) 8 137 2 (sL_loss N) := by
  refine CnH_of (calls := kL_loss N) (by decide +kernel) oL_loss (hC_of (cidx := [(0, 63)]) (by decide +kernel) (fun p e s m args below meth c Q Y k kd x na mc tr h1 h2 => ?_)) (hL_of (by decide +kernel)) (by decide +kernel) (by decide +kernel) ?_ ?_
  · match k, h1, h2 with
    | 0, h1, h2 => cases h1; cases h2; exact callV_of Y (mX9_loss hl) wl_RL_63 wn_X9_loss ws_X9_loss wi_RX9 wc_X9_loss (T := TX9) (N1 := _) rfl (by decide +kernel) ⟨by decide, by decide⟩
    | k + 1, h1, _ => simp at h1
  · intro d hd
    simp only [cL_loss_h, List.mem_cons, List.not_mem_nil, or_false] at hd
    rcases hd with rfl | rfl
    · exact ⟨hk_24, by decide⟩
    · exact ⟨hk_13, by decide⟩
  · intro d hd
    simp only [cL_loss_h, List.mem_cons, List.not_mem_nil, or_false] at hd
    rcases hd with rfl | rfl
    · exact hc_24
    · exact hc_13
def kL_other (N : Nat) : List (Nat × Nat × SP) := [(2, 1, vsp N 9 (sX9_other N))]
def cL_other_h : List HE := [("java/util/NoSuchElementException", 11, 24, 1)]
def sL_other (N : Nat) : SP := RUN N pL_other (kL_other N) (hdlH cL_other_h 8) [] 4 (some .int) 1
theorem wh_L_other : Cond.codeWith yL_other cL_other 4 (some .int) (tabH cL_other_h 8) ∈ wG := wG_at 1142 (by decide +kernel) rfl
theorem mL_other {l : Launch} {N b : Nat} {D : va_G} {cA sa adV : Nat → Nat} (hl : l.stackTraces = false) : CnH l N b D cA sa adV yL_other cL_other 4 (some .int) (tabH cL_other_h 8) 8 134 1 (sL_other N) := by
  refine CnH_of (calls := kL_other N) (by decide +kernel) oL_other (hC_of (cidx := [(0, 66)]) (by decide +kernel) (fun p e s m args below meth c Q Y k kd x na mc tr h1 h2 => ?_)) (hL_of (by decide +kernel)) (by decide +kernel) (by decide +kernel) ?_ ?_
  · match k, h1, h2 with
    | 0, h1, h2 => cases h1; cases h2; exact callV_of Y (mX9_other hl) wl_RL_66 wn_X9_other ws_X9_other wi_RX9 wc_X9_other (T := TX9) (N1 := _) rfl (by decide +kernel) ⟨by decide, by decide⟩
    | k + 1, h1, _ => simp at h1
  · intro d hd
    simp only [cL_other_h, List.mem_cons, List.not_mem_nil, or_false] at hd
    rcases hd with rfl
    · exact ⟨hk_24, by decide⟩
  · intro d hd
    simp only [cL_other_h, List.mem_cons, List.not_mem_nil, or_false] at hd
    rcases hd with rfl
    · exact hc_24
def kL_parted (N : Nat) : List (Nat × Nat × SP) := [(3, 2, vsp N 9 (sX9_parted N))]
def cL_parted_h : List HE := [("java/util/NoSuchElementException", 12, 24, 2), ("java/lang/IllegalArgumentException", 16, 13, 2)]
def sL_parted (N : Nat) : SP := RUN N pL_parted (kL_parted N) (hdlH cL_parted_h 9) [] 5 (some .int) 2
theorem wh_L_parted : Cond.codeWith yL_parted cL_parted 5 (some .int) (tabH cL_parted_h 9) ∈ wG := wG_at 1157 (by decide +kernel) rfl
theorem mL_parted {l : Launch} {N b : Nat} {D : va_G} {cA sa adV : Nat → Nat} (hl : l.stackTraces = false) : CnH l N b D cA sa adV yL_parted cL_parted 5 (some .int) (tabH cL_parted_h 9) 8 136 2 (sL_parted N) := by
  refine CnH_of (calls := kL_parted N) (by decide +kernel) oL_parted (hC_of (cidx := [(0, 70)]) (by decide +kernel) (fun p e s m args below meth c Q Y k kd x na mc tr h1 h2 => ?_)) (hL_of (by decide +kernel)) (by decide +kernel) (by decide +kernel) ?_ ?_
  · match k, h1, h2 with
    | 0, h1, h2 => cases h1; cases h2; exact callV_of Y (mX9_parted hl) wl_RL_70 wn_X9_parted ws_X9_parted wi_RX9 wc_X9_parted (T := TX9) (N1 := _) rfl (by decide +kernel) ⟨by decide, by decide⟩
    | k + 1, h1, _ => simp at h1
  · intro d hd
    simp only [cL_parted_h, List.mem_cons, List.not_mem_nil, or_false] at hd
    rcases hd with rfl | rfl
    · exact ⟨hk_24, by decide⟩
    · exact ⟨hk_13, by decide⟩
  · intro d hd
    simp only [cL_parted_h, List.mem_cons, List.not_mem_nil, or_false] at hd
    rcases hd with rfl | rfl
    · exact hc_24
    · exact hc_13
def kL_store (N : Nat) : List (Nat × Nat × SP) := [(3, 2, vsp N 9 (sX9_store N))]
def cL_store_h : List HE := [("java/util/NoSuchElementException", 12, 24, 2), ("java/lang/IllegalArgumentException", 16, 13, 2)]
def sL_store (N : Nat) : SP := RUN N pL_store (kL_store N) (hdlH cL_store_h 9) [] 5 (some .int) 2
theorem wh_L_store : Cond.codeWith yL_store cL_store 5 (some .int) (tabH cL_store_h 9) ∈ wG := wG_at 1164 (by decide +kernel) rfl
theorem mL_store {l : Launch} {N b : Nat} {D : va_G} {cA sa adV : Nat → Nat} (hl : l.stackTraces = false) : CnH l N b D cA sa adV yL_store cL_store 5 (some .int) (tabH cL_store_h 9) 8 136 2 (sL_store N) := by
  refine CnH_of (calls := kL_store N) (by decide +kernel) oL_store (hC_of (cidx := [(0, 73)]) (by decide +kernel) (fun p e s m args below meth c Q Y k kd x na mc tr h1 h2 => ?_)) (hL_of (by decide +kernel)) (by decide +kernel) (by decide +kernel) ?_ ?_
  · match k, h1, h2 with
    | 0, h1, h2 => cases h1; cases h2; exact callV_of Y (mX9_store hl) wl_RL_73 wn_X9_store ws_X9_store wi_RX9 wc_X9_store (T := TX9) (N1 := _) rfl (by decide +kernel) ⟨by decide, by decide⟩
    | k + 1, h1, _ => simp at h1
  · intro d hd
    simp only [cL_store_h, List.mem_cons, List.not_mem_nil, or_false] at hd
    rcases hd with rfl | rfl
    · exact ⟨hk_24, by decide⟩
    · exact ⟨hk_13, by decide⟩
  · intro d hd
    simp only [cL_store_h, List.mem_cons, List.not_mem_nil, or_false] at hd
    rcases hd with rfl | rfl
    · exact hc_24
    · exact hc_13
def kL_layer (N : Nat) : List (Nat × Nat × SP) := [(4, 3, vsp N 9 (sX9_layer N))]
def cL_layer_h : List HE := [("java/util/NoSuchElementException", 14, 24, 2), ("java/lang/IllegalArgumentException", 18, 13, 2)]
def sL_layer (N : Nat) : SP := RUN N pL_layer (kL_layer N) (hdlH cL_layer_h 11) [] 6 (some .int) 3
theorem wh_L_layer : Cond.codeWith yL_layer cL_layer 6 (some .int) (tabH cL_layer_h 11) ∈ wG := wG_at 1172 (by decide +kernel) rfl
theorem mL_layer {l : Launch} {N b : Nat} {D : va_G} {cA sa adV : Nat → Nat} (hl : l.stackTraces = false) : CnH l N b D cA sa adV yL_layer cL_layer 6 (some .int) (tabH cL_layer_h 11) 8 137 3 (sL_layer N) := by
  refine CnH_of (calls := kL_layer N) (by decide +kernel) oL_layer (hC_of (cidx := [(0, 76)]) (by decide +kernel) (fun p e s m args below meth c Q Y k kd x na mc tr h1 h2 => ?_)) (hL_of (by decide +kernel)) (by decide +kernel) (by decide +kernel) ?_ ?_
  · match k, h1, h2 with
    | 0, h1, h2 => cases h1; cases h2; exact callV_of Y (mX9_layer hl) wl_RL_76 wn_X9_layer ws_X9_layer wi_RX9 wc_X9_layer (T := TX9) (N1 := _) rfl (by decide +kernel) ⟨by decide, by decide⟩
    | k + 1, h1, _ => simp at h1
  · intro d hd
    simp only [cL_layer_h, List.mem_cons, List.not_mem_nil, or_false] at hd
    rcases hd with rfl | rfl
    · exact ⟨hk_24, by decide⟩
    · exact ⟨hk_13, by decide⟩
  · intro d hd
    simp only [cL_layer_h, List.mem_cons, List.not_mem_nil, or_false] at hd
    rcases hd with rfl | rfl
    · exact hc_24
    · exact hc_13
def kL_account (N : Nat) : List (Nat × Nat × SP) := [(2, 1, vsp N 9 (sX9_account N))]
def cL_account_h : List HE := [("java/lang/IllegalArgumentException", 11, 13, 1)]
def sL_account (N : Nat) : SP := RUN N pL_account (kL_account N) (hdlH cL_account_h 8) [] 4 (some .int) 1
theorem wh_L_account : Cond.codeWith yL_account cL_account 4 (some .int) (tabH cL_account_h 8) ∈ wG := wG_at 1184 (by decide +kernel) rfl
theorem mL_account {l : Launch} {N b : Nat} {D : va_G} {cA sa adV : Nat → Nat} (hl : l.stackTraces = false) : CnH l N b D cA sa adV yL_account cL_account 4 (some .int) (tabH cL_account_h 8) 8 134 1 (sL_account N) := by
  refine CnH_of (calls := kL_account N) (by decide +kernel) oL_account (hC_of (cidx := [(0, 79)]) (by decide +kernel) (fun p e s m args below meth c Q Y k kd x na mc tr h1 h2 => ?_)) (hL_of (by decide +kernel)) (by decide +kernel) (by decide +kernel) ?_ ?_
  · match k, h1, h2 with
    | 0, h1, h2 => cases h1; cases h2; exact callV_of Y (mX9_account hl) wl_RL_79 wn_X9_account ws_X9_account wi_RX9 wc_X9_account (T := TX9) (N1 := _) rfl (by decide +kernel) ⟨by decide, by decide⟩
    | k + 1, h1, _ => simp at h1
  · intro d hd
    simp only [cL_account_h, List.mem_cons, List.not_mem_nil, or_false] at hd
    rcases hd with rfl
    · exact ⟨hk_13, by decide⟩
  · intro d hd
    simp only [cL_account_h, List.mem_cons, List.not_mem_nil, or_false] at hd
    rcases hd with rfl
    · exact hc_13
def kL_plan (N : Nat) : List (Nat × Nat × SP) := [(3, 3, vsp N 9 (sX9_plan N))]
def cL_plan_h : List HE := [("java/lang/IllegalArgumentException", 12, 13, 2), ("java/util/NoSuchElementException", 16, 24, 2)]
def sL_plan (N : Nat) : SP := RUN N pL_plan (kL_plan N) (hdlH cL_plan_h 9) [] 5 (some .int) 3
theorem wh_L_plan : Cond.codeWith yL_plan cL_plan 5 (some .int) (tabH cL_plan_h 9) ∈ wG := wG_at 1199 (by decide +kernel) rfl
theorem mL_plan {l : Launch} {N b : Nat} {D : va_G} {cA sa adV : Nat → Nat} (hl : l.stackTraces = false) : CnH l N b D cA sa adV yL_plan cL_plan 5 (some .int) (tabH cL_plan_h 9) 8 135 3 (sL_plan N) := by
  refine CnH_of (calls := kL_plan N) (by decide +kernel) oL_plan (hC_of (cidx := [(0, 82)]) (by decide +kernel) (fun p e s m args below meth c Q Y k kd x na mc tr h1 h2 => ?_)) (hL_of (by decide +kernel)) (by decide +kernel) (by decide +kernel) ?_ ?_
  · match k, h1, h2 with
    | 0, h1, h2 => cases h1; cases h2; exact callV_of Y (mX9_plan hl) wl_RL_82 wn_X9_plan ws_X9_plan wi_RX9 wc_X9_plan (T := TX9) (N1 := _) rfl (by decide +kernel) ⟨by decide, by decide⟩
    | k + 1, h1, _ => simp at h1
  · intro d hd
    simp only [cL_plan_h, List.mem_cons, List.not_mem_nil, or_false] at hd
    rcases hd with rfl | rfl
    · exact ⟨hk_13, by decide⟩
    · exact ⟨hk_24, by decide⟩
  · intro d hd
    simp only [cL_plan_h, List.mem_cons, List.not_mem_nil, or_false] at hd
    rcases hd with rfl | rfl
    · exact hc_13
    · exact hc_24

