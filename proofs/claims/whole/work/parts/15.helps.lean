theorem hk_13 : Cond.classLink RL 13 "java/lang/IllegalArgumentException" ∈ wG := wG_at 602 (by decide +kernel) rfl
theorem hc_13 : Cond.castable "java/lang/IllegalArgumentException" "java/lang/IllegalArgumentException" ∈ ngW := ngW_at 613 (by decide +kernel) rfl
theorem hk_18 : Cond.classLink RL 18 "java/lang/IllegalStateException" ∈ wG := wG_at 862 (by decide +kernel) rfl
theorem hc_18 : Cond.castable "java/lang/IllegalStateException" "java/lang/IllegalStateException" ∈ ngW := ngW_at 873 (by decide +kernel) rfl
theorem hk_24 : Cond.classLink RL 24 "java/util/NoSuchElementException" ∈ wG := wG_at 890 (by decide +kernel) rfl
theorem hc_24 : Cond.castable "java/util/NoSuchElementException" "java/util/NoSuchElementException" ∈ ngW := ngW_at 901 (by decide +kernel) rfl
def pL_text : List PI := [(0, 1, [], 0, 0, .aload_n 2), (1, 1, [], 0, 0, .iconst 0), (2, 1, [], 0, 0, .aload_n 0), (3, 1, [], 0, 0, .iload_n 1), (4, 3, [0], 0, 0, .invokevirtual 7), (7, 1, [], 0, 0, .i2l), (8, 1, [], 0, 0, .lastore), (9, 3, [15], 0, 0, .goto 6), (12, 1, [], 0, 0, .astore_n 3), (13, 1, [], 1, 0, .iconst 1), (14, 1, [], 0, 0, .ireturn), (15, 1, [], 0, 0, .iconst 0), (16, 1, [], 0, 0, .ireturn)]
theorem oL_text : OKL RL cL_text pL_text := OKL_of (by decide +kernel) (by decide +kernel)
def kL_text : List (Nat × Nat × SP) := [(2, 1, vsp 9 sX9_text)]
def cL_text_h : List HE := [("java/lang/IllegalArgumentException", 12, 13, 1)]
def sL_text : SP := RUN pL_text kL_text (hdlH cL_text_h 9) [] 4 (some .int) 1
theorem wl_RL_7 : Cond.methodLink RL 7 yX9_text ∈ wG := wG_at 603 (by decide +kernel) rfl
theorem wn_X9_text : Cond.instanceMethod yX9_text ∈ wG := wG_at 604 (by decide +kernel) rfl
theorem ws_X9_text : Cond.selects yX9_text.cls yX9_text yX9_text ∈ wG := wG_at 605 (by decide +kernel) rfl
theorem wc_X9_text : Cond.code yX9_text cX9_text 2 (some .int) ∈ wG := wG_at 606 (by decide +kernel) rfl
theorem wh_L_text : Cond.codeWith yL_text cL_text 4 (some .int) (tabH cL_text_h 9) ∈ wG := wG_at 601 (by decide +kernel) rfl
theorem wt_L_text : Cond.static yL_text ∈ wG := wG_at 600 (by decide +kernel) rfl
theorem mL_text {l : Launch} {b : Nat} {D : va_G} {cA sa adV : Nat → Nat} (hl : l.stackTraces = false) : CnH l b D cA sa adV yL_text cL_text 4 (some .int) (tabH cL_text_h 9) 10 275 1 sL_text := by
  refine CnH_of (calls := kL_text) (by decide +kernel) oL_text (hC_of (cidx := [(0, 7)]) (by decide +kernel) (fun p e s m args below meth c Q Y k kd x na mc tr h1 h2 => ?_)) (hL_of (by decide +kernel)) (by decide +kernel) (by decide +kernel) ?_ ?_
  · match k, h1, h2 with
    | 0, h1, h2 => cases h1; cases h2; exact callV_of Y (mX9_text hl) wl_RL_7 wn_X9_text ws_X9_text wi_RX9 wc_X9_text (T := TX9) (N := _) rfl (by decide +kernel) ⟨by decide, by decide⟩
    | k + 1, h1, _ => simp at h1
  · intro d hd
    simp only [cL_text_h, List.mem_cons, List.not_mem_nil, or_false] at hd
    rcases hd with rfl
    · exact ⟨hk_13, by decide⟩
  · intro d hd
    simp only [cL_text_h, List.mem_cons, List.not_mem_nil, or_false] at hd
    rcases hd with rfl
    · exact hc_13
def pL_start : List PI := [(0, 1, [], 0, 0, .aload_n 2), (1, 1, [], 0, 0, .iconst 0), (2, 1, [], 0, 0, .aload_n 0), (3, 1, [], 0, 0, .iload_n 1), (4, 3, [0], 0, 0, .invokevirtual 15), (7, 1, [], 0, 0, .i2l), (8, 1, [], 0, 0, .lastore), (9, 3, [18], 0, 0, .goto 9), (12, 1, [], 0, 0, .astore_n 3), (13, 1, [], 1, 0, .iconst 1), (14, 1, [], 0, 0, .ireturn), (15, 1, [], 0, 0, .astore_n 3), (16, 1, [], 2, 0, .iconst 2), (17, 1, [], 0, 0, .ireturn), (18, 1, [], 0, 0, .iconst 0), (19, 1, [], 0, 0, .ireturn)]
theorem oL_start : OKL RL cL_start pL_start := OKL_of (by decide +kernel) (by decide +kernel)
def kL_start : List (Nat × Nat × SP) := [(2, 2, vsp 9 sX9_start)]
def cL_start_h : List HE := [("java/lang/IllegalArgumentException", 12, 13, 1), ("java/lang/IllegalStateException", 15, 18, 1)]
def sL_start : SP := RUN pL_start kL_start (hdlH cL_start_h 9) [] 4 (some .int) 2
theorem wl_RL_15 : Cond.methodLink RL 15 yX9_start ∈ wG := wG_at 863 (by decide +kernel) rfl
theorem wn_X9_start : Cond.instanceMethod yX9_start ∈ wG := wG_at 864 (by decide +kernel) rfl
theorem ws_X9_start : Cond.selects yX9_start.cls yX9_start yX9_start ∈ wG := wG_at 865 (by decide +kernel) rfl
theorem wc_X9_start : Cond.code yX9_start cX9_start 2 (some .int) ∈ wG := wG_at 866 (by decide +kernel) rfl
theorem wh_L_start : Cond.codeWith yL_start cL_start 4 (some .int) (tabH cL_start_h 9) ∈ wG := wG_at 861 (by decide +kernel) rfl
theorem wt_L_start : Cond.static yL_start ∈ wG := wG_at 860 (by decide +kernel) rfl
theorem mL_start {l : Launch} {b : Nat} {D : va_G} {cA sa adV : Nat → Nat} (hl : l.stackTraces = false) : CnH l b D cA sa adV yL_start cL_start 4 (some .int) (tabH cL_start_h 9) 8 154 2 sL_start := by
  refine CnH_of (calls := kL_start) (by decide +kernel) oL_start (hC_of (cidx := [(0, 15)]) (by decide +kernel) (fun p e s m args below meth c Q Y k kd x na mc tr h1 h2 => ?_)) (hL_of (by decide +kernel)) (by decide +kernel) (by decide +kernel) ?_ ?_
  · match k, h1, h2 with
    | 0, h1, h2 => cases h1; cases h2; exact callV_of Y (mX9_start hl) wl_RL_15 wn_X9_start ws_X9_start wi_RX9 wc_X9_start (T := TX9) (N := _) rfl (by decide +kernel) ⟨by decide, by decide⟩
    | k + 1, h1, _ => simp at h1
  · intro d hd
    simp only [cL_start_h, List.mem_cons, List.not_mem_nil, or_false] at hd
    rcases hd with rfl | rfl
    · exact ⟨hk_13, by decide⟩
    · exact ⟨hk_18, by decide⟩
  · intro d hd
    simp only [cL_start_h, List.mem_cons, List.not_mem_nil, or_false] at hd
    rcases hd with rfl | rfl
    · exact hc_13
    · exact hc_18
def pL_spend : List PI := [(0, 2, [], 0, 0, .aload 4), (2, 1, [], 0, 0, .iconst 0), (3, 1, [], 0, 0, .aload_n 0), (4, 1, [], 0, 0, .iload_n 1), (5, 1, [], 0, 0, .iload_n 2), (6, 1, [], 0, 0, .iload_n 3), (7, 3, [0], 0, 0, .invokevirtual 20), (10, 1, [], 0, 0, .i2l), (11, 1, [], 0, 0, .lastore), (12, 3, [27], 0, 0, .goto 15), (15, 2, [], 0, 0, .astore 5), (17, 1, [], 1, 0, .iconst 1), (18, 1, [], 0, 0, .ireturn), (19, 2, [], 0, 0, .astore 5), (21, 1, [], 2, 0, .iconst 2), (22, 1, [], 0, 0, .ireturn), (23, 2, [], 0, 0, .astore 5), (25, 1, [], 3, 0, .iconst 3), (26, 1, [], 0, 0, .ireturn), (27, 1, [], 0, 0, .iconst 0), (28, 1, [], 0, 0, .ireturn)]
theorem oL_spend : OKL RL cL_spend pL_spend := OKL_of (by decide +kernel) (by decide +kernel)
def kL_spend : List (Nat × Nat × SP) := [(4, 4, vsp 9 sX9_spend)]
def cL_spend_h : List HE := [("java/util/NoSuchElementException", 15, 24, 2), ("java/lang/IllegalArgumentException", 19, 13, 2), ("java/lang/IllegalStateException", 23, 18, 2)]
def sL_spend : SP := RUN pL_spend kL_spend (hdlH cL_spend_h 12) [] 6 (some .int) 4
theorem wl_RL_20 : Cond.methodLink RL 20 yX9_spend ∈ wG := wG_at 891 (by decide +kernel) rfl
theorem wn_X9_spend : Cond.instanceMethod yX9_spend ∈ wG := wG_at 892 (by decide +kernel) rfl
theorem ws_X9_spend : Cond.selects yX9_spend.cls yX9_spend yX9_spend ∈ wG := wG_at 893 (by decide +kernel) rfl
theorem wc_X9_spend : Cond.code yX9_spend cX9_spend 5 (some .int) ∈ wG := wG_at 894 (by decide +kernel) rfl
theorem wh_L_spend : Cond.codeWith yL_spend cL_spend 6 (some .int) (tabH cL_spend_h 12) ∈ wG := wG_at 889 (by decide +kernel) rfl
theorem wt_L_spend : Cond.static yL_spend ∈ wG := wG_at 888 (by decide +kernel) rfl
theorem mL_spend {l : Launch} {b : Nat} {D : va_G} {cA sa adV : Nat → Nat} (hl : l.stackTraces = false) : CnH l b D cA sa adV yL_spend cL_spend 6 (some .int) (tabH cL_spend_h 12) 8 157 4 sL_spend := by
  refine CnH_of (calls := kL_spend) (by decide +kernel) oL_spend (hC_of (cidx := [(0, 20)]) (by decide +kernel) (fun p e s m args below meth c Q Y k kd x na mc tr h1 h2 => ?_)) (hL_of (by decide +kernel)) (by decide +kernel) (by decide +kernel) ?_ ?_
  · match k, h1, h2 with
    | 0, h1, h2 => cases h1; cases h2; exact callV_of Y (mX9_spend hl) wl_RL_20 wn_X9_spend ws_X9_spend wi_RX9 wc_X9_spend (T := TX9) (N := _) rfl (by decide +kernel) ⟨by decide, by decide⟩
    | k + 1, h1, _ => simp at h1
  · intro d hd
    simp only [cL_spend_h, List.mem_cons, List.not_mem_nil, or_false] at hd
    rcases hd with rfl | rfl | rfl
    · exact ⟨hk_24, by decide⟩
    · exact ⟨hk_13, by decide⟩
    · exact ⟨hk_18, by decide⟩
  · intro d hd
    simp only [cL_spend_h, List.mem_cons, List.not_mem_nil, or_false] at hd
    rcases hd with rfl | rfl | rfl
    · exact hc_24
    · exact hc_13
    · exact hc_18
def pL_lost : List PI := [(0, 1, [], 0, 0, .aload_n 3), (1, 1, [], 0, 0, .iconst 0), (2, 1, [], 0, 0, .aload_n 0), (3, 1, [], 0, 0, .iload_n 1), (4, 1, [], 0, 0, .iload_n 2), (5, 3, [0], 0, 0, .invokevirtual 26), (8, 1, [], 0, 0, .i2l), (9, 1, [], 0, 0, .lastore), (10, 3, [21], 0, 0, .goto 11), (13, 2, [], 0, 0, .astore 4), (15, 1, [], 1, 0, .iconst 1), (16, 1, [], 0, 0, .ireturn), (17, 2, [], 0, 0, .astore 4), (19, 1, [], 2, 0, .iconst 2), (20, 1, [], 0, 0, .ireturn), (21, 1, [], 0, 0, .iconst 0), (22, 1, [], 0, 0, .ireturn)]
theorem oL_lost : OKL RL cL_lost pL_lost := OKL_of (by decide +kernel) (by decide +kernel)
def kL_lost : List (Nat × Nat × SP) := [(3, 2, vsp 9 sX9_lost)]
def cL_lost_h : List HE := [("java/util/NoSuchElementException", 13, 24, 2), ("java/lang/IllegalArgumentException", 17, 13, 2)]
def sL_lost : SP := RUN pL_lost kL_lost (hdlH cL_lost_h 10) [] 5 (some .int) 2
theorem wl_RL_26 : Cond.methodLink RL 26 yX9_lost ∈ wG := wG_at 929 (by decide +kernel) rfl
theorem wn_X9_lost : Cond.instanceMethod yX9_lost ∈ wG := wG_at 930 (by decide +kernel) rfl
theorem ws_X9_lost : Cond.selects yX9_lost.cls yX9_lost yX9_lost ∈ wG := wG_at 931 (by decide +kernel) rfl
theorem wc_X9_lost : Cond.code yX9_lost cX9_lost 5 (some .int) ∈ wG := wG_at 932 (by decide +kernel) rfl
theorem wh_L_lost : Cond.codeWith yL_lost cL_lost 5 (some .int) (tabH cL_lost_h 10) ∈ wG := wG_at 928 (by decide +kernel) rfl
theorem wt_L_lost : Cond.static yL_lost ∈ wG := wG_at 927 (by decide +kernel) rfl
theorem mL_lost {l : Launch} {b : Nat} {D : va_G} {cA sa adV : Nat → Nat} (hl : l.stackTraces = false) : CnH l b D cA sa adV yL_lost cL_lost 5 (some .int) (tabH cL_lost_h 10) 8 157 2 sL_lost := by
  refine CnH_of (calls := kL_lost) (by decide +kernel) oL_lost (hC_of (cidx := [(0, 26)]) (by decide +kernel) (fun p e s m args below meth c Q Y k kd x na mc tr h1 h2 => ?_)) (hL_of (by decide +kernel)) (by decide +kernel) (by decide +kernel) ?_ ?_
  · match k, h1, h2 with
    | 0, h1, h2 => cases h1; cases h2; exact callV_of Y (mX9_lost hl) wl_RL_26 wn_X9_lost ws_X9_lost wi_RX9 wc_X9_lost (T := TX9) (N := _) rfl (by decide +kernel) ⟨by decide, by decide⟩
    | k + 1, h1, _ => simp at h1
  · intro d hd
    simp only [cL_lost_h, List.mem_cons, List.not_mem_nil, or_false] at hd
    rcases hd with rfl | rfl
    · exact ⟨hk_24, by decide⟩
    · exact ⟨hk_13, by decide⟩
  · intro d hd
    simp only [cL_lost_h, List.mem_cons, List.not_mem_nil, or_false] at hd
    rcases hd with rfl | rfl
    · exact hc_24
    · exact hc_13
def pL_left : List PI := [(0, 2, [], 0, 0, .aload 4), (2, 1, [], 0, 0, .iconst 0), (3, 1, [], 0, 0, .aload_n 0), (4, 1, [], 0, 0, .iload_n 1), (5, 1, [], 0, 0, .iload_n 2), (6, 1, [], 0, 0, .iload_n 3), (7, 3, [0], 0, 0, .invokevirtual 30), (10, 1, [], 0, 0, .i2l), (11, 1, [], 0, 0, .lastore), (12, 3, [23], 0, 0, .goto 11), (15, 2, [], 0, 0, .astore 5), (17, 1, [], 1, 0, .iconst 1), (18, 1, [], 0, 0, .ireturn), (19, 2, [], 0, 0, .astore 5), (21, 1, [], 2, 0, .iconst 2), (22, 1, [], 0, 0, .ireturn), (23, 1, [], 0, 0, .iconst 0), (24, 1, [], 0, 0, .ireturn)]
theorem oL_left : OKL RL cL_left pL_left := OKL_of (by decide +kernel) (by decide +kernel)
def kL_left : List (Nat × Nat × SP) := [(4, 3, vsp 9 sX9_left)]
def cL_left_h : List HE := [("java/util/NoSuchElementException", 15, 24, 2), ("java/lang/IllegalArgumentException", 19, 13, 2)]
def sL_left : SP := RUN pL_left kL_left (hdlH cL_left_h 12) [] 6 (some .int) 3
theorem wl_RL_30 : Cond.methodLink RL 30 yX9_left ∈ wG := wG_at 937 (by decide +kernel) rfl
theorem wn_X9_left : Cond.instanceMethod yX9_left ∈ wG := wG_at 938 (by decide +kernel) rfl
theorem ws_X9_left : Cond.selects yX9_left.cls yX9_left yX9_left ∈ wG := wG_at 939 (by decide +kernel) rfl
theorem wc_X9_left : Cond.code yX9_left cX9_left 6 (some .int) ∈ wG := wG_at 940 (by decide +kernel) rfl
theorem wh_L_left : Cond.codeWith yL_left cL_left 6 (some .int) (tabH cL_left_h 12) ∈ wG := wG_at 936 (by decide +kernel) rfl
theorem wt_L_left : Cond.static yL_left ∈ wG := wG_at 935 (by decide +kernel) rfl
theorem mL_left {l : Launch} {b : Nat} {D : va_G} {cA sa adV : Nat → Nat} (hl : l.stackTraces = false) : CnH l b D cA sa adV yL_left cL_left 6 (some .int) (tabH cL_left_h 12) 8 158 3 sL_left := by
  refine CnH_of (calls := kL_left) (by decide +kernel) oL_left (hC_of (cidx := [(0, 30)]) (by decide +kernel) (fun p e s m args below meth c Q Y k kd x na mc tr h1 h2 => ?_)) (hL_of (by decide +kernel)) (by decide +kernel) (by decide +kernel) ?_ ?_
  · match k, h1, h2 with
    | 0, h1, h2 => cases h1; cases h2; exact callV_of Y (mX9_left hl) wl_RL_30 wn_X9_left ws_X9_left wi_RX9 wc_X9_left (T := TX9) (N := _) rfl (by decide +kernel) ⟨by decide, by decide⟩
    | k + 1, h1, _ => simp at h1
  · intro d hd
    simp only [cL_left_h, List.mem_cons, List.not_mem_nil, or_false] at hd
    rcases hd with rfl | rfl
    · exact ⟨hk_24, by decide⟩
    · exact ⟨hk_13, by decide⟩
  · intro d hd
    simp only [cL_left_h, List.mem_cons, List.not_mem_nil, or_false] at hd
    rcases hd with rfl | rfl
    · exact hc_24
    · exact hc_13
def pL_close : List PI := [(0, 1, [], 0, 0, .aload_n 1), (1, 1, [], 0, 0, .iconst 0), (2, 1, [], 0, 0, .aload_n 0), (3, 3, [0], 0, 0, .invokevirtual 33), (6, 1, [], 0, 0, .lastore), (7, 3, [13], 0, 0, .goto 6), (10, 1, [], 0, 0, .astore_n 2), (11, 1, [], 1, 0, .iconst 1), (12, 1, [], 0, 0, .ireturn), (13, 1, [], 0, 0, .iconst 0), (14, 1, [], 0, 0, .ireturn)]
theorem oL_close : OKL RL cL_close pL_close := OKL_of (by decide +kernel) (by decide +kernel)
def kL_close : List (Nat × Nat × SP) := [(1, 1, vsp 9 sX9_close)]
def cL_close_h : List HE := [("java/lang/IllegalStateException", 10, 18, 1)]
def sL_close : SP := RUN pL_close kL_close (hdlH cL_close_h 7) [] 3 (some .int) 1
theorem wl_RL_33 : Cond.methodLink RL 33 yX9_close ∈ wG := wG_at 944 (by decide +kernel) rfl
theorem wn_X9_close : Cond.instanceMethod yX9_close ∈ wG := wG_at 945 (by decide +kernel) rfl
theorem ws_X9_close : Cond.selects yX9_close.cls yX9_close yX9_close ∈ wG := wG_at 946 (by decide +kernel) rfl
theorem wc_X9_close : Cond.code yX9_close cX9_close 2 (some .long) ∈ wG := wG_at 947 (by decide +kernel) rfl
theorem wh_L_close : Cond.codeWith yL_close cL_close 3 (some .int) (tabH cL_close_h 7) ∈ wG := wG_at 943 (by decide +kernel) rfl
theorem wt_L_close : Cond.static yL_close ∈ wG := wG_at 942 (by decide +kernel) rfl
theorem mL_close {l : Launch} {b : Nat} {D : va_G} {cA sa adV : Nat → Nat} (hl : l.stackTraces = false) : CnH l b D cA sa adV yL_close cL_close 3 (some .int) (tabH cL_close_h 7) 8 154 1 sL_close := by
  refine CnH_of (calls := kL_close) (by decide +kernel) oL_close (hC_of (cidx := [(0, 33)]) (by decide +kernel) (fun p e s m args below meth c Q Y k kd x na mc tr h1 h2 => ?_)) (hL_of (by decide +kernel)) (by decide +kernel) (by decide +kernel) ?_ ?_
  · match k, h1, h2 with
    | 0, h1, h2 => cases h1; cases h2; exact callV_of Y (mX9_close hl) wl_RL_33 wn_X9_close ws_X9_close wi_RX9 wc_X9_close (T := TX9) (N := _) rfl (by decide +kernel) ⟨by decide, by decide⟩
    | k + 1, h1, _ => simp at h1
  · intro d hd
    simp only [cL_close_h, List.mem_cons, List.not_mem_nil, or_false] at hd
    rcases hd with rfl
    · exact ⟨hk_18, by decide⟩
  · intro d hd
    simp only [cL_close_h, List.mem_cons, List.not_mem_nil, or_false] at hd
    rcases hd with rfl
    · exact hc_18
def pL_sell : List PI := [(0, 1, [], 0, 0, .aload_n 3), (1, 1, [], 0, 0, .iconst 0), (2, 1, [], 0, 0, .aload_n 0), (3, 1, [], 0, 0, .iload_n 1), (4, 1, [], 0, 0, .iload_n 2), (5, 3, [0], 0, 0, .invokevirtual 37), (8, 1, [], 0, 0, .lastore), (9, 3, [24], 0, 0, .goto 15), (12, 2, [], 0, 0, .astore 4), (14, 1, [], 1, 0, .iconst 1), (15, 1, [], 0, 0, .ireturn), (16, 2, [], 0, 0, .astore 4), (18, 1, [], 2, 0, .iconst 2), (19, 1, [], 0, 0, .ireturn), (20, 2, [], 0, 0, .astore 4), (22, 1, [], 3, 0, .iconst 3), (23, 1, [], 0, 0, .ireturn), (24, 1, [], 0, 0, .iconst 0), (25, 1, [], 0, 0, .ireturn)]
theorem oL_sell : OKL RL cL_sell pL_sell := OKL_of (by decide +kernel) (by decide +kernel)
def kL_sell : List (Nat × Nat × SP) := [(3, 3, vsp 9 sX9_sell)]
def cL_sell_h : List HE := [("java/util/NoSuchElementException", 12, 24, 2), ("java/lang/IllegalArgumentException", 16, 13, 2), ("java/lang/IllegalStateException", 20, 18, 2)]
def sL_sell : SP := RUN pL_sell kL_sell (hdlH cL_sell_h 9) [] 5 (some .int) 3
theorem wl_RL_37 : Cond.methodLink RL 37 yX9_sell ∈ wG := wG_at 1062 (by decide +kernel) rfl
theorem wn_X9_sell : Cond.instanceMethod yX9_sell ∈ wG := wG_at 1063 (by decide +kernel) rfl
theorem ws_X9_sell : Cond.selects yX9_sell.cls yX9_sell yX9_sell ∈ wG := wG_at 1064 (by decide +kernel) rfl
theorem wc_X9_sell : Cond.code yX9_sell cX9_sell 6 (some .long) ∈ wG := wG_at 1065 (by decide +kernel) rfl
theorem wh_L_sell : Cond.codeWith yL_sell cL_sell 5 (some .int) (tabH cL_sell_h 9) ∈ wG := wG_at 1061 (by decide +kernel) rfl
theorem wt_L_sell : Cond.static yL_sell ∈ wG := wG_at 1060 (by decide +kernel) rfl
theorem mL_sell {l : Launch} {b : Nat} {D : va_G} {cA sa adV : Nat → Nat} (hl : l.stackTraces = false) : CnH l b D cA sa adV yL_sell cL_sell 5 (some .int) (tabH cL_sell_h 9) 8 158 3 sL_sell := by
  refine CnH_of (calls := kL_sell) (by decide +kernel) oL_sell (hC_of (cidx := [(0, 37)]) (by decide +kernel) (fun p e s m args below meth c Q Y k kd x na mc tr h1 h2 => ?_)) (hL_of (by decide +kernel)) (by decide +kernel) (by decide +kernel) ?_ ?_
  · match k, h1, h2 with
    | 0, h1, h2 => cases h1; cases h2; exact callV_of Y (mX9_sell hl) wl_RL_37 wn_X9_sell ws_X9_sell wi_RX9 wc_X9_sell (T := TX9) (N := _) rfl (by decide +kernel) ⟨by decide, by decide⟩
    | k + 1, h1, _ => simp at h1
  · intro d hd
    simp only [cL_sell_h, List.mem_cons, List.not_mem_nil, or_false] at hd
    rcases hd with rfl | rfl | rfl
    · exact ⟨hk_24, by decide⟩
    · exact ⟨hk_13, by decide⟩
    · exact ⟨hk_18, by decide⟩
  · intro d hd
    simp only [cL_sell_h, List.mem_cons, List.not_mem_nil, or_false] at hd
    rcases hd with rfl | rfl | rfl
    · exact hc_24
    · exact hc_13
    · exact hc_18
def pL_told : List PI := [(0, 1, [], 0, 0, .aload_n 2), (1, 1, [], 0, 0, .iconst 0), (2, 1, [], 0, 0, .aload_n 0), (3, 1, [], 0, 0, .iload_n 1), (4, 3, [0], 0, 0, .invokevirtual 41), (7, 1, [], 0, 0, .i2l), (8, 1, [], 0, 0, .lastore), (9, 3, [15], 0, 0, .goto 6), (12, 1, [], 0, 0, .astore_n 3), (13, 1, [], 1, 0, .iconst 1), (14, 1, [], 0, 0, .ireturn), (15, 1, [], 0, 0, .iconst 0), (16, 1, [], 0, 0, .ireturn)]
theorem oL_told : OKL RL cL_told pL_told := OKL_of (by decide +kernel) (by decide +kernel)
def kL_told : List (Nat × Nat × SP) := [(2, 1, vsp 9 sX9_told)]
def cL_told_h : List HE := [("java/lang/IllegalArgumentException", 12, 13, 1)]
def sL_told : SP := RUN pL_told kL_told (hdlH cL_told_h 9) [] 4 (some .int) 1
theorem wl_RL_41 : Cond.methodLink RL 41 yX9_told ∈ wG := wG_at 1084 (by decide +kernel) rfl
theorem wn_X9_told : Cond.instanceMethod yX9_told ∈ wG := wG_at 1085 (by decide +kernel) rfl
theorem ws_X9_told : Cond.selects yX9_told.cls yX9_told yX9_told ∈ wG := wG_at 1086 (by decide +kernel) rfl
theorem wc_X9_told : Cond.code yX9_told cX9_told 2 (some .int) ∈ wG := wG_at 1087 (by decide +kernel) rfl
theorem wh_L_told : Cond.codeWith yL_told cL_told 4 (some .int) (tabH cL_told_h 9) ∈ wG := wG_at 1083 (by decide +kernel) rfl
theorem wt_L_told : Cond.static yL_told ∈ wG := wG_at 1082 (by decide +kernel) rfl
theorem mL_told {l : Launch} {b : Nat} {D : va_G} {cA sa adV : Nat → Nat} (hl : l.stackTraces = false) : CnH l b D cA sa adV yL_told cL_told 4 (some .int) (tabH cL_told_h 9) 8 134 1 sL_told := by
  refine CnH_of (calls := kL_told) (by decide +kernel) oL_told (hC_of (cidx := [(0, 41)]) (by decide +kernel) (fun p e s m args below meth c Q Y k kd x na mc tr h1 h2 => ?_)) (hL_of (by decide +kernel)) (by decide +kernel) (by decide +kernel) ?_ ?_
  · match k, h1, h2 with
    | 0, h1, h2 => cases h1; cases h2; exact callV_of Y (mX9_told hl) wl_RL_41 wn_X9_told ws_X9_told wi_RX9 wc_X9_told (T := TX9) (N := _) rfl (by decide +kernel) ⟨by decide, by decide⟩
    | k + 1, h1, _ => simp at h1
  · intro d hd
    simp only [cL_told_h, List.mem_cons, List.not_mem_nil, or_false] at hd
    rcases hd with rfl
    · exact ⟨hk_13, by decide⟩
  · intro d hd
    simp only [cL_told_h, List.mem_cons, List.not_mem_nil, or_false] at hd
    rcases hd with rfl
    · exact hc_13
def pL_department : List PI := [(0, 1, [], 0, 0, .aload_n 3), (1, 1, [], 0, 0, .iconst 0), (2, 1, [], 0, 0, .aload_n 0), (3, 1, [], 0, 0, .iload_n 1), (4, 1, [], 0, 0, .iload_n 2), (5, 3, [0], 0, 0, .invokevirtual 44), (8, 1, [], 0, 0, .i2l), (9, 1, [], 0, 0, .lastore), (10, 3, [21], 0, 0, .goto 11), (13, 2, [], 0, 0, .astore 4), (15, 1, [], 1, 0, .iconst 1), (16, 1, [], 0, 0, .ireturn), (17, 2, [], 0, 0, .astore 4), (19, 1, [], 2, 0, .iconst 2), (20, 1, [], 0, 0, .ireturn), (21, 1, [], 0, 0, .iconst 0), (22, 1, [], 0, 0, .ireturn)]
theorem oL_department : OKL RL cL_department pL_department := OKL_of (by decide +kernel) (by decide +kernel)
def kL_department : List (Nat × Nat × SP) := [(3, 2, vsp 9 sX9_department)]
def cL_department_h : List HE := [("java/util/NoSuchElementException", 13, 24, 2), ("java/lang/IllegalArgumentException", 17, 13, 2)]
def sL_department : SP := RUN pL_department kL_department (hdlH cL_department_h 10) [] 5 (some .int) 2
theorem wl_RL_44 : Cond.methodLink RL 44 yX9_department ∈ wG := wG_at 1091 (by decide +kernel) rfl
theorem wn_X9_department : Cond.instanceMethod yX9_department ∈ wG := wG_at 1092 (by decide +kernel) rfl
theorem ws_X9_department : Cond.selects yX9_department.cls yX9_department yX9_department ∈ wG := wG_at 1093 (by decide +kernel) rfl
theorem wc_X9_department : Cond.code yX9_department cX9_department 4 (some .int) ∈ wG := wG_at 1094 (by decide +kernel) rfl
theorem wh_L_department : Cond.codeWith yL_department cL_department 5 (some .int) (tabH cL_department_h 10) ∈ wG := wG_at 1090 (by decide +kernel) rfl
theorem wt_L_department : Cond.static yL_department ∈ wG := wG_at 1089 (by decide +kernel) rfl
theorem mL_department {l : Launch} {b : Nat} {D : va_G} {cA sa adV : Nat → Nat} (hl : l.stackTraces = false) : CnH l b D cA sa adV yL_department cL_department 5 (some .int) (tabH cL_department_h 10) 8 136 2 sL_department := by
  refine CnH_of (calls := kL_department) (by decide +kernel) oL_department (hC_of (cidx := [(0, 44)]) (by decide +kernel) (fun p e s m args below meth c Q Y k kd x na mc tr h1 h2 => ?_)) (hL_of (by decide +kernel)) (by decide +kernel) (by decide +kernel) ?_ ?_
  · match k, h1, h2 with
    | 0, h1, h2 => cases h1; cases h2; exact callV_of Y (mX9_department hl) wl_RL_44 wn_X9_department ws_X9_department wi_RX9 wc_X9_department (T := TX9) (N := _) rfl (by decide +kernel) ⟨by decide, by decide⟩
    | k + 1, h1, _ => simp at h1
  · intro d hd
    simp only [cL_department_h, List.mem_cons, List.not_mem_nil, or_false] at hd
    rcases hd with rfl | rfl
    · exact ⟨hk_24, by decide⟩
    · exact ⟨hk_13, by decide⟩
  · intro d hd
    simp only [cL_department_h, List.mem_cons, List.not_mem_nil, or_false] at hd
    rcases hd with rfl | rfl
    · exact hc_24
    · exact hc_13
def pL_product : List PI := [(0, 1, [], 0, 0, .aload_n 3), (1, 1, [], 0, 0, .iconst 0), (2, 1, [], 0, 0, .aload_n 0), (3, 1, [], 0, 0, .iload_n 1), (4, 1, [], 0, 0, .iload_n 2), (5, 3, [0], 0, 0, .invokevirtual 47), (8, 1, [], 0, 0, .i2l), (9, 1, [], 0, 0, .lastore), (10, 3, [21], 0, 0, .goto 11), (13, 2, [], 0, 0, .astore 4), (15, 1, [], 1, 0, .iconst 1), (16, 1, [], 0, 0, .ireturn), (17, 2, [], 0, 0, .astore 4), (19, 1, [], 2, 0, .iconst 2), (20, 1, [], 0, 0, .ireturn), (21, 1, [], 0, 0, .iconst 0), (22, 1, [], 0, 0, .ireturn)]
theorem oL_product : OKL RL cL_product pL_product := OKL_of (by decide +kernel) (by decide +kernel)
def kL_product : List (Nat × Nat × SP) := [(3, 2, vsp 9 sX9_product)]
def cL_product_h : List HE := [("java/util/NoSuchElementException", 13, 24, 2), ("java/lang/IllegalArgumentException", 17, 13, 2)]
def sL_product : SP := RUN pL_product kL_product (hdlH cL_product_h 10) [] 5 (some .int) 2
theorem wl_RL_47 : Cond.methodLink RL 47 yX9_product ∈ wG := wG_at 1098 (by decide +kernel) rfl
theorem wn_X9_product : Cond.instanceMethod yX9_product ∈ wG := wG_at 1099 (by decide +kernel) rfl
theorem ws_X9_product : Cond.selects yX9_product.cls yX9_product yX9_product ∈ wG := wG_at 1100 (by decide +kernel) rfl
theorem wc_X9_product : Cond.code yX9_product cX9_product 4 (some .int) ∈ wG := wG_at 1101 (by decide +kernel) rfl
theorem wh_L_product : Cond.codeWith yL_product cL_product 5 (some .int) (tabH cL_product_h 10) ∈ wG := wG_at 1097 (by decide +kernel) rfl
theorem wt_L_product : Cond.static yL_product ∈ wG := wG_at 1096 (by decide +kernel) rfl
theorem mL_product {l : Launch} {b : Nat} {D : va_G} {cA sa adV : Nat → Nat} (hl : l.stackTraces = false) : CnH l b D cA sa adV yL_product cL_product 5 (some .int) (tabH cL_product_h 10) 8 136 2 sL_product := by
  refine CnH_of (calls := kL_product) (by decide +kernel) oL_product (hC_of (cidx := [(0, 47)]) (by decide +kernel) (fun p e s m args below meth c Q Y k kd x na mc tr h1 h2 => ?_)) (hL_of (by decide +kernel)) (by decide +kernel) (by decide +kernel) ?_ ?_
  · match k, h1, h2 with
    | 0, h1, h2 => cases h1; cases h2; exact callV_of Y (mX9_product hl) wl_RL_47 wn_X9_product ws_X9_product wi_RX9 wc_X9_product (T := TX9) (N := _) rfl (by decide +kernel) ⟨by decide, by decide⟩
    | k + 1, h1, _ => simp at h1
  · intro d hd
    simp only [cL_product_h, List.mem_cons, List.not_mem_nil, or_false] at hd
    rcases hd with rfl | rfl
    · exact ⟨hk_24, by decide⟩
    · exact ⟨hk_13, by decide⟩
  · intro d hd
    simp only [cL_product_h, List.mem_cons, List.not_mem_nil, or_false] at hd
    rcases hd with rfl | rfl
    · exact hc_24
    · exact hc_13
def pL_work : List PI := [(0, 1, [], 0, 0, .aload_n 3), (1, 1, [], 0, 0, .iconst 0), (2, 1, [], 0, 0, .aload_n 0), (3, 1, [], 0, 0, .iload_n 1), (4, 1, [], 0, 0, .iload_n 2), (5, 3, [0], 0, 0, .invokevirtual 50), (8, 1, [], 0, 0, .lastore), (9, 3, [20], 0, 0, .goto 11), (12, 2, [], 0, 0, .astore 4), (14, 1, [], 1, 0, .iconst 1), (15, 1, [], 0, 0, .ireturn), (16, 2, [], 0, 0, .astore 4), (18, 1, [], 2, 0, .iconst 2), (19, 1, [], 0, 0, .ireturn), (20, 1, [], 0, 0, .iconst 0), (21, 1, [], 0, 0, .ireturn)]
theorem oL_work : OKL RL cL_work pL_work := OKL_of (by decide +kernel) (by decide +kernel)
def kL_work : List (Nat × Nat × SP) := [(3, 2, vsp 9 sX9_work)]
def cL_work_h : List HE := [("java/util/NoSuchElementException", 12, 24, 2), ("java/lang/IllegalArgumentException", 16, 13, 2)]
def sL_work : SP := RUN pL_work kL_work (hdlH cL_work_h 9) [] 5 (some .int) 2
theorem wl_RL_50 : Cond.methodLink RL 50 yX9_work ∈ wG := wG_at 1105 (by decide +kernel) rfl
theorem wn_X9_work : Cond.instanceMethod yX9_work ∈ wG := wG_at 1106 (by decide +kernel) rfl
theorem ws_X9_work : Cond.selects yX9_work.cls yX9_work yX9_work ∈ wG := wG_at 1107 (by decide +kernel) rfl
theorem wc_X9_work : Cond.code yX9_work cX9_work 4 (some .long) ∈ wG := wG_at 1108 (by decide +kernel) rfl
theorem wh_L_work : Cond.codeWith yL_work cL_work 5 (some .int) (tabH cL_work_h 9) ∈ wG := wG_at 1104 (by decide +kernel) rfl
theorem wt_L_work : Cond.static yL_work ∈ wG := wG_at 1103 (by decide +kernel) rfl
theorem mL_work {l : Launch} {b : Nat} {D : va_G} {cA sa adV : Nat → Nat} (hl : l.stackTraces = false) : CnH l b D cA sa adV yL_work cL_work 5 (some .int) (tabH cL_work_h 9) 8 136 2 sL_work := by
  refine CnH_of (calls := kL_work) (by decide +kernel) oL_work (hC_of (cidx := [(0, 50)]) (by decide +kernel) (fun p e s m args below meth c Q Y k kd x na mc tr h1 h2 => ?_)) (hL_of (by decide +kernel)) (by decide +kernel) (by decide +kernel) ?_ ?_
  · match k, h1, h2 with
    | 0, h1, h2 => cases h1; cases h2; exact callV_of Y (mX9_work hl) wl_RL_50 wn_X9_work ws_X9_work wi_RX9 wc_X9_work (T := TX9) (N := _) rfl (by decide +kernel) ⟨by decide, by decide⟩
    | k + 1, h1, _ => simp at h1
  · intro d hd
    simp only [cL_work_h, List.mem_cons, List.not_mem_nil, or_false] at hd
    rcases hd with rfl | rfl
    · exact ⟨hk_24, by decide⟩
    · exact ⟨hk_13, by decide⟩
  · intro d hd
    simp only [cL_work_h, List.mem_cons, List.not_mem_nil, or_false] at hd
    rcases hd with rfl | rfl
    · exact hc_24
    · exact hc_13
def pL_units : List PI := [(0, 1, [], 0, 0, .aload_n 3), (1, 1, [], 0, 0, .iconst 0), (2, 1, [], 0, 0, .aload_n 0), (3, 1, [], 0, 0, .iload_n 1), (4, 1, [], 0, 0, .iload_n 2), (5, 3, [0], 0, 0, .invokevirtual 53), (8, 1, [], 0, 0, .i2l), (9, 1, [], 0, 0, .lastore), (10, 3, [21], 0, 0, .goto 11), (13, 2, [], 0, 0, .astore 4), (15, 1, [], 1, 0, .iconst 1), (16, 1, [], 0, 0, .ireturn), (17, 2, [], 0, 0, .astore 4), (19, 1, [], 2, 0, .iconst 2), (20, 1, [], 0, 0, .ireturn), (21, 1, [], 0, 0, .iconst 0), (22, 1, [], 0, 0, .ireturn)]
theorem oL_units : OKL RL cL_units pL_units := OKL_of (by decide +kernel) (by decide +kernel)
def kL_units : List (Nat × Nat × SP) := [(3, 2, vsp 9 sX9_units)]
def cL_units_h : List HE := [("java/util/NoSuchElementException", 13, 24, 2), ("java/lang/IllegalArgumentException", 17, 13, 2)]
def sL_units : SP := RUN pL_units kL_units (hdlH cL_units_h 10) [] 5 (some .int) 2
theorem wl_RL_53 : Cond.methodLink RL 53 yX9_units ∈ wG := wG_at 1112 (by decide +kernel) rfl
theorem wn_X9_units : Cond.instanceMethod yX9_units ∈ wG := wG_at 1113 (by decide +kernel) rfl
theorem ws_X9_units : Cond.selects yX9_units.cls yX9_units yX9_units ∈ wG := wG_at 1114 (by decide +kernel) rfl
theorem wc_X9_units : Cond.code yX9_units cX9_units 4 (some .int) ∈ wG := wG_at 1115 (by decide +kernel) rfl
theorem wh_L_units : Cond.codeWith yL_units cL_units 5 (some .int) (tabH cL_units_h 10) ∈ wG := wG_at 1111 (by decide +kernel) rfl
theorem wt_L_units : Cond.static yL_units ∈ wG := wG_at 1110 (by decide +kernel) rfl
theorem mL_units {l : Launch} {b : Nat} {D : va_G} {cA sa adV : Nat → Nat} (hl : l.stackTraces = false) : CnH l b D cA sa adV yL_units cL_units 5 (some .int) (tabH cL_units_h 10) 8 136 2 sL_units := by
  refine CnH_of (calls := kL_units) (by decide +kernel) oL_units (hC_of (cidx := [(0, 53)]) (by decide +kernel) (fun p e s m args below meth c Q Y k kd x na mc tr h1 h2 => ?_)) (hL_of (by decide +kernel)) (by decide +kernel) (by decide +kernel) ?_ ?_
  · match k, h1, h2 with
    | 0, h1, h2 => cases h1; cases h2; exact callV_of Y (mX9_units hl) wl_RL_53 wn_X9_units ws_X9_units wi_RX9 wc_X9_units (T := TX9) (N := _) rfl (by decide +kernel) ⟨by decide, by decide⟩
    | k + 1, h1, _ => simp at h1
  · intro d hd
    simp only [cL_units_h, List.mem_cons, List.not_mem_nil, or_false] at hd
    rcases hd with rfl | rfl
    · exact ⟨hk_24, by decide⟩
    · exact ⟨hk_13, by decide⟩
  · intro d hd
    simp only [cL_units_h, List.mem_cons, List.not_mem_nil, or_false] at hd
    rcases hd with rfl | rfl
    · exact hc_24
    · exact hc_13
def pL_asDone : List PI := [(0, 2, [], 0, 0, .aload 4), (2, 1, [], 0, 0, .iconst 0), (3, 1, [], 0, 0, .aload_n 0), (4, 1, [], 0, 0, .iload_n 1), (5, 1, [], 0, 0, .iload_n 2), (6, 1, [], 0, 0, .iload_n 3), (7, 3, [0], 0, 0, .invokevirtual 56), (10, 1, [], 0, 0, .i2l), (11, 1, [], 0, 0, .lastore), (12, 3, [23], 0, 0, .goto 11), (15, 2, [], 0, 0, .astore 5), (17, 1, [], 1, 0, .iconst 1), (18, 1, [], 0, 0, .ireturn), (19, 2, [], 0, 0, .astore 5), (21, 1, [], 2, 0, .iconst 2), (22, 1, [], 0, 0, .ireturn), (23, 1, [], 0, 0, .iconst 0), (24, 1, [], 0, 0, .ireturn)]
theorem oL_asDone : OKL RL cL_asDone pL_asDone := OKL_of (by decide +kernel) (by decide +kernel)
def kL_asDone : List (Nat × Nat × SP) := [(4, 3, vsp 9 sX9_asDone)]
def cL_asDone_h : List HE := [("java/util/NoSuchElementException", 15, 24, 2), ("java/lang/IllegalArgumentException", 19, 13, 2)]
def sL_asDone : SP := RUN pL_asDone kL_asDone (hdlH cL_asDone_h 12) [] 6 (some .int) 3
theorem wl_RL_56 : Cond.methodLink RL 56 yX9_asDone ∈ wG := wG_at 1119 (by decide +kernel) rfl
theorem wn_X9_asDone : Cond.instanceMethod yX9_asDone ∈ wG := wG_at 1120 (by decide +kernel) rfl
theorem ws_X9_asDone : Cond.selects yX9_asDone.cls yX9_asDone yX9_asDone ∈ wG := wG_at 1121 (by decide +kernel) rfl
theorem wc_X9_asDone : Cond.code yX9_asDone cX9_asDone 6 (some .int) ∈ wG := wG_at 1122 (by decide +kernel) rfl
theorem wh_L_asDone : Cond.codeWith yL_asDone cL_asDone 6 (some .int) (tabH cL_asDone_h 12) ∈ wG := wG_at 1118 (by decide +kernel) rfl
theorem wt_L_asDone : Cond.static yL_asDone ∈ wG := wG_at 1117 (by decide +kernel) rfl
theorem mL_asDone {l : Launch} {b : Nat} {D : va_G} {cA sa adV : Nat → Nat} (hl : l.stackTraces = false) : CnH l b D cA sa adV yL_asDone cL_asDone 6 (some .int) (tabH cL_asDone_h 12) 8 138 3 sL_asDone := by
  refine CnH_of (calls := kL_asDone) (by decide +kernel) oL_asDone (hC_of (cidx := [(0, 56)]) (by decide +kernel) (fun p e s m args below meth c Q Y k kd x na mc tr h1 h2 => ?_)) (hL_of (by decide +kernel)) (by decide +kernel) (by decide +kernel) ?_ ?_
  · match k, h1, h2 with
    | 0, h1, h2 => cases h1; cases h2; exact callV_of Y (mX9_asDone hl) wl_RL_56 wn_X9_asDone ws_X9_asDone wi_RX9 wc_X9_asDone (T := TX9) (N := _) rfl (by decide +kernel) ⟨by decide, by decide⟩
    | k + 1, h1, _ => simp at h1
  · intro d hd
    simp only [cL_asDone_h, List.mem_cons, List.not_mem_nil, or_false] at hd
    rcases hd with rfl | rfl
    · exact ⟨hk_24, by decide⟩
    · exact ⟨hk_13, by decide⟩
  · intro d hd
    simp only [cL_asDone_h, List.mem_cons, List.not_mem_nil, or_false] at hd
    rcases hd with rfl | rfl
    · exact hc_24
    · exact hc_13
def pL_cents : List PI := [(0, 2, [], 0, 0, .aload 4), (2, 1, [], 0, 0, .iconst 0), (3, 1, [], 0, 0, .aload_n 0), (4, 1, [], 0, 0, .iload_n 1), (5, 1, [], 0, 0, .iload_n 2), (6, 1, [], 0, 0, .iload_n 3), (7, 3, [0], 0, 0, .invokevirtual 59), (10, 1, [], 0, 0, .lastore), (11, 3, [22], 0, 0, .goto 11), (14, 2, [], 0, 0, .astore 5), (16, 1, [], 1, 0, .iconst 1), (17, 1, [], 0, 0, .ireturn), (18, 2, [], 0, 0, .astore 5), (20, 1, [], 2, 0, .iconst 2), (21, 1, [], 0, 0, .ireturn), (22, 1, [], 0, 0, .iconst 0), (23, 1, [], 0, 0, .ireturn)]
theorem oL_cents : OKL RL cL_cents pL_cents := OKL_of (by decide +kernel) (by decide +kernel)
def kL_cents : List (Nat × Nat × SP) := [(4, 3, vsp 9 sX9_cents)]
def cL_cents_h : List HE := [("java/util/NoSuchElementException", 14, 24, 2), ("java/lang/IllegalArgumentException", 18, 13, 2)]
def sL_cents : SP := RUN pL_cents kL_cents (hdlH cL_cents_h 11) [] 6 (some .int) 3
theorem wl_RL_59 : Cond.methodLink RL 59 yX9_cents ∈ wG := wG_at 1127 (by decide +kernel) rfl
theorem wn_X9_cents : Cond.instanceMethod yX9_cents ∈ wG := wG_at 1128 (by decide +kernel) rfl
theorem ws_X9_cents : Cond.selects yX9_cents.cls yX9_cents yX9_cents ∈ wG := wG_at 1129 (by decide +kernel) rfl
theorem wc_X9_cents : Cond.code yX9_cents cX9_cents 6 (some .long) ∈ wG := wG_at 1130 (by decide +kernel) rfl
theorem wh_L_cents : Cond.codeWith yL_cents cL_cents 6 (some .int) (tabH cL_cents_h 11) ∈ wG := wG_at 1126 (by decide +kernel) rfl
theorem wt_L_cents : Cond.static yL_cents ∈ wG := wG_at 1125 (by decide +kernel) rfl
theorem mL_cents {l : Launch} {b : Nat} {D : va_G} {cA sa adV : Nat → Nat} (hl : l.stackTraces = false) : CnH l b D cA sa adV yL_cents cL_cents 6 (some .int) (tabH cL_cents_h 11) 8 138 3 sL_cents := by
  refine CnH_of (calls := kL_cents) (by decide +kernel) oL_cents (hC_of (cidx := [(0, 59)]) (by decide +kernel) (fun p e s m args below meth c Q Y k kd x na mc tr h1 h2 => ?_)) (hL_of (by decide +kernel)) (by decide +kernel) (by decide +kernel) ?_ ?_
  · match k, h1, h2 with
    | 0, h1, h2 => cases h1; cases h2; exact callV_of Y (mX9_cents hl) wl_RL_59 wn_X9_cents ws_X9_cents wi_RX9 wc_X9_cents (T := TX9) (N := _) rfl (by decide +kernel) ⟨by decide, by decide⟩
    | k + 1, h1, _ => simp at h1
  · intro d hd
    simp only [cL_cents_h, List.mem_cons, List.not_mem_nil, or_false] at hd
    rcases hd with rfl | rfl
    · exact ⟨hk_24, by decide⟩
    · exact ⟨hk_13, by decide⟩
  · intro d hd
    simp only [cL_cents_h, List.mem_cons, List.not_mem_nil, or_false] at hd
    rcases hd with rfl | rfl
    · exact hc_24
    · exact hc_13
def pL_loss : List PI := [(0, 1, [], 0, 0, .aload_n 3), (1, 1, [], 0, 0, .iconst 0), (2, 1, [], 0, 0, .aload_n 0), (3, 1, [], 0, 0, .iload_n 1), (4, 1, [], 0, 0, .iload_n 2), (5, 3, [0], 0, 0, .invokevirtual 63), (8, 1, [], 0, 0, .lastore), (9, 3, [20], 0, 0, .goto 11), (12, 2, [], 0, 0, .astore 4), (14, 1, [], 1, 0, .iconst 1), (15, 1, [], 0, 0, .ireturn), (16, 2, [], 0, 0, .astore 4), (18, 1, [], 2, 0, .iconst 2), (19, 1, [], 0, 0, .ireturn), (20, 1, [], 0, 0, .iconst 0), (21, 1, [], 0, 0, .ireturn)]
theorem oL_loss : OKL RL cL_loss pL_loss := OKL_of (by decide +kernel) (by decide +kernel)
def kL_loss : List (Nat × Nat × SP) := [(3, 2, vsp 9 sX9_loss)]
def cL_loss_h : List HE := [("java/util/NoSuchElementException", 12, 24, 2), ("java/lang/IllegalArgumentException", 16, 13, 2)]
def sL_loss : SP := RUN pL_loss kL_loss (hdlH cL_loss_h 9) [] 5 (some .int) 2
theorem wl_RL_63 : Cond.methodLink RL 63 yX9_loss ∈ wG := wG_at 1134 (by decide +kernel) rfl
theorem wn_X9_loss : Cond.instanceMethod yX9_loss ∈ wG := wG_at 1135 (by decide +kernel) rfl
theorem ws_X9_loss : Cond.selects yX9_loss.cls yX9_loss yX9_loss ∈ wG := wG_at 1136 (by decide +kernel) rfl
theorem wc_X9_loss : Cond.code yX9_loss cX9_loss 5 (some .long) ∈ wG := wG_at 1137 (by decide +kernel) rfl
theorem wh_L_loss : Cond.codeWith yL_loss cL_loss 5 (some .int) (tabH cL_loss_h 9) ∈ wG := wG_at 1133 (by decide +kernel) rfl
theorem wt_L_loss : Cond.static yL_loss ∈ wG := wG_at 1132 (by decide +kernel) rfl
theorem mL_loss {l : Launch} {b : Nat} {D : va_G} {cA sa adV : Nat → Nat} (hl : l.stackTraces = false) : CnH l b D cA sa adV yL_loss cL_loss 5 (some .int) (tabH cL_loss_h 9) 8 137 2 sL_loss := by
  refine CnH_of (calls := kL_loss) (by decide +kernel) oL_loss (hC_of (cidx := [(0, 63)]) (by decide +kernel) (fun p e s m args below meth c Q Y k kd x na mc tr h1 h2 => ?_)) (hL_of (by decide +kernel)) (by decide +kernel) (by decide +kernel) ?_ ?_
  · match k, h1, h2 with
    | 0, h1, h2 => cases h1; cases h2; exact callV_of Y (mX9_loss hl) wl_RL_63 wn_X9_loss ws_X9_loss wi_RX9 wc_X9_loss (T := TX9) (N := _) rfl (by decide +kernel) ⟨by decide, by decide⟩
    | k + 1, h1, _ => simp at h1
  · intro d hd
    simp only [cL_loss_h, List.mem_cons, List.not_mem_nil, or_false] at hd
    rcases hd with rfl | rfl
    · exact ⟨hk_24, by decide⟩
    · exact ⟨hk_13, by decide⟩
  · intro d hd
    simp only [cL_loss_h, List.mem_cons, List.not_mem_nil, or_false] at hd
    rcases hd with rfl | rfl
    · exact hc_24
    · exact hc_13
def pL_other : List PI := [(0, 1, [], 0, 0, .aload_n 2), (1, 1, [], 0, 0, .iconst 0), (2, 1, [], 0, 0, .aload_n 0), (3, 1, [], 0, 0, .iload_n 1), (4, 3, [0], 0, 0, .invokevirtual 66), (7, 1, [], 0, 0, .lastore), (8, 3, [14], 0, 0, .goto 6), (11, 1, [], 0, 0, .astore_n 3), (12, 1, [], 1, 0, .iconst 1), (13, 1, [], 0, 0, .ireturn), (14, 1, [], 0, 0, .iconst 0), (15, 1, [], 0, 0, .ireturn)]
theorem oL_other : OKL RL cL_other pL_other := OKL_of (by decide +kernel) (by decide +kernel)
def kL_other : List (Nat × Nat × SP) := [(2, 1, vsp 9 sX9_other)]
def cL_other_h : List HE := [("java/util/NoSuchElementException", 11, 24, 1)]
def sL_other : SP := RUN pL_other kL_other (hdlH cL_other_h 8) [] 4 (some .int) 1
theorem wl_RL_66 : Cond.methodLink RL 66 yX9_other ∈ wG := wG_at 1142 (by decide +kernel) rfl
theorem wn_X9_other : Cond.instanceMethod yX9_other ∈ wG := wG_at 1143 (by decide +kernel) rfl
theorem ws_X9_other : Cond.selects yX9_other.cls yX9_other yX9_other ∈ wG := wG_at 1144 (by decide +kernel) rfl
theorem wc_X9_other : Cond.code yX9_other cX9_other 4 (some .long) ∈ wG := wG_at 1145 (by decide +kernel) rfl
theorem wh_L_other : Cond.codeWith yL_other cL_other 4 (some .int) (tabH cL_other_h 8) ∈ wG := wG_at 1141 (by decide +kernel) rfl
theorem wt_L_other : Cond.static yL_other ∈ wG := wG_at 1140 (by decide +kernel) rfl
theorem mL_other {l : Launch} {b : Nat} {D : va_G} {cA sa adV : Nat → Nat} (hl : l.stackTraces = false) : CnH l b D cA sa adV yL_other cL_other 4 (some .int) (tabH cL_other_h 8) 8 134 1 sL_other := by
  refine CnH_of (calls := kL_other) (by decide +kernel) oL_other (hC_of (cidx := [(0, 66)]) (by decide +kernel) (fun p e s m args below meth c Q Y k kd x na mc tr h1 h2 => ?_)) (hL_of (by decide +kernel)) (by decide +kernel) (by decide +kernel) ?_ ?_
  · match k, h1, h2 with
    | 0, h1, h2 => cases h1; cases h2; exact callV_of Y (mX9_other hl) wl_RL_66 wn_X9_other ws_X9_other wi_RX9 wc_X9_other (T := TX9) (N := _) rfl (by decide +kernel) ⟨by decide, by decide⟩
    | k + 1, h1, _ => simp at h1
  · intro d hd
    simp only [cL_other_h, List.mem_cons, List.not_mem_nil, or_false] at hd
    rcases hd with rfl
    · exact ⟨hk_24, by decide⟩
  · intro d hd
    simp only [cL_other_h, List.mem_cons, List.not_mem_nil, or_false] at hd
    rcases hd with rfl
    · exact hc_24
def pL_parted : List PI := [(0, 1, [], 0, 0, .aload_n 3), (1, 1, [], 0, 0, .iconst 0), (2, 1, [], 0, 0, .aload_n 0), (3, 1, [], 0, 0, .iload_n 1), (4, 1, [], 0, 0, .iload_n 2), (5, 3, [0], 0, 0, .invokevirtual 70), (8, 1, [], 0, 0, .lastore), (9, 3, [20], 0, 0, .goto 11), (12, 2, [], 0, 0, .astore 4), (14, 1, [], 1, 0, .iconst 1), (15, 1, [], 0, 0, .ireturn), (16, 2, [], 0, 0, .astore 4), (18, 1, [], 2, 0, .iconst 2), (19, 1, [], 0, 0, .ireturn), (20, 1, [], 0, 0, .iconst 0), (21, 1, [], 0, 0, .ireturn)]
theorem oL_parted : OKL RL cL_parted pL_parted := OKL_of (by decide +kernel) (by decide +kernel)
def kL_parted : List (Nat × Nat × SP) := [(3, 2, vsp 9 sX9_parted)]
def cL_parted_h : List HE := [("java/util/NoSuchElementException", 12, 24, 2), ("java/lang/IllegalArgumentException", 16, 13, 2)]
def sL_parted : SP := RUN pL_parted kL_parted (hdlH cL_parted_h 9) [] 5 (some .int) 2
theorem wl_RL_70 : Cond.methodLink RL 70 yX9_parted ∈ wG := wG_at 1157 (by decide +kernel) rfl
theorem wn_X9_parted : Cond.instanceMethod yX9_parted ∈ wG := wG_at 1158 (by decide +kernel) rfl
theorem ws_X9_parted : Cond.selects yX9_parted.cls yX9_parted yX9_parted ∈ wG := wG_at 1159 (by decide +kernel) rfl
theorem wc_X9_parted : Cond.code yX9_parted cX9_parted 4 (some .long) ∈ wG := wG_at 1160 (by decide +kernel) rfl
theorem wh_L_parted : Cond.codeWith yL_parted cL_parted 5 (some .int) (tabH cL_parted_h 9) ∈ wG := wG_at 1156 (by decide +kernel) rfl
theorem wt_L_parted : Cond.static yL_parted ∈ wG := wG_at 1155 (by decide +kernel) rfl
theorem mL_parted {l : Launch} {b : Nat} {D : va_G} {cA sa adV : Nat → Nat} (hl : l.stackTraces = false) : CnH l b D cA sa adV yL_parted cL_parted 5 (some .int) (tabH cL_parted_h 9) 8 136 2 sL_parted := by
  refine CnH_of (calls := kL_parted) (by decide +kernel) oL_parted (hC_of (cidx := [(0, 70)]) (by decide +kernel) (fun p e s m args below meth c Q Y k kd x na mc tr h1 h2 => ?_)) (hL_of (by decide +kernel)) (by decide +kernel) (by decide +kernel) ?_ ?_
  · match k, h1, h2 with
    | 0, h1, h2 => cases h1; cases h2; exact callV_of Y (mX9_parted hl) wl_RL_70 wn_X9_parted ws_X9_parted wi_RX9 wc_X9_parted (T := TX9) (N := _) rfl (by decide +kernel) ⟨by decide, by decide⟩
    | k + 1, h1, _ => simp at h1
  · intro d hd
    simp only [cL_parted_h, List.mem_cons, List.not_mem_nil, or_false] at hd
    rcases hd with rfl | rfl
    · exact ⟨hk_24, by decide⟩
    · exact ⟨hk_13, by decide⟩
  · intro d hd
    simp only [cL_parted_h, List.mem_cons, List.not_mem_nil, or_false] at hd
    rcases hd with rfl | rfl
    · exact hc_24
    · exact hc_13
def pL_store : List PI := [(0, 1, [], 0, 0, .aload_n 3), (1, 1, [], 0, 0, .iconst 0), (2, 1, [], 0, 0, .aload_n 0), (3, 1, [], 0, 0, .iload_n 1), (4, 1, [], 0, 0, .iload_n 2), (5, 3, [0], 0, 0, .invokevirtual 73), (8, 1, [], 0, 0, .lastore), (9, 3, [20], 0, 0, .goto 11), (12, 2, [], 0, 0, .astore 4), (14, 1, [], 1, 0, .iconst 1), (15, 1, [], 0, 0, .ireturn), (16, 2, [], 0, 0, .astore 4), (18, 1, [], 2, 0, .iconst 2), (19, 1, [], 0, 0, .ireturn), (20, 1, [], 0, 0, .iconst 0), (21, 1, [], 0, 0, .ireturn)]
theorem oL_store : OKL RL cL_store pL_store := OKL_of (by decide +kernel) (by decide +kernel)
def kL_store : List (Nat × Nat × SP) := [(3, 2, vsp 9 sX9_store)]
def cL_store_h : List HE := [("java/util/NoSuchElementException", 12, 24, 2), ("java/lang/IllegalArgumentException", 16, 13, 2)]
def sL_store : SP := RUN pL_store kL_store (hdlH cL_store_h 9) [] 5 (some .int) 2
theorem wl_RL_73 : Cond.methodLink RL 73 yX9_store ∈ wG := wG_at 1164 (by decide +kernel) rfl
theorem wn_X9_store : Cond.instanceMethod yX9_store ∈ wG := wG_at 1165 (by decide +kernel) rfl
theorem ws_X9_store : Cond.selects yX9_store.cls yX9_store yX9_store ∈ wG := wG_at 1166 (by decide +kernel) rfl
theorem wc_X9_store : Cond.code yX9_store cX9_store 4 (some .long) ∈ wG := wG_at 1167 (by decide +kernel) rfl
theorem wh_L_store : Cond.codeWith yL_store cL_store 5 (some .int) (tabH cL_store_h 9) ∈ wG := wG_at 1163 (by decide +kernel) rfl
theorem wt_L_store : Cond.static yL_store ∈ wG := wG_at 1162 (by decide +kernel) rfl
theorem mL_store {l : Launch} {b : Nat} {D : va_G} {cA sa adV : Nat → Nat} (hl : l.stackTraces = false) : CnH l b D cA sa adV yL_store cL_store 5 (some .int) (tabH cL_store_h 9) 8 136 2 sL_store := by
  refine CnH_of (calls := kL_store) (by decide +kernel) oL_store (hC_of (cidx := [(0, 73)]) (by decide +kernel) (fun p e s m args below meth c Q Y k kd x na mc tr h1 h2 => ?_)) (hL_of (by decide +kernel)) (by decide +kernel) (by decide +kernel) ?_ ?_
  · match k, h1, h2 with
    | 0, h1, h2 => cases h1; cases h2; exact callV_of Y (mX9_store hl) wl_RL_73 wn_X9_store ws_X9_store wi_RX9 wc_X9_store (T := TX9) (N := _) rfl (by decide +kernel) ⟨by decide, by decide⟩
    | k + 1, h1, _ => simp at h1
  · intro d hd
    simp only [cL_store_h, List.mem_cons, List.not_mem_nil, or_false] at hd
    rcases hd with rfl | rfl
    · exact ⟨hk_24, by decide⟩
    · exact ⟨hk_13, by decide⟩
  · intro d hd
    simp only [cL_store_h, List.mem_cons, List.not_mem_nil, or_false] at hd
    rcases hd with rfl | rfl
    · exact hc_24
    · exact hc_13
def pL_layer : List PI := [(0, 2, [], 0, 0, .aload 4), (2, 1, [], 0, 0, .iconst 0), (3, 1, [], 0, 0, .aload_n 0), (4, 1, [], 0, 0, .iload_n 1), (5, 1, [], 0, 0, .iload_n 2), (6, 1, [], 0, 0, .iload_n 3), (7, 3, [0], 0, 0, .invokevirtual 76), (10, 1, [], 0, 0, .lastore), (11, 3, [22], 0, 0, .goto 11), (14, 2, [], 0, 0, .astore 5), (16, 1, [], 1, 0, .iconst 1), (17, 1, [], 0, 0, .ireturn), (18, 2, [], 0, 0, .astore 5), (20, 1, [], 2, 0, .iconst 2), (21, 1, [], 0, 0, .ireturn), (22, 1, [], 0, 0, .iconst 0), (23, 1, [], 0, 0, .ireturn)]
theorem oL_layer : OKL RL cL_layer pL_layer := OKL_of (by decide +kernel) (by decide +kernel)
def kL_layer : List (Nat × Nat × SP) := [(4, 3, vsp 9 sX9_layer)]
def cL_layer_h : List HE := [("java/util/NoSuchElementException", 14, 24, 2), ("java/lang/IllegalArgumentException", 18, 13, 2)]
def sL_layer : SP := RUN pL_layer kL_layer (hdlH cL_layer_h 11) [] 6 (some .int) 3
theorem wl_RL_76 : Cond.methodLink RL 76 yX9_layer ∈ wG := wG_at 1172 (by decide +kernel) rfl
theorem wn_X9_layer : Cond.instanceMethod yX9_layer ∈ wG := wG_at 1173 (by decide +kernel) rfl
theorem ws_X9_layer : Cond.selects yX9_layer.cls yX9_layer yX9_layer ∈ wG := wG_at 1174 (by decide +kernel) rfl
theorem wc_X9_layer : Cond.code yX9_layer cX9_layer 5 (some .long) ∈ wG := wG_at 1175 (by decide +kernel) rfl
theorem wh_L_layer : Cond.codeWith yL_layer cL_layer 6 (some .int) (tabH cL_layer_h 11) ∈ wG := wG_at 1171 (by decide +kernel) rfl
theorem wt_L_layer : Cond.static yL_layer ∈ wG := wG_at 1170 (by decide +kernel) rfl
theorem mL_layer {l : Launch} {b : Nat} {D : va_G} {cA sa adV : Nat → Nat} (hl : l.stackTraces = false) : CnH l b D cA sa adV yL_layer cL_layer 6 (some .int) (tabH cL_layer_h 11) 8 137 3 sL_layer := by
  refine CnH_of (calls := kL_layer) (by decide +kernel) oL_layer (hC_of (cidx := [(0, 76)]) (by decide +kernel) (fun p e s m args below meth c Q Y k kd x na mc tr h1 h2 => ?_)) (hL_of (by decide +kernel)) (by decide +kernel) (by decide +kernel) ?_ ?_
  · match k, h1, h2 with
    | 0, h1, h2 => cases h1; cases h2; exact callV_of Y (mX9_layer hl) wl_RL_76 wn_X9_layer ws_X9_layer wi_RX9 wc_X9_layer (T := TX9) (N := _) rfl (by decide +kernel) ⟨by decide, by decide⟩
    | k + 1, h1, _ => simp at h1
  · intro d hd
    simp only [cL_layer_h, List.mem_cons, List.not_mem_nil, or_false] at hd
    rcases hd with rfl | rfl
    · exact ⟨hk_24, by decide⟩
    · exact ⟨hk_13, by decide⟩
  · intro d hd
    simp only [cL_layer_h, List.mem_cons, List.not_mem_nil, or_false] at hd
    rcases hd with rfl | rfl
    · exact hc_24
    · exact hc_13
def pL_account : List PI := [(0, 1, [], 0, 0, .aload_n 2), (1, 1, [], 0, 0, .iconst 0), (2, 1, [], 0, 0, .aload_n 0), (3, 1, [], 0, 0, .iload_n 1), (4, 3, [0], 0, 0, .invokevirtual 79), (7, 1, [], 0, 0, .lastore), (8, 3, [14], 0, 0, .goto 6), (11, 1, [], 0, 0, .astore_n 3), (12, 1, [], 1, 0, .iconst 1), (13, 1, [], 0, 0, .ireturn), (14, 1, [], 0, 0, .iconst 0), (15, 1, [], 0, 0, .ireturn)]
theorem oL_account : OKL RL cL_account pL_account := OKL_of (by decide +kernel) (by decide +kernel)
def kL_account : List (Nat × Nat × SP) := [(2, 1, vsp 9 sX9_account)]
def cL_account_h : List HE := [("java/lang/IllegalArgumentException", 11, 13, 1)]
def sL_account : SP := RUN pL_account kL_account (hdlH cL_account_h 8) [] 4 (some .int) 1
theorem wl_RL_79 : Cond.methodLink RL 79 yX9_account ∈ wG := wG_at 1184 (by decide +kernel) rfl
theorem wn_X9_account : Cond.instanceMethod yX9_account ∈ wG := wG_at 1185 (by decide +kernel) rfl
theorem ws_X9_account : Cond.selects yX9_account.cls yX9_account yX9_account ∈ wG := wG_at 1186 (by decide +kernel) rfl
theorem wc_X9_account : Cond.code yX9_account cX9_account 2 (some .long) ∈ wG := wG_at 1187 (by decide +kernel) rfl
theorem wh_L_account : Cond.codeWith yL_account cL_account 4 (some .int) (tabH cL_account_h 8) ∈ wG := wG_at 1183 (by decide +kernel) rfl
theorem wt_L_account : Cond.static yL_account ∈ wG := wG_at 1182 (by decide +kernel) rfl
theorem mL_account {l : Launch} {b : Nat} {D : va_G} {cA sa adV : Nat → Nat} (hl : l.stackTraces = false) : CnH l b D cA sa adV yL_account cL_account 4 (some .int) (tabH cL_account_h 8) 8 134 1 sL_account := by
  refine CnH_of (calls := kL_account) (by decide +kernel) oL_account (hC_of (cidx := [(0, 79)]) (by decide +kernel) (fun p e s m args below meth c Q Y k kd x na mc tr h1 h2 => ?_)) (hL_of (by decide +kernel)) (by decide +kernel) (by decide +kernel) ?_ ?_
  · match k, h1, h2 with
    | 0, h1, h2 => cases h1; cases h2; exact callV_of Y (mX9_account hl) wl_RL_79 wn_X9_account ws_X9_account wi_RX9 wc_X9_account (T := TX9) (N := _) rfl (by decide +kernel) ⟨by decide, by decide⟩
    | k + 1, h1, _ => simp at h1
  · intro d hd
    simp only [cL_account_h, List.mem_cons, List.not_mem_nil, or_false] at hd
    rcases hd with rfl
    · exact ⟨hk_13, by decide⟩
  · intro d hd
    simp only [cL_account_h, List.mem_cons, List.not_mem_nil, or_false] at hd
    rcases hd with rfl
    · exact hc_13
def pL_plan : List PI := [(0, 1, [], 0, 0, .aload_n 3), (1, 1, [], 0, 0, .iconst 0), (2, 1, [], 0, 0, .aload_n 0), (3, 1, [], 0, 0, .iload_n 1), (4, 1, [], 0, 0, .iload_n 2), (5, 3, [0], 0, 0, .invokevirtual 82), (8, 1, [], 0, 0, .lastore), (9, 3, [20], 0, 0, .goto 11), (12, 2, [], 0, 0, .astore 4), (14, 1, [], 1, 0, .iconst 1), (15, 1, [], 0, 0, .ireturn), (16, 2, [], 0, 0, .astore 4), (18, 1, [], 2, 0, .iconst 2), (19, 1, [], 0, 0, .ireturn), (20, 1, [], 0, 0, .iconst 0), (21, 1, [], 0, 0, .ireturn)]
theorem oL_plan : OKL RL cL_plan pL_plan := OKL_of (by decide +kernel) (by decide +kernel)
def kL_plan : List (Nat × Nat × SP) := [(3, 3, vsp 9 sX9_plan)]
def cL_plan_h : List HE := [("java/lang/IllegalArgumentException", 12, 13, 2), ("java/util/NoSuchElementException", 16, 24, 2)]
def sL_plan : SP := RUN pL_plan kL_plan (hdlH cL_plan_h 9) [] 5 (some .int) 3
theorem wl_RL_82 : Cond.methodLink RL 82 yX9_plan ∈ wG := wG_at 1199 (by decide +kernel) rfl
theorem wn_X9_plan : Cond.instanceMethod yX9_plan ∈ wG := wG_at 1200 (by decide +kernel) rfl
theorem ws_X9_plan : Cond.selects yX9_plan.cls yX9_plan yX9_plan ∈ wG := wG_at 1201 (by decide +kernel) rfl
theorem wc_X9_plan : Cond.code yX9_plan cX9_plan 3 (some .long) ∈ wG := wG_at 1202 (by decide +kernel) rfl
theorem wh_L_plan : Cond.codeWith yL_plan cL_plan 5 (some .int) (tabH cL_plan_h 9) ∈ wG := wG_at 1198 (by decide +kernel) rfl
theorem wt_L_plan : Cond.static yL_plan ∈ wG := wG_at 1197 (by decide +kernel) rfl
theorem mL_plan {l : Launch} {b : Nat} {D : va_G} {cA sa adV : Nat → Nat} (hl : l.stackTraces = false) : CnH l b D cA sa adV yL_plan cL_plan 5 (some .int) (tabH cL_plan_h 9) 8 135 3 sL_plan := by
  refine CnH_of (calls := kL_plan) (by decide +kernel) oL_plan (hC_of (cidx := [(0, 82)]) (by decide +kernel) (fun p e s m args below meth c Q Y k kd x na mc tr h1 h2 => ?_)) (hL_of (by decide +kernel)) (by decide +kernel) (by decide +kernel) ?_ ?_
  · match k, h1, h2 with
    | 0, h1, h2 => cases h1; cases h2; exact callV_of Y (mX9_plan hl) wl_RL_82 wn_X9_plan ws_X9_plan wi_RX9 wc_X9_plan (T := TX9) (N := _) rfl (by decide +kernel) ⟨by decide, by decide⟩
    | k + 1, h1, _ => simp at h1
  · intro d hd
    simp only [cL_plan_h, List.mem_cons, List.not_mem_nil, or_false] at hd
    rcases hd with rfl | rfl
    · exact ⟨hk_13, by decide⟩
    · exact ⟨hk_24, by decide⟩
  · intro d hd
    simp only [cL_plan_h, List.mem_cons, List.not_mem_nil, or_false] at hd
    rcases hd with rfl | rfl
    · exact hc_13
    · exact hc_24
