def kX10_feed (N : Nat) : List (Nat × Nat × SP) := []
def sX10_feed (N : Nat) : SP := RUN N pX10_feed (kX10_feed N) hd0 [] 8 (some .int) 0
theorem mX10_feed {l : Launch} {N b : Nat} {D : va_G} {cA sa adV : Nat → Nat} (hl : l.stackTraces = false) : Cn l N b D cA sa adV yX10_feed cX10_feed 8 (some .int) 0 0 0 (sX10_feed N) := by
  refine Cn_of (calls := kX10_feed N) (by decide +kernel) oX10_feed (hC_of (cidx := []) (by decide +kernel) (fun p e s m args below meth c Q Y k kd x na mc tr h1 h2 => ?_)) (hT_no) (hL_of (by decide +kernel)) (fun _ _ => rfl) (fun _ _ _ _ h => h)
  match k, h1, h2 with
  | k, h1, _ => simp at h1
def kX10_copies (N : Nat) : List (Nat × Nat × SP) := []
def sX10_copies (N : Nat) : SP := RUN N pX10_copies (kX10_copies N) hd0 [] 3 none 0
theorem mX10_copies {l : Launch} {N b : Nat} {D : va_G} {cA sa adV : Nat → Nat} (hl : l.stackTraces = false) : Cn l N b D cA sa adV yX10_copies cX10_copies 3 none 0 0 0 (sX10_copies N) := by
  refine Cn_of (calls := kX10_copies N) (by decide +kernel) oX10_copies (hC_of (cidx := []) (by decide +kernel) (fun p e s m args below meth c Q Y k kd x na mc tr h1 h2 => ?_)) (hT_no) (hL_of (by decide +kernel)) (fun _ _ => rfl) (fun _ _ _ _ h => h)
  match k, h1, h2 with
  | k, h1, _ => simp at h1
def kX10_of (N : Nat) : List (Nat × Nat × SP) := []
def sX10_of (N : Nat) : SP := RUN N pX10_of (kX10_of N) hd0 [] 3 (some .long) 0
theorem mX10_of {l : Launch} {N b : Nat} {D : va_G} {cA sa adV : Nat → Nat} (hl : l.stackTraces = false) : Cn l N b D cA sa adV yX10_of cX10_of 3 (some .long) 0 0 0 (sX10_of N) := by
  refine Cn_of (calls := kX10_of N) (by decide +kernel) oX10_of (hC_of (cidx := []) (by decide +kernel) (fun p e s m args below meth c Q Y k kd x na mc tr h1 h2 => ?_)) (hT_no) (hL_of (by decide +kernel)) (fun _ _ => rfl) (fun _ _ _ _ h => h)
  match k, h1, h2 with
  | k, h1, _ => simp at h1
def kX10_byteAt (N : Nat) : List (Nat × Nat × SP) := []
def sX10_byteAt (N : Nat) : SP := RUN N pX10_byteAt (kX10_byteAt N) hd0 [] 2 (some .int) 0
theorem mX10_byteAt {l : Launch} {N b : Nat} {D : va_G} {cA sa adV : Nat → Nat} (hl : l.stackTraces = false) : Cn l N b D cA sa adV yX10_byteAt cX10_byteAt 2 (some .int) 0 0 0 (sX10_byteAt N) := by
  refine Cn_of (calls := kX10_byteAt N) (by decide +kernel) oX10_byteAt (hC_of (cidx := []) (by decide +kernel) (fun p e s m args below meth c Q Y k kd x na mc tr h1 h2 => ?_)) (hT_no) (hL_of (by decide +kernel)) (fun _ _ => rfl) (fun _ _ _ _ h => h)
  match k, h1, h2 with
  | k, h1, _ => simp at h1
def kX10_here (N : Nat) : List (Nat × Nat × SP) := [(2, 0, vsp N 10 (sX10_byteAt N))]
def sX10_here (N : Nat) : SP := RUN N pX10_here (kX10_here N) hd0 [] 1 (some .int) 0
theorem mX10_here {l : Launch} {N b : Nat} {D : va_G} {cA sa adV : Nat → Nat} (hl : l.stackTraces = false) : Cn l N b D cA sa adV yX10_here cX10_here 1 (some .int) 1 21 0 (sX10_here N) := by
  refine Cn_of (calls := kX10_here N) (by decide +kernel) oX10_here (hC_of (cidx := [(0, 65)]) (by decide +kernel) (fun p e s m args below meth c Q Y k kd x na mc tr h1 h2 => ?_)) (hT_no) (hL_of (by decide +kernel)) (fun _ _ => rfl) (fun _ _ _ _ h => h)
  match k, h1, h2 with
  | 0, h1, h2 => cases h1; cases h2; exact callV_of Y (mX10_byteAt hl) wl_RX10_65 wn_X10_byteAt ws_X10_byteAt wi_RX10 wc_X10_byteAt (T := TX10) (N1 := _) rfl (by decide +kernel) ⟨by decide, by decide⟩
  | k + 1, h1, _ => simp at h1
def kX10_fine (N : Nat) : List (Nat × Nat × SP) := []
def sX10_fine (N : Nat) : SP := RUN N pX10_fine (kX10_fine N) hd0 [] 1 (some .boolean) 0
theorem mX10_fine {l : Launch} {N b : Nat} {D : va_G} {cA sa adV : Nat → Nat} (hl : l.stackTraces = false) : Cn l N b D cA sa adV yX10_fine cX10_fine 1 (some .boolean) 0 0 0 (sX10_fine N) := by
  refine Cn_of (calls := kX10_fine N) (by decide +kernel) oX10_fine (hC_of (cidx := []) (by decide +kernel) (fun p e s m args below meth c Q Y k kd x na mc tr h1 h2 => ?_)) (hT_no) (hL_of (by decide +kernel)) (fun _ _ => rfl) (fun _ _ _ _ h => h)
  match k, h1, h2 with
  | k, h1, _ => simp at h1
def kX10_wrong (N : Nat) : List (Nat × Nat × SP) := []
def sX10_wrong (N : Nat) : SP := RUN N pX10_wrong (kX10_wrong N) hd0 [] 3 none 0
theorem mX10_wrong {l : Launch} {N b : Nat} {D : va_G} {cA sa adV : Nat → Nat} (hl : l.stackTraces = false) : Cn l N b D cA sa adV yX10_wrong cX10_wrong 3 none 0 0 0 (sX10_wrong N) := by
  refine Cn_of (calls := kX10_wrong N) (by decide +kernel) oX10_wrong (hC_of (cidx := []) (by decide +kernel) (fun p e s m args below meth c Q Y k kd x na mc tr h1 h2 => ?_)) (hT_no) (hL_of (by decide +kernel)) (fun _ _ => rfl) (fun _ _ _ _ h => h)
  match k, h1, h2 with
  | k, h1, _ => simp at h1
def kX10_isSmall (N : Nat) : List (Nat × Nat × SP) := []
def sX10_isSmall (N : Nat) : SP := RUN N pX10_isSmall (kX10_isSmall N) hd0 [] 1 (some .boolean) 0
theorem mX10_isSmall {l : Launch} {N b : Nat} {D : va_G} {cA sa adV : Nat → Nat} (hl : l.stackTraces = false) : Cn l N b D cA sa adV yX10_isSmall cX10_isSmall 1 (some .boolean) 0 0 0 (sX10_isSmall N) := by
  refine Cn_of (calls := kX10_isSmall N) (by decide +kernel) oX10_isSmall (hC_of (cidx := []) (by decide +kernel) (fun p e s m args below meth c Q Y k kd x na mc tr h1 h2 => ?_)) (hT_no) (hL_of (by decide +kernel)) (fun _ _ => rfl) (fun _ _ _ _ h => h)
  match k, h1, h2 with
  | k, h1, _ => simp at h1
def kX10_isDigit (N : Nat) : List (Nat × Nat × SP) := []
def sX10_isDigit (N : Nat) : SP := RUN N pX10_isDigit (kX10_isDigit N) hd0 [] 1 (some .boolean) 0
theorem mX10_isDigit {l : Launch} {N b : Nat} {D : va_G} {cA sa adV : Nat → Nat} (hl : l.stackTraces = false) : Cn l N b D cA sa adV yX10_isDigit cX10_isDigit 1 (some .boolean) 0 0 0 (sX10_isDigit N) := by
  refine Cn_of (calls := kX10_isDigit N) (by decide +kernel) oX10_isDigit (hC_of (cidx := []) (by decide +kernel) (fun p e s m args below meth c Q Y k kd x na mc tr h1 h2 => ?_)) (hT_no) (hL_of (by decide +kernel)) (fun _ _ => rfl) (fun _ _ _ _ h => h)
  match k, h1, h2 with
  | k, h1, _ => simp at h1
def kX10_takesWord (N : Nat) : List (Nat × Nat × SP) := [(1, 0, vsp N 10 (sX10_fine N)), (1, 0, vsp N 10 (sX10_here N)), (1, 0, spLen), (2, 0, vsp N 10 (sX10_byteAt N)), (2, 0, spChar), (1, 0, sX10_isSmall N)]
def sX10_takesWord (N : Nat) : SP := RUN N pX10_takesWord (kX10_takesWord N) hd0 [] 3 (some .boolean) 0
theorem mX10_takesWord {l : Launch} {N b : Nat} {D : va_G} {cA sa adV : Nat → Nat} (hl : l.stackTraces = false) : Cn l N b D cA sa adV yX10_takesWord cX10_takesWord 3 (some .boolean) 4 141 0 (sX10_takesWord N) := by
  refine Cn_of (calls := kX10_takesWord N) (by decide +kernel) oX10_takesWord (hC_of (cidx := [(0, 75), (0, 79), (0, 83), (0, 65), (0, 88), (1, 92)]) (by decide +kernel) (fun p e s m args below meth c Q Y k kd x na mc tr h1 h2 => ?_)) (hT_no) (hL_of (by decide +kernel)) (fun _ _ => rfl) (fun _ _ _ _ h => h)
  match k, h1, h2 with
  | 0, h1, h2 => cases h1; cases h2; exact callV_of Y (mX10_fine hl) wl_RX10_75 wn_X10_fine ws_X10_fine wi_RX10 wc_X10_fine (T := TX10) (N1 := _) rfl (by decide +kernel) ⟨by decide, by decide⟩
  | 1, h1, h2 => cases h1; cases h2; exact callV_of Y (mX10_here hl) wl_RX10_79 wn_X10_here ws_X10_here wi_RX10 wc_X10_here (T := TX10) (N1 := _) rfl (by decide +kernel) ⟨by decide, by decide⟩
  | 2, h1, h2 => cases h1; cases h2; exact callLen_of Y (wG_at 1345 (by decide +kernel) rfl) ⟨by decide, by decide⟩
  | 3, h1, h2 => cases h1; cases h2; exact callV_of Y (mX10_byteAt hl) wl_RX10_65 wn_X10_byteAt ws_X10_byteAt wi_RX10 wc_X10_byteAt (T := TX10) (N1 := _) rfl (by decide +kernel) ⟨by decide, by decide⟩
  | 4, h1, h2 => cases h1; cases h2; exact callChar_of Y (wG_at 1346 (by decide +kernel) rfl) ⟨by decide, by decide⟩
  | 5, h1, h2 => cases h1; cases h2; exact callS_of Y (mX10_isSmall hl) wl_RX10_92 wt_X10_isSmall wi_RX10 wc_X10_isSmall (by decide +kernel) ⟨by decide, by decide⟩
  | k + 6, h1, _ => simp at h1
def kX10_number (N : Nat) : List (Nat × Nat × SP) := [(1, 0, vsp N 10 (sX10_fine N)), (1, 0, vsp N 10 (sX10_here N)), (1, 0, sX10_isDigit N), (3, 0, vsp N 10 (sX10_wrong N)), (2, 0, vsp N 10 (sX10_byteAt N)), (2, 0, sX10_less N), (3, 0, sX10_in N)]
def sX10_number (N : Nat) : SP := RUN N pX10_number (kX10_number N) hd0 [] 5 (some .int) 0
theorem mX10_number {l : Launch} {N b : Nat} {D : va_G} {cA sa adV : Nat → Nat} (hl : l.stackTraces = false) : Cn l N b D cA sa adV yX10_number cX10_number 5 (some .int) 2 41 0 (sX10_number N) := by
  refine Cn_of (calls := kX10_number N) (by decide +kernel) oX10_number (hC_of (cidx := [(0, 75), (0, 79), (1, 96), (0, 99), (0, 65), (1, 105), (1, 109)]) (by decide +kernel) (fun p e s m args below meth c Q Y k kd x na mc tr h1 h2 => ?_)) (hT_no) (hL_of (by decide +kernel)) (fun _ _ => rfl) (fun _ _ _ _ h => h)
  match k, h1, h2 with
  | 0, h1, h2 => cases h1; cases h2; exact callV_of Y (mX10_fine hl) wl_RX10_75 wn_X10_fine ws_X10_fine wi_RX10 wc_X10_fine (T := TX10) (N1 := _) rfl (by decide +kernel) ⟨by decide, by decide⟩
  | 1, h1, h2 => cases h1; cases h2; exact callV_of Y (mX10_here hl) wl_RX10_79 wn_X10_here ws_X10_here wi_RX10 wc_X10_here (T := TX10) (N1 := _) rfl (by decide +kernel) ⟨by decide, by decide⟩
  | 2, h1, h2 => cases h1; cases h2; exact callS_of Y (mX10_isDigit hl) wl_RX10_96 wt_X10_isDigit wi_RX10 wc_X10_isDigit (by decide +kernel) ⟨by decide, by decide⟩
  | 3, h1, h2 => cases h1; cases h2; exact callV_of Y (mX10_wrong hl) wl_RX10_99 wn_X10_wrong ws_X10_wrong wi_RX10 wc_X10_wrong (T := TX10) (N1 := _) rfl (by decide +kernel) ⟨by decide, by decide⟩
  | 4, h1, h2 => cases h1; cases h2; exact callV_of Y (mX10_byteAt hl) wl_RX10_65 wn_X10_byteAt ws_X10_byteAt wi_RX10 wc_X10_byteAt (T := TX10) (N1 := _) rfl (by decide +kernel) ⟨by decide, by decide⟩
  | 5, h1, h2 => cases h1; cases h2; exact callS_of Y (mX10_less hl) wl_RX10_105 wt_X10_less wi_RX10 wc_X10_less (by decide +kernel) ⟨by decide, by decide⟩
  | 6, h1, h2 => cases h1; cases h2; exact callS_of Y (mX10_in hl) wl_RX10_109 wt_X10_in wi_RX10 wc_X10_in (by decide +kernel) ⟨by decide, by decide⟩
  | k + 7, h1, _ => simp at h1
def kX10_way (N : Nat) : List (Nat × Nat × SP) := [(2, 0, vsp N 10 (sX10_takesWord N)), (1, 0, vsp N 10 (sX10_fine N)), (3, 0, vsp N 10 (sX10_wrong N))]
def sX10_way (N : Nat) : SP := RUN N pX10_way (kX10_way N) hd0 [] 1 (some .int) 0
theorem mX10_way {l : Launch} {N b : Nat} {D : va_G} {cA sa adV : Nat → Nat} (hl : l.stackTraces = false) : Cn l N b D cA sa adV yX10_way cX10_way 1 (some .int) 5 163 0 (sX10_way N) := by
  refine Cn_of (calls := kX10_way N) (by decide +kernel) oX10_way (hC_of (cidx := [(0, 115), (0, 75), (0, 99)]) (by decide +kernel) (fun p e s m args below meth c Q Y k kd x na mc tr h1 h2 => ?_)) (hT_no) (hL_of (by decide +kernel)) (fun _ _ => rfl) (fun _ _ _ _ h => h)
  match k, h1, h2 with
  | 0, h1, h2 => cases h1; cases h2; exact callV_of Y (mX10_takesWord hl) wl_RX10_115 wn_X10_takesWord ws_X10_takesWord wi_RX10 wc_X10_takesWord (T := TX10) (N1 := _) rfl (by decide +kernel) ⟨by decide, by decide⟩
  | 1, h1, h2 => cases h1; cases h2; exact callV_of Y (mX10_fine hl) wl_RX10_75 wn_X10_fine ws_X10_fine wi_RX10 wc_X10_fine (T := TX10) (N1 := _) rfl (by decide +kernel) ⟨by decide, by decide⟩
  | 2, h1, h2 => cases h1; cases h2; exact callV_of Y (mX10_wrong hl) wl_RX10_99 wn_X10_wrong ws_X10_wrong wi_RX10 wc_X10_wrong (T := TX10) (N1 := _) rfl (by decide +kernel) ⟨by decide, by decide⟩
  | k + 3, h1, _ => simp at h1
def kX10_readsDept (N : Nat) : List (Nat × Nat × SP) := [(3, 0, vsp N 10 (sX10_wrong N)), (1, 0, vsp N 10 (sX10_way N)), (3, 0, vsp N 10 (sX10_number N)), (6, 0, sX10_dept N), (2, 0, vsp N 10 (sX10_takesWord N))]
def sX10_readsDept (N : Nat) : SP := RUN N pX10_readsDept (kX10_readsDept N) hd0 [] 7 none 0
theorem mX10_readsDept {l : Launch} {N b : Nat} {D : va_G} {cA sa adV : Nat → Nat} (hl : l.stackTraces = false) : Cn l N b D cA sa adV yX10_readsDept cX10_readsDept 7 none 6 183 0 (sX10_readsDept N) := by
  refine Cn_of (calls := kX10_readsDept N) (by decide +kernel) oX10_readsDept (hC_of (cidx := [(0, 99), (0, 121), (0, 124), (1, 45), (0, 115)]) (by decide +kernel) (fun p e s m args below meth c Q Y k kd x na mc tr h1 h2 => ?_)) (hT_no) (hL_of (by decide +kernel)) (fun _ _ => rfl) (fun _ _ _ _ h => h)
  match k, h1, h2 with
  | 0, h1, h2 => cases h1; cases h2; exact callV_of Y (mX10_wrong hl) wl_RX10_99 wn_X10_wrong ws_X10_wrong wi_RX10 wc_X10_wrong (T := TX10) (N1 := _) rfl (by decide +kernel) ⟨by decide, by decide⟩
  | 1, h1, h2 => cases h1; cases h2; exact callV_of Y (mX10_way hl) wl_RX10_121 wn_X10_way ws_X10_way wi_RX10 wc_X10_way (T := TX10) (N1 := _) rfl (by decide +kernel) ⟨by decide, by decide⟩
  | 2, h1, h2 => cases h1; cases h2; exact callV_of Y (mX10_number hl) wl_RX10_124 wn_X10_number ws_X10_number wi_RX10 wc_X10_number (T := TX10) (N1 := _) rfl (by decide +kernel) ⟨by decide, by decide⟩
  | 3, h1, h2 => cases h1; cases h2; exact callS_of Y (mX10_dept hl) wl_RX10_45 wt_X10_dept wi_RX10 wc_X10_dept (by decide +kernel) ⟨by decide, by decide⟩
  | 4, h1, h2 => cases h1; cases h2; exact callV_of Y (mX10_takesWord hl) wl_RX10_115 wn_X10_takesWord ws_X10_takesWord wi_RX10 wc_X10_takesWord (T := TX10) (N1 := _) rfl (by decide +kernel) ⟨by decide, by decide⟩
  | k + 5, h1, _ => simp at h1
def kX10_readsMat (N : Nat) : List (Nat × Nat × SP) := [(3, 0, vsp N 10 (sX10_number N)), (1, 0, vsp N 10 (sX10_fine N)), (3, 0, vsp N 10 (sX10_wrong N))]
def sX10_readsMat (N : Nat) : SP := RUN N pX10_readsMat (kX10_readsMat N) hd0 [] 5 none 0
theorem mX10_readsMat {l : Launch} {N b : Nat} {D : va_G} {cA sa adV : Nat → Nat} (hl : l.stackTraces = false) : Cn l N b D cA sa adV yX10_readsMat cX10_readsMat 5 none 3 65 0 (sX10_readsMat N) := by
  refine Cn_of (calls := kX10_readsMat N) (by decide +kernel) oX10_readsMat (hC_of (cidx := [(0, 124), (0, 75), (0, 99)]) (by decide +kernel) (fun p e s m args below meth c Q Y k kd x na mc tr h1 h2 => ?_)) (hT_no) (hL_of (by decide +kernel)) (fun _ _ => rfl) (fun _ _ _ _ h => h)
  match k, h1, h2 with
  | 0, h1, h2 => cases h1; cases h2; exact callV_of Y (mX10_number hl) wl_RX10_124 wn_X10_number ws_X10_number wi_RX10 wc_X10_number (T := TX10) (N1 := _) rfl (by decide +kernel) ⟨by decide, by decide⟩
  | 1, h1, h2 => cases h1; cases h2; exact callV_of Y (mX10_fine hl) wl_RX10_75 wn_X10_fine ws_X10_fine wi_RX10 wc_X10_fine (T := TX10) (N1 := _) rfl (by decide +kernel) ⟨by decide, by decide⟩
  | 2, h1, h2 => cases h1; cases h2; exact callV_of Y (mX10_wrong hl) wl_RX10_99 wn_X10_wrong ws_X10_wrong wi_RX10 wc_X10_wrong (T := TX10) (N1 := _) rfl (by decide +kernel) ⟨by decide, by decide⟩
  | k + 3, h1, _ => simp at h1
def kX10_readsProduct (N : Nat) : List (Nat × Nat × SP) := [(3, 0, vsp N 10 (sX10_wrong N)), (3, 0, vsp N 10 (sX10_number N)), (2, 0, vsp N 10 (sX10_takesWord N))]
def sX10_readsProduct (N : Nat) : SP := RUN N pX10_readsProduct (kX10_readsProduct N) hd0 [] 4 none 0
theorem mX10_readsProduct {l : Launch} {N b : Nat} {D : va_G} {cA sa adV : Nat → Nat} (hl : l.stackTraces = false) : Cn l N b D cA sa adV yX10_readsProduct cX10_readsProduct 4 none 5 163 0 (sX10_readsProduct N) := by
  refine Cn_of (calls := kX10_readsProduct N) (by decide +kernel) oX10_readsProduct (hC_of (cidx := [(0, 99), (0, 124), (0, 115)]) (by decide +kernel) (fun p e s m args below meth c Q Y k kd x na mc tr h1 h2 => ?_)) (hT_no) (hL_of (by decide +kernel)) (fun _ _ => rfl) (fun _ _ _ _ h => h)
  match k, h1, h2 with
  | 0, h1, h2 => cases h1; cases h2; exact callV_of Y (mX10_wrong hl) wl_RX10_99 wn_X10_wrong ws_X10_wrong wi_RX10 wc_X10_wrong (T := TX10) (N1 := _) rfl (by decide +kernel) ⟨by decide, by decide⟩
  | 1, h1, h2 => cases h1; cases h2; exact callV_of Y (mX10_number hl) wl_RX10_124 wn_X10_number ws_X10_number wi_RX10 wc_X10_number (T := TX10) (N1 := _) rfl (by decide +kernel) ⟨by decide, by decide⟩
  | 2, h1, h2 => cases h1; cases h2; exact callV_of Y (mX10_takesWord hl) wl_RX10_115 wn_X10_takesWord ws_X10_takesWord wi_RX10 wc_X10_takesWord (T := TX10) (N1 := _) rfl (by decide +kernel) ⟨by decide, by decide⟩
  | k + 3, h1, _ => simp at h1
def kX10_line (N : Nat) : List (Nat × Nat × SP) := [(1, 0, vsp N 10 (sX10_here N)), (2, 0, vsp N 10 (sX10_takesWord N)), (2, 0, vsp N 10 (sX10_readsDept N)), (2, 0, vsp N 10 (sX10_readsMat N)), (2, 0, vsp N 10 (sX10_readsProduct N)), (1, 0, vsp N 10 (sX10_way N)), (3, 0, vsp N 10 (sX10_wrong N)), (1, 0, vsp N 10 (sX10_fine N))]
def sX10_line (N : Nat) : SP := RUN N pX10_line (kX10_line N) hd0 [] 2 none 0
theorem mX10_line {l : Launch} {N b : Nat} {D : va_G} {cA sa adV : Nat → Nat} (hl : l.stackTraces = false) : Cn l N b D cA sa adV yX10_line cX10_line 2 none 7 209 0 (sX10_line N) := by
  refine Cn_of (calls := kX10_line N) (by decide +kernel) oX10_line (hC_of (cidx := [(0, 79), (0, 115), (0, 135), (0, 141), (0, 146), (0, 121), (0, 99), (0, 75)]) (by decide +kernel) (fun p e s m args below meth c Q Y k kd x na mc tr h1 h2 => ?_)) (hT_no) (hL_of (by decide +kernel)) (fun _ _ => rfl) (fun _ _ _ _ h => h)
  match k, h1, h2 with
  | 0, h1, h2 => cases h1; cases h2; exact callV_of Y (mX10_here hl) wl_RX10_79 wn_X10_here ws_X10_here wi_RX10 wc_X10_here (T := TX10) (N1 := _) rfl (by decide +kernel) ⟨by decide, by decide⟩
  | 1, h1, h2 => cases h1; cases h2; exact callV_of Y (mX10_takesWord hl) wl_RX10_115 wn_X10_takesWord ws_X10_takesWord wi_RX10 wc_X10_takesWord (T := TX10) (N1 := _) rfl (by decide +kernel) ⟨by decide, by decide⟩
  | 2, h1, h2 => cases h1; cases h2; exact callV_of Y (mX10_readsDept hl) wl_RX10_135 wn_X10_readsDept ws_X10_readsDept wi_RX10 wc_X10_readsDept (T := TX10) (N1 := _) rfl (by decide +kernel) ⟨by decide, by decide⟩
  | 3, h1, h2 => cases h1; cases h2; exact callV_of Y (mX10_readsMat hl) wl_RX10_141 wn_X10_readsMat ws_X10_readsMat wi_RX10 wc_X10_readsMat (T := TX10) (N1 := _) rfl (by decide +kernel) ⟨by decide, by decide⟩
  | 4, h1, h2 => cases h1; cases h2; exact callV_of Y (mX10_readsProduct hl) wl_RX10_146 wn_X10_readsProduct ws_X10_readsProduct wi_RX10 wc_X10_readsProduct (T := TX10) (N1 := _) rfl (by decide +kernel) ⟨by decide, by decide⟩
  | 5, h1, h2 => cases h1; cases h2; exact callV_of Y (mX10_way hl) wl_RX10_121 wn_X10_way ws_X10_way wi_RX10 wc_X10_way (T := TX10) (N1 := _) rfl (by decide +kernel) ⟨by decide, by decide⟩
  | 6, h1, h2 => cases h1; cases h2; exact callV_of Y (mX10_wrong hl) wl_RX10_99 wn_X10_wrong ws_X10_wrong wi_RX10 wc_X10_wrong (T := TX10) (N1 := _) rfl (by decide +kernel) ⟨by decide, by decide⟩
  | 7, h1, h2 => cases h1; cases h2; exact callV_of Y (mX10_fine hl) wl_RX10_75 wn_X10_fine ws_X10_fine wi_RX10 wc_X10_fine (T := TX10) (N1 := _) rfl (by decide +kernel) ⟨by decide, by decide⟩
  | k + 8, h1, _ => simp at h1
def kX10_isDesk (N : Nat) : List (Nat × Nat × SP) := []
def sX10_isDesk (N : Nat) : SP := RUN N pX10_isDesk (kX10_isDesk N) hd0 [] 5 (some .boolean) 0
theorem mX10_isDesk {l : Launch} {N b : Nat} {D : va_G} {cA sa adV : Nat → Nat} (hl : l.stackTraces = false) : Cn l N b D cA sa adV yX10_isDesk cX10_isDesk 5 (some .boolean) 0 0 0 (sX10_isDesk N) := by
  refine Cn_of (calls := kX10_isDesk N) (by decide +kernel) oX10_isDesk (hC_of (cidx := []) (by decide +kernel) (fun p e s m args below meth c Q Y k kd x na mc tr h1 h2 => ?_)) (hT_no) (hL_of (by decide +kernel)) (fun _ _ => rfl) (fun _ _ _ _ h => h)
  match k, h1, h2 with
  | k, h1, _ => simp at h1
def kX10_remembers (N : Nat) : List (Nat × Nat × SP) := [(2, 0, sX10_copies N)]
def sX10_remembers (N : Nat) : SP := RUN N pX10_remembers (kX10_remembers N) hd0 [] 2 none 0
theorem mX10_remembers {l : Launch} {N b : Nat} {D : va_G} {cA sa adV : Nat → Nat} (hl : l.stackTraces = false) : Cn l N b D cA sa adV yX10_remembers cX10_remembers 2 none 1 22 0 (sX10_remembers N) := by
  refine Cn_of (calls := kX10_remembers N) (by decide +kernel) oX10_remembers (hC_of (cidx := [(1, 168)]) (by decide +kernel) (fun p e s m args below meth c Q Y k kd x na mc tr h1 h2 => ?_)) (hT_no) (hL_of (by decide +kernel)) (fun _ _ => rfl) (fun _ _ _ _ h => h)
  match k, h1, h2 with
  | 0, h1, h2 => cases h1; cases h2; exact callS_of Y (mX10_copies hl) wl_RX10_168 wt_X10_copies wi_RX10 wc_X10_copies (by decide +kernel) ⟨by decide, by decide⟩
  | k + 1, h1, _ => simp at h1
def kX10_text (N : Nat) : List (Nat × Nat × SP) := [(3, 0, sX10_in N), (4, 0, vsp N 10 (sX10_bad N)), (1, 0, sX10_begins N), (1, 0, vsp N 10 (sX10_fine N)), (1, 0, vsp N 10 (sX10_here N)), (1, 0, vsp N 10 (sX10_line N)), (1, 0, vsp N 10 (sX10_isDesk N)), (3, 0, vsp N 10 (sX10_wrong N)), (1, 0, vsp N 10 (sX10_remembers N)), (2, 0, sX10_copies N)]
def sX10_text (N : Nat) : SP := RUN N pX10_text (kX10_text N) hd0 [] 2 (some .int) 0
theorem mX10_text {l : Launch} {N b : Nat} {D : va_G} {cA sa adV : Nat → Nat} (hl : l.stackTraces = false) : Cn l N b D cA sa adV yX10_text cX10_text 2 (some .int) 8 230 0 (sX10_text N) := by
  refine Cn_of (calls := kX10_text N) (by decide +kernel) oX10_text (hC_of (cidx := [(1, 109), (0, 155), (1, 41), (0, 75), (0, 79), (0, 159), (0, 162), (0, 99), (0, 165), (1, 168)]) (by decide +kernel) (fun p e s m args below meth c Q Y k kd x na mc tr h1 h2 => ?_)) (hT_no) (hL_of (by decide +kernel)) (fun _ _ => rfl) (fun _ _ _ _ h => h)
  match k, h1, h2 with
  | 0, h1, h2 => cases h1; cases h2; exact callS_of Y (mX10_in hl) wl_RX10_109 wt_X10_in wi_RX10 wc_X10_in (by decide +kernel) ⟨by decide, by decide⟩
  | 1, h1, h2 => cases h1; cases h2; exact callV_of Y (mX10_bad hl) wl_RX10_155 wn_X10_bad ws_X10_bad wi_RX10 wc_X10_bad (T := TX10) (N1 := _) rfl (by decide +kernel) ⟨by decide, by decide⟩
  | 2, h1, h2 => cases h1; cases h2; exact callS_of Y (mX10_begins hl) wl_RX10_41 wt_X10_begins wi_RX10 wc_X10_begins (by decide +kernel) ⟨by decide, by decide⟩
  | 3, h1, h2 => cases h1; cases h2; exact callV_of Y (mX10_fine hl) wl_RX10_75 wn_X10_fine ws_X10_fine wi_RX10 wc_X10_fine (T := TX10) (N1 := _) rfl (by decide +kernel) ⟨by decide, by decide⟩
  | 4, h1, h2 => cases h1; cases h2; exact callV_of Y (mX10_here hl) wl_RX10_79 wn_X10_here ws_X10_here wi_RX10 wc_X10_here (T := TX10) (N1 := _) rfl (by decide +kernel) ⟨by decide, by decide⟩
  | 5, h1, h2 => cases h1; cases h2; exact callV_of Y (mX10_line hl) wl_RX10_159 wn_X10_line ws_X10_line wi_RX10 wc_X10_line (T := TX10) (N1 := _) rfl (by decide +kernel) ⟨by decide, by decide⟩
  | 6, h1, h2 => cases h1; cases h2; exact callV_of Y (mX10_isDesk hl) wl_RX10_162 wn_X10_isDesk ws_X10_isDesk wi_RX10 wc_X10_isDesk (T := TX10) (N1 := _) rfl (by decide +kernel) ⟨by decide, by decide⟩
  | 7, h1, h2 => cases h1; cases h2; exact callV_of Y (mX10_wrong hl) wl_RX10_99 wn_X10_wrong ws_X10_wrong wi_RX10 wc_X10_wrong (T := TX10) (N1 := _) rfl (by decide +kernel) ⟨by decide, by decide⟩
  | 8, h1, h2 => cases h1; cases h2; exact callV_of Y (mX10_remembers hl) wl_RX10_165 wn_X10_remembers ws_X10_remembers wi_RX10 wc_X10_remembers (T := TX10) (N1 := _) rfl (by decide +kernel) ⟨by decide, by decide⟩
  | 9, h1, h2 => cases h1; cases h2; exact callS_of Y (mX10_copies hl) wl_RX10_168 wt_X10_copies wi_RX10 wc_X10_copies (by decide +kernel) ⟨by decide, by decide⟩
  | k + 10, h1, _ => simp at h1
def kX10_fault (N : Nat) : List (Nat × Nat × SP) := []
def sX10_fault (N : Nat) : SP := RUN N pX10_fault (kX10_fault N) hd0 [] 1 (some .int) 0
theorem mX10_fault {l : Launch} {N b : Nat} {D : va_G} {cA sa adV : Nat → Nat} (hl : l.stackTraces = false) : Cn l N b D cA sa adV yX10_fault cX10_fault 1 (some .int) 0 0 0 (sX10_fault N) := by
  refine Cn_of (calls := kX10_fault N) (by decide +kernel) oX10_fault (hC_of (cidx := []) (by decide +kernel) (fun p e s m args below meth c Q Y k kd x na mc tr h1 h2 => ?_)) (hT_no) (hL_of (by decide +kernel)) (fun _ _ => rfl) (fun _ _ _ _ h => h)
  match k, h1, h2 with
  | k, h1, _ => simp at h1
def kX10_undo (N : Nat) : List (Nat × Nat × SP) := [(2, 0, sX10_copies N)]
def sX10_undo (N : Nat) : SP := RUN N pX10_undo (kX10_undo N) hd0 [] 1 (some .int) 0
theorem mX10_undo {l : Launch} {N b : Nat} {D : va_G} {cA sa adV : Nat → Nat} (hl : l.stackTraces = false) : Cn l N b D cA sa adV yX10_undo cX10_undo 1 (some .int) 1 22 0 (sX10_undo N) := by
  refine Cn_of (calls := kX10_undo N) (by decide +kernel) oX10_undo (hC_of (cidx := [(1, 168)]) (by decide +kernel) (fun p e s m args below meth c Q Y k kd x na mc tr h1 h2 => ?_)) (hT_no) (hL_of (by decide +kernel)) (fun _ _ => rfl) (fun _ _ _ _ h => h)
  match k, h1, h2 with
  | 0, h1, h2 => cases h1; cases h2; exact callS_of Y (mX10_copies hl) wl_RX10_168 wt_X10_copies wi_RX10 wc_X10_copies (by decide +kernel) ⟨by decide, by decide⟩
  | k + 1, h1, _ => simp at h1
def kX10_isDept (N : Nat) : List (Nat × Nat × SP) := [(3, 0, sX10_in N)]
def sX10_isDept (N : Nat) : SP := RUN N pX10_isDept (kX10_isDept N) hd0 [] 2 (some .boolean) 0
theorem mX10_isDept {l : Launch} {N b : Nat} {D : va_G} {cA sa adV : Nat → Nat} (hl : l.stackTraces = false) : Cn l N b D cA sa adV yX10_isDept cX10_isDept 2 (some .boolean) 1 25 0 (sX10_isDept N) := by
  refine Cn_of (calls := kX10_isDept N) (by decide +kernel) oX10_isDept (hC_of (cidx := [(1, 109)]) (by decide +kernel) (fun p e s m args below meth c Q Y k kd x na mc tr h1 h2 => ?_)) (hT_no) (hL_of (by decide +kernel)) (fun _ _ => rfl) (fun _ _ _ _ h => h)
  match k, h1, h2 with
  | 0, h1, h2 => cases h1; cases h2; exact callS_of Y (mX10_in hl) wl_RX10_109 wt_X10_in wi_RX10 wc_X10_in (by decide +kernel) ⟨by decide, by decide⟩
  | k + 1, h1, _ => simp at h1
def kX10_isKind (N : Nat) : List (Nat × Nat × SP) := [(3, 0, sX10_in N), (3, 0, vsp N 10 (sX10_of N))]
def sX10_isKind (N : Nat) : SP := RUN N pX10_isKind (kX10_isKind N) hd0 [] 4 (some .boolean) 0
theorem mX10_isKind {l : Launch} {N b : Nat} {D : va_G} {cA sa adV : Nat → Nat} (hl : l.stackTraces = false) : Cn l N b D cA sa adV yX10_isKind cX10_isKind 4 (some .boolean) 1 25 0 (sX10_isKind N) := by
  refine Cn_of (calls := kX10_isKind N) (by decide +kernel) oX10_isKind (hC_of (cidx := [(1, 109), (0, 177)]) (by decide +kernel) (fun p e s m args below meth c Q Y k kd x na mc tr h1 h2 => ?_)) (hT_no) (hL_of (by decide +kernel)) (fun _ _ => rfl) (fun _ _ _ _ h => h)
  match k, h1, h2 with
  | 0, h1, h2 => cases h1; cases h2; exact callS_of Y (mX10_in hl) wl_RX10_109 wt_X10_in wi_RX10 wc_X10_in (by decide +kernel) ⟨by decide, by decide⟩
  | 1, h1, h2 => cases h1; cases h2; exact callV_of Y (mX10_of hl) wl_RX10_177 wn_X10_of ws_X10_of wi_RX10 wc_X10_of (T := TX10) (N1 := _) rfl (by decide +kernel) ⟨by decide, by decide⟩
  | k + 2, h1, _ => simp at h1
def kX10_coming (N : Nat) : List (Nat × Nat × SP) := []
def sX10_coming (N : Nat) : SP := RUN N pX10_coming (kX10_coming N) hd0 [] 2 (some .int) 0
theorem mX10_coming {l : Launch} {N b : Nat} {D : va_G} {cA sa adV : Nat → Nat} (hl : l.stackTraces = false) : Cn l N b D cA sa adV yX10_coming cX10_coming 2 (some .int) 0 0 0 (sX10_coming N) := by
  refine Cn_of (calls := kX10_coming N) (by decide +kernel) oX10_coming (hC_of (cidx := []) (by decide +kernel) (fun p e s m args below meth c Q Y k kd x na mc tr h1 h2 => ?_)) (hT_no) (hL_of (by decide +kernel)) (fun _ _ => rfl) (fun _ _ _ _ h => h)
  match k, h1, h2 with
  | k, h1, _ => simp at h1
def kX10_start (N : Nat) : List (Nat × Nat × SP) := [(3, 0, sX10_in N), (4, 0, vsp N 10 (sX10_bad N)), (1, 0, vsp N 10 (sX10_remembers N))]
def sX10_start (N : Nat) : SP := RUN N pX10_start (kX10_start N) hd0 [] 2 (some .int) 0
theorem mX10_start {l : Launch} {N b : Nat} {D : va_G} {cA sa adV : Nat → Nat} (hl : l.stackTraces = false) : Cn l N b D cA sa adV yX10_start cX10_start 2 (some .int) 2 43 0 (sX10_start N) := by
  refine Cn_of (calls := kX10_start N) (by decide +kernel) oX10_start (hC_of (cidx := [(1, 109), (0, 155), (0, 165)]) (by decide +kernel) (fun p e s m args below meth c Q Y k kd x na mc tr h1 h2 => ?_)) (hT_no) (hL_of (by decide +kernel)) (fun _ _ => rfl) (fun _ _ _ _ h => h)
  match k, h1, h2 with
  | 0, h1, h2 => cases h1; cases h2; exact callS_of Y (mX10_in hl) wl_RX10_109 wt_X10_in wi_RX10 wc_X10_in (by decide +kernel) ⟨by decide, by decide⟩
  | 1, h1, h2 => cases h1; cases h2; exact callV_of Y (mX10_bad hl) wl_RX10_155 wn_X10_bad ws_X10_bad wi_RX10 wc_X10_bad (T := TX10) (N1 := _) rfl (by decide +kernel) ⟨by decide, by decide⟩
  | 2, h1, h2 => cases h1; cases h2; exact callV_of Y (mX10_remembers hl) wl_RX10_165 wn_X10_remembers ws_X10_remembers wi_RX10 wc_X10_remembers (T := TX10) (N1 := _) rfl (by decide +kernel) ⟨by decide, by decide⟩
  | k + 3, h1, _ => simp at h1
def kX10_spend (N : Nat) : List (Nat × Nat × SP) := [(2, 0, vsp N 10 (sX10_isDept N)), (4, 0, vsp N 10 (sX10_isKind N)), (4, 0, vsp N 10 (sX10_bad N)), (3, 0, sX10_in N), (2, 0, sX10_coming N), (1, 0, vsp N 10 (sX10_remembers N))]
def sX10_spend (N : Nat) : SP := RUN N pX10_spend (kX10_spend N) hd0 [] 4 (some .int) 0
theorem mX10_spend {l : Launch} {N b : Nat} {D : va_G} {cA sa adV : Nat → Nat} (hl : l.stackTraces = false) : Cn l N b D cA sa adV yX10_spend cX10_spend 4 (some .int) 2 48 0 (sX10_spend N) := by
  refine Cn_of (calls := kX10_spend N) (by decide +kernel) oX10_spend (hC_of (cidx := [(0, 183), (0, 186), (0, 155), (1, 109), (1, 192), (0, 165)]) (by decide +kernel) (fun p e s m args below meth c Q Y k kd x na mc tr h1 h2 => ?_)) (hT_no) (hL_of (by decide +kernel)) (fun _ _ => rfl) (fun _ _ _ _ h => h)
  match k, h1, h2 with
  | 0, h1, h2 => cases h1; cases h2; exact callV_of Y (mX10_isDept hl) wl_RX10_183 wn_X10_isDept ws_X10_isDept wi_RX10 wc_X10_isDept (T := TX10) (N1 := _) rfl (by decide +kernel) ⟨by decide, by decide⟩
  | 1, h1, h2 => cases h1; cases h2; exact callV_of Y (mX10_isKind hl) wl_RX10_186 wn_X10_isKind ws_X10_isKind wi_RX10 wc_X10_isKind (T := TX10) (N1 := _) rfl (by decide +kernel) ⟨by decide, by decide⟩
  | 2, h1, h2 => cases h1; cases h2; exact callV_of Y (mX10_bad hl) wl_RX10_155 wn_X10_bad ws_X10_bad wi_RX10 wc_X10_bad (T := TX10) (N1 := _) rfl (by decide +kernel) ⟨by decide, by decide⟩
  | 3, h1, h2 => cases h1; cases h2; exact callS_of Y (mX10_in hl) wl_RX10_109 wt_X10_in wi_RX10 wc_X10_in (by decide +kernel) ⟨by decide, by decide⟩
  | 4, h1, h2 => cases h1; cases h2; exact callS_of Y (mX10_coming hl) wl_RX10_192 wt_X10_coming wi_RX10 wc_X10_coming (by decide +kernel) ⟨by decide, by decide⟩
  | 5, h1, h2 => cases h1; cases h2; exact callV_of Y (mX10_remembers hl) wl_RX10_165 wn_X10_remembers ws_X10_remembers wi_RX10 wc_X10_remembers (T := TX10) (N1 := _) rfl (by decide +kernel) ⟨by decide, by decide⟩
  | k + 6, h1, _ => simp at h1
def kX10_lost (N : Nat) : List (Nat × Nat × SP) := [(2, 0, vsp N 10 (sX10_isDept N)), (4, 0, vsp N 10 (sX10_bad N)), (3, 0, sX10_in N), (1, 0, vsp N 10 (sX10_remembers N)), (2, 0, sX10_coming N)]
def sX10_lost (N : Nat) : SP := RUN N pX10_lost (kX10_lost N) hd0 [] 4 (some .int) 0
theorem mX10_lost {l : Launch} {N b : Nat} {D : va_G} {cA sa adV : Nat → Nat} (hl : l.stackTraces = false) : Cn l N b D cA sa adV yX10_lost cX10_lost 4 (some .int) 2 46 0 (sX10_lost N) := by
  refine Cn_of (calls := kX10_lost N) (by decide +kernel) oX10_lost (hC_of (cidx := [(0, 183), (0, 155), (1, 109), (0, 165), (1, 192)]) (by decide +kernel) (fun p e s m args below meth c Q Y k kd x na mc tr h1 h2 => ?_)) (hT_no) (hL_of (by decide +kernel)) (fun _ _ => rfl) (fun _ _ _ _ h => h)
  match k, h1, h2 with
  | 0, h1, h2 => cases h1; cases h2; exact callV_of Y (mX10_isDept hl) wl_RX10_183 wn_X10_isDept ws_X10_isDept wi_RX10 wc_X10_isDept (T := TX10) (N1 := _) rfl (by decide +kernel) ⟨by decide, by decide⟩
  | 1, h1, h2 => cases h1; cases h2; exact callV_of Y (mX10_bad hl) wl_RX10_155 wn_X10_bad ws_X10_bad wi_RX10 wc_X10_bad (T := TX10) (N1 := _) rfl (by decide +kernel) ⟨by decide, by decide⟩
  | 2, h1, h2 => cases h1; cases h2; exact callS_of Y (mX10_in hl) wl_RX10_109 wt_X10_in wi_RX10 wc_X10_in (by decide +kernel) ⟨by decide, by decide⟩
  | 3, h1, h2 => cases h1; cases h2; exact callV_of Y (mX10_remembers hl) wl_RX10_165 wn_X10_remembers ws_X10_remembers wi_RX10 wc_X10_remembers (T := TX10) (N1 := _) rfl (by decide +kernel) ⟨by decide, by decide⟩
  | 4, h1, h2 => cases h1; cases h2; exact callS_of Y (mX10_coming hl) wl_RX10_192 wt_X10_coming wi_RX10 wc_X10_coming (by decide +kernel) ⟨by decide, by decide⟩
  | k + 5, h1, _ => simp at h1
def kX10_left (N : Nat) : List (Nat × Nat × SP) := [(2, 0, vsp N 10 (sX10_isDept N)), (4, 0, vsp N 10 (sX10_bad N)), (3, 0, sX10_in N), (1, 0, vsp N 10 (sX10_remembers N)), (2, 0, sX10_coming N)]
def sX10_left (N : Nat) : SP := RUN N pX10_left (kX10_left N) hd0 [] 5 (some .int) 0
theorem mX10_left {l : Launch} {N b : Nat} {D : va_G} {cA sa adV : Nat → Nat} (hl : l.stackTraces = false) : Cn l N b D cA sa adV yX10_left cX10_left 5 (some .int) 2 46 0 (sX10_left N) := by
  refine Cn_of (calls := kX10_left N) (by decide +kernel) oX10_left (hC_of (cidx := [(0, 183), (0, 155), (1, 109), (0, 165), (1, 192)]) (by decide +kernel) (fun p e s m args below meth c Q Y k kd x na mc tr h1 h2 => ?_)) (hT_no) (hL_of (by decide +kernel)) (fun _ _ => rfl) (fun _ _ _ _ h => h)
  match k, h1, h2 with
  | 0, h1, h2 => cases h1; cases h2; exact callV_of Y (mX10_isDept hl) wl_RX10_183 wn_X10_isDept ws_X10_isDept wi_RX10 wc_X10_isDept (T := TX10) (N1 := _) rfl (by decide +kernel) ⟨by decide, by decide⟩
  | 1, h1, h2 => cases h1; cases h2; exact callV_of Y (mX10_bad hl) wl_RX10_155 wn_X10_bad ws_X10_bad wi_RX10 wc_X10_bad (T := TX10) (N1 := _) rfl (by decide +kernel) ⟨by decide, by decide⟩
  | 2, h1, h2 => cases h1; cases h2; exact callS_of Y (mX10_in hl) wl_RX10_109 wt_X10_in wi_RX10 wc_X10_in (by decide +kernel) ⟨by decide, by decide⟩
  | 3, h1, h2 => cases h1; cases h2; exact callV_of Y (mX10_remembers hl) wl_RX10_165 wn_X10_remembers ws_X10_remembers wi_RX10 wc_X10_remembers (T := TX10) (N1 := _) rfl (by decide +kernel) ⟨by decide, by decide⟩
  | 4, h1, h2 => cases h1; cases h2; exact callS_of Y (mX10_coming hl) wl_RX10_192 wt_X10_coming wi_RX10 wc_X10_coming (by decide +kernel) ⟨by decide, by decide⟩
  | k + 5, h1, _ => simp at h1
def kX10_latest (N : Nat) : List (Nat × Nat × SP) := []
def sX10_latest (N : Nat) : SP := RUN N pX10_latest (kX10_latest N) hd0 [] 2 (some .int) 0
theorem mX10_latest {l : Launch} {N b : Nat} {D : va_G} {cA sa adV : Nat → Nat} (hl : l.stackTraces = false) : Cn l N b D cA sa adV yX10_latest cX10_latest 2 (some .int) 0 0 0 (sX10_latest N) := by
  refine Cn_of (calls := kX10_latest N) (by decide +kernel) oX10_latest (hC_of (cidx := []) (by decide +kernel) (fun p e s m args below meth c Q Y k kd x na mc tr h1 h2 => ?_)) (hT_no) (hL_of (by decide +kernel)) (fun _ _ => rfl) (fun _ _ _ _ h => h)
  match k, h1, h2 with
  | k, h1, _ => simp at h1
def kX10_working (N : Nat) : List (Nat × Nat × SP) := []
def sX10_working (N : Nat) : SP := RUN N pX10_working (kX10_working N) hd0 [] 2 (some .int) 0
theorem mX10_working {l : Launch} {N b : Nat} {D : va_G} {cA sa adV : Nat → Nat} (hl : l.stackTraces = false) : Cn l N b D cA sa adV yX10_working cX10_working 2 (some .int) 0 0 0 (sX10_working N) := by
  refine Cn_of (calls := kX10_working N) (by decide +kernel) oX10_working (hC_of (cidx := []) (by decide +kernel) (fun p e s m args below meth c Q Y k kd x na mc tr h1 h2 => ?_)) (hT_no) (hL_of (by decide +kernel)) (fun _ _ => rfl) (fun _ _ _ _ h => h)
  match k, h1, h2 with
  | k, h1, _ => simp at h1
def kX10_doneAt (N : Nat) : List (Nat × Nat × SP) := []
def sX10_doneAt (N : Nat) : SP := RUN N pX10_doneAt (kX10_doneAt N) hd0 [] 7 (some .long) 0
theorem mX10_doneAt {l : Launch} {N b : Nat} {D : va_G} {cA sa adV : Nat → Nat} (hl : l.stackTraces = false) : Cn l N b D cA sa adV yX10_doneAt cX10_doneAt 7 (some .long) 0 0 0 (sX10_doneAt N) := by
  refine Cn_of (calls := kX10_doneAt N) (by decide +kernel) oX10_doneAt (hC_of (cidx := []) (by decide +kernel) (fun p e s m args below meth c Q Y k kd x na mc tr h1 h2 => ?_)) (hT_no) (hL_of (by decide +kernel)) (fun _ _ => rfl) (fun _ _ _ _ h => h)
  match k, h1, h2 with
  | k, h1, _ => simp at h1
def kX10_cut (N : Nat) : List (Nat × Nat × SP) := []
def sX10_cut (N : Nat) : SP := RUN N pX10_cut (kX10_cut N) hd0 [] 6 (some .long) 0
theorem mX10_cut {l : Launch} {N b : Nat} {D : va_G} {cA sa adV : Nat → Nat} (hl : l.stackTraces = false) : Cn l N b D cA sa adV yX10_cut cX10_cut 6 (some .long) 0 0 0 (sX10_cut N) := by
  refine Cn_of (calls := kX10_cut N) (by decide +kernel) oX10_cut (hC_of (cidx := []) (by decide +kernel) (fun p e s m args below meth c Q Y k kd x na mc tr h1 h2 => ?_)) (hT_no) (hL_of (by decide +kernel)) (fun _ _ => rfl) (fun _ _ _ _ h => h)
  match k, h1, h2 with
  | k, h1, _ => simp at h1
def kX10_losses (N : Nat) : List (Nat × Nat × SP) := [(2, 0, sX10_latest N), (3, 0, sX10_cut N), (2, 0, sX10_more N)]
def sX10_losses (N : Nat) : SP := RUN N pX10_losses (kX10_losses N) hd0 [] 25 none 0
theorem mX10_losses {l : Launch} {N b : Nat} {D : va_G} {cA sa adV : Nat → Nat} (hl : l.stackTraces = false) : Cn l N b D cA sa adV yX10_losses cX10_losses 25 none 1 25 0 (sX10_losses N) := by
  refine Cn_of (calls := kX10_losses N) (by decide +kernel) oX10_losses (hC_of (cidx := [(1, 197), (1, 207), (1, 200)]) (by decide +kernel) (fun p e s m args below meth c Q Y k kd x na mc tr h1 h2 => ?_)) (hT_no) (hL_of (by decide +kernel)) (fun _ _ => rfl) (fun _ _ _ _ h => h)
  match k, h1, h2 with
  | 0, h1, h2 => cases h1; cases h2; exact callS_of Y (mX10_latest hl) wl_RX10_197 wt_X10_latest wi_RX10 wc_X10_latest (by decide +kernel) ⟨by decide, by decide⟩
  | 1, h1, h2 => cases h1; cases h2; exact callS_of Y (mX10_cut hl) wl_RX10_207 wt_X10_cut wi_RX10 wc_X10_cut (by decide +kernel) ⟨by decide, by decide⟩
  | 2, h1, h2 => cases h1; cases h2; exact callS_of Y (mX10_more hl) wl_RX10_200 wt_X10_more wi_RX10 wc_X10_more (by decide +kernel) ⟨by decide, by decide⟩
  | k + 3, h1, _ => simp at h1
def kX10_counts (N : Nat) : List (Nat × Nat × SP) := [(2, 0, sX10_latest N), (2, 0, sX10_more N), (2, 0, sX10_less N), (4, 0, sX10_doneAt N), (3, 0, sX10_cut N), (6, 0, sX10_losses N)]
def sX10_counts (N : Nat) : SP := RUN N pX10_counts (kX10_counts N) hd0 [] 48 (some .boolean) 0
theorem mX10_counts {l : Launch} {N b : Nat} {D : va_G} {cA sa adV : Nat → Nat} (hl : l.stackTraces = false) : Cn l N b D cA sa adV yX10_counts cX10_counts 48 (some .boolean) 2 69 0 (sX10_counts N) := by
  refine Cn_of (calls := kX10_counts N) (by decide +kernel) oX10_counts (hC_of (cidx := [(1, 197), (1, 200), (1, 105), (1, 203), (1, 207), (1, 211)]) (by decide +kernel) (fun p e s m args below meth c Q Y k kd x na mc tr h1 h2 => ?_)) (hT_no) (hL_of (by decide +kernel)) (fun _ _ => rfl) (fun _ _ _ _ h => h)
  match k, h1, h2 with
  | 0, h1, h2 => cases h1; cases h2; exact callS_of Y (mX10_latest hl) wl_RX10_197 wt_X10_latest wi_RX10 wc_X10_latest (by decide +kernel) ⟨by decide, by decide⟩
  | 1, h1, h2 => cases h1; cases h2; exact callS_of Y (mX10_more hl) wl_RX10_200 wt_X10_more wi_RX10 wc_X10_more (by decide +kernel) ⟨by decide, by decide⟩
  | 2, h1, h2 => cases h1; cases h2; exact callS_of Y (mX10_less hl) wl_RX10_105 wt_X10_less wi_RX10 wc_X10_less (by decide +kernel) ⟨by decide, by decide⟩
  | 3, h1, h2 => cases h1; cases h2; exact callS_of Y (mX10_doneAt hl) wl_RX10_203 wt_X10_doneAt wi_RX10 wc_X10_doneAt (by decide +kernel) ⟨by decide, by decide⟩
  | 4, h1, h2 => cases h1; cases h2; exact callS_of Y (mX10_cut hl) wl_RX10_207 wt_X10_cut wi_RX10 wc_X10_cut (by decide +kernel) ⟨by decide, by decide⟩
  | 5, h1, h2 => cases h1; cases h2; exact callS_of Y (mX10_losses hl) wl_RX10_211 wt_X10_losses wi_RX10 wc_X10_losses (by decide +kernel) ⟨by decide, by decide⟩
  | k + 6, h1, _ => simp at h1
def kX10_opens (N : Nat) : List (Nat × Nat × SP) := [(2, 0, sX10_latest N), (2, 0, sX10_working N), (2, 0, sX10_coming N)]
def sX10_opens (N : Nat) : SP := RUN N pX10_opens (kX10_opens N) hd0 [] 7 none 0
theorem mX10_opens {l : Launch} {N b : Nat} {D : va_G} {cA sa adV : Nat → Nat} (hl : l.stackTraces = false) : Cn l N b D cA sa adV yX10_opens cX10_opens 7 none 1 21 0 (sX10_opens N) := by
  refine Cn_of (calls := kX10_opens N) (by decide +kernel) oX10_opens (hC_of (cidx := [(1, 197), (1, 215), (1, 192)]) (by decide +kernel) (fun p e s m args below meth c Q Y k kd x na mc tr h1 h2 => ?_)) (hT_no) (hL_of (by decide +kernel)) (fun _ _ => rfl) (fun _ _ _ _ h => h)
  match k, h1, h2 with
  | 0, h1, h2 => cases h1; cases h2; exact callS_of Y (mX10_latest hl) wl_RX10_197 wt_X10_latest wi_RX10 wc_X10_latest (by decide +kernel) ⟨by decide, by decide⟩
  | 1, h1, h2 => cases h1; cases h2; exact callS_of Y (mX10_working hl) wl_RX10_215 wt_X10_working wi_RX10 wc_X10_working (by decide +kernel) ⟨by decide, by decide⟩
  | 2, h1, h2 => cases h1; cases h2; exact callS_of Y (mX10_coming hl) wl_RX10_192 wt_X10_coming wi_RX10 wc_X10_coming (by decide +kernel) ⟨by decide, by decide⟩
  | k + 3, h1, _ => simp at h1
def kX10_closes (N : Nat) : List (Nat × Nat × SP) := [(2, 0, sX10_latest N), (2, 0, sX10_working N), (2, 0, sX10_coming N)]
def sX10_closes (N : Nat) : SP := RUN N pX10_closes (kX10_closes N) hd0 [] 5 none 0
theorem mX10_closes {l : Launch} {N b : Nat} {D : va_G} {cA sa adV : Nat → Nat} (hl : l.stackTraces = false) : Cn l N b D cA sa adV yX10_closes cX10_closes 5 none 1 21 0 (sX10_closes N) := by
  refine Cn_of (calls := kX10_closes N) (by decide +kernel) oX10_closes (hC_of (cidx := [(1, 197), (1, 215), (1, 192)]) (by decide +kernel) (fun p e s m args below meth c Q Y k kd x na mc tr h1 h2 => ?_)) (hT_no) (hL_of (by decide +kernel)) (fun _ _ => rfl) (fun _ _ _ _ h => h)
  match k, h1, h2 with
  | 0, h1, h2 => cases h1; cases h2; exact callS_of Y (mX10_latest hl) wl_RX10_197 wt_X10_latest wi_RX10 wc_X10_latest (by decide +kernel) ⟨by decide, by decide⟩
  | 1, h1, h2 => cases h1; cases h2; exact callS_of Y (mX10_working hl) wl_RX10_215 wt_X10_working wi_RX10 wc_X10_working (by decide +kernel) ⟨by decide, by decide⟩
  | 2, h1, h2 => cases h1; cases h2; exact callS_of Y (mX10_coming hl) wl_RX10_192 wt_X10_coming wi_RX10 wc_X10_coming (by decide +kernel) ⟨by decide, by decide⟩
  | k + 3, h1, _ => simp at h1
def kX10_storeAt (N : Nat) : List (Nat × Nat × SP) := []
def sX10_storeAt (N : Nat) : SP := RUN N pX10_storeAt (kX10_storeAt N) hd0 [] 1 (some .int) 0
theorem mX10_storeAt {l : Launch} {N b : Nat} {D : va_G} {cA sa adV : Nat → Nat} (hl : l.stackTraces = false) : Cn l N b D cA sa adV yX10_storeAt cX10_storeAt 1 (some .int) 0 0 0 (sX10_storeAt N) := by
  refine Cn_of (calls := kX10_storeAt N) (by decide +kernel) oX10_storeAt (hC_of (cidx := []) (by decide +kernel) (fun p e s m args below meth c Q Y k kd x na mc tr h1 h2 => ?_)) (hT_no) (hL_of (by decide +kernel)) (fun _ _ => rfl) (fun _ _ _ _ h => h)
  match k, h1, h2 with
  | k, h1, _ => simp at h1
def kX10_layerAt (N : Nat) : List (Nat × Nat × SP) := [(1, 0, sX10_storeAt N)]
def sX10_layerAt (N : Nat) : SP := RUN N pX10_layerAt (kX10_layerAt N) hd0 [] 3 (some .int) 0
theorem mX10_layerAt {l : Launch} {N b : Nat} {D : va_G} {cA sa adV : Nat → Nat} (hl : l.stackTraces = false) : Cn l N b D cA sa adV yX10_layerAt cX10_layerAt 3 (some .int) 1 20 0 (sX10_layerAt N) := by
  refine Cn_of (calls := kX10_layerAt N) (by decide +kernel) oX10_layerAt (hC_of (cidx := [(1, 218)]) (by decide +kernel) (fun p e s m args below meth c Q Y k kd x na mc tr h1 h2 => ?_)) (hT_no) (hL_of (by decide +kernel)) (fun _ _ => rfl) (fun _ _ _ _ h => h)
  match k, h1, h2 with
  | 0, h1, h2 => cases h1; cases h2; exact callS_of Y (mX10_storeAt hl) wl_RX10_218 wt_X10_storeAt wi_RX10 wc_X10_storeAt (by decide +kernel) ⟨by decide, by decide⟩
  | k + 1, h1, _ => simp at h1
def kX10_share (N : Nat) : List (Nat × Nat × SP) := []
def sX10_share (N : Nat) : SP := RUN N pX10_share (kX10_share N) hd0 [] 3 (some .long) 0
theorem mX10_share {l : Launch} {N b : Nat} {D : va_G} {cA sa adV : Nat → Nat} (hl : l.stackTraces = false) : Cn l N b D cA sa adV yX10_share cX10_share 3 (some .long) 0 0 0 (sX10_share N) := by
  refine Cn_of (calls := kX10_share N) (by decide +kernel) oX10_share (hC_of (cidx := []) (by decide +kernel) (fun p e s m args below meth c Q Y k kd x na mc tr h1 h2 => ?_)) (hT_no) (hL_of (by decide +kernel)) (fun _ _ => rfl) (fun _ _ _ _ h => h)
  match k, h1, h2 with
  | k, h1, _ => simp at h1
def kX10_parts (N : Nat) : List (Nat × Nat × SP) := [(2, 0, sX10_latest N), (3, 0, sX10_share N), (2, 0, sX10_more N), (2, 0, sX10_less N), (3, 0, sX10_cut N)]
def sX10_parts (N : Nat) : SP := RUN N pX10_parts (kX10_parts N) hd0 [] 22 none 0
theorem mX10_parts {l : Launch} {N b : Nat} {D : va_G} {cA sa adV : Nat → Nat} (hl : l.stackTraces = false) : Cn l N b D cA sa adV yX10_parts cX10_parts 22 none 1 25 0 (sX10_parts N) := by
  refine Cn_of (calls := kX10_parts N) (by decide +kernel) oX10_parts (hC_of (cidx := [(1, 197), (1, 221), (1, 200), (1, 105), (1, 207)]) (by decide +kernel) (fun p e s m args below meth c Q Y k kd x na mc tr h1 h2 => ?_)) (hT_no) (hL_of (by decide +kernel)) (fun _ _ => rfl) (fun _ _ _ _ h => h)
  match k, h1, h2 with
  | 0, h1, h2 => cases h1; cases h2; exact callS_of Y (mX10_latest hl) wl_RX10_197 wt_X10_latest wi_RX10 wc_X10_latest (by decide +kernel) ⟨by decide, by decide⟩
  | 1, h1, h2 => cases h1; cases h2; exact callS_of Y (mX10_share hl) wl_RX10_221 wt_X10_share wi_RX10 wc_X10_share (by decide +kernel) ⟨by decide, by decide⟩
  | 2, h1, h2 => cases h1; cases h2; exact callS_of Y (mX10_more hl) wl_RX10_200 wt_X10_more wi_RX10 wc_X10_more (by decide +kernel) ⟨by decide, by decide⟩
  | 3, h1, h2 => cases h1; cases h2; exact callS_of Y (mX10_less hl) wl_RX10_105 wt_X10_less wi_RX10 wc_X10_less (by decide +kernel) ⟨by decide, by decide⟩
  | 4, h1, h2 => cases h1; cases h2; exact callS_of Y (mX10_cut hl) wl_RX10_207 wt_X10_cut wi_RX10 wc_X10_cut (by decide +kernel) ⟨by decide, by decide⟩
  | k + 5, h1, _ => simp at h1
def kX10_stores (N : Nat) : List (Nat × Nat × SP) := [(1, 0, sX10_storeAt N), (2, 0, sX10_layerAt N)]
def sX10_stores (N : Nat) : SP := RUN N pX10_stores (kX10_stores N) hd0 [] 8 (some .boolean) 0
theorem mX10_stores {l : Launch} {N b : Nat} {D : va_G} {cA sa adV : Nat → Nat} (hl : l.stackTraces = false) : Cn l N b D cA sa adV yX10_stores cX10_stores 8 (some .boolean) 2 42 0 (sX10_stores N) := by
  refine Cn_of (calls := kX10_stores N) (by decide +kernel) oX10_stores (hC_of (cidx := [(1, 218), (1, 227)]) (by decide +kernel) (fun p e s m args below meth c Q Y k kd x na mc tr h1 h2 => ?_)) (hT_no) (hL_of (by decide +kernel)) (fun _ _ => rfl) (fun _ _ _ _ h => h)
  match k, h1, h2 with
  | 0, h1, h2 => cases h1; cases h2; exact callS_of Y (mX10_storeAt hl) wl_RX10_218 wt_X10_storeAt wi_RX10 wc_X10_storeAt (by decide +kernel) ⟨by decide, by decide⟩
  | 1, h1, h2 => cases h1; cases h2; exact callS_of Y (mX10_layerAt hl) wl_RX10_227 wt_X10_layerAt wi_RX10 wc_X10_layerAt (by decide +kernel) ⟨by decide, by decide⟩
  | k + 2, h1, _ => simp at h1
def kX10_close (N : Nat) : List (Nat × Nat × SP) := [(2, 0, sX10_copies N), (2, 0, sX10_latest N), (4, 0, sX10_opens N), (3, 0, sX10_counts N), (1, 0, sX10_parts N), (1, 0, sX10_stores N), (4, 0, vsp N 10 (sX10_bad N)), (1, 0, vsp N 10 (sX10_remembers N)), (2, 0, sX10_closes N)]
def sX10_close (N : Nat) : SP := RUN N pX10_close (kX10_close N) hd0 [] 3 (some .long) 0
theorem mX10_close {l : Launch} {N b : Nat} {D : va_G} {cA sa adV : Nat → Nat} (hl : l.stackTraces = false) : Cn l N b D cA sa adV yX10_close cX10_close 3 (some .long) 3 136 0 (sX10_close N) := by
  refine Cn_of (calls := kX10_close N) (by decide +kernel) oX10_close (hC_of (cidx := [(1, 168), (1, 197), (1, 231), (1, 235), (1, 239), (1, 242), (0, 155), (0, 165), (1, 246)]) (by decide +kernel) (fun p e s m args below meth c Q Y k kd x na mc tr h1 h2 => ?_)) (hT_no) (hL_of (by decide +kernel)) (fun _ _ => rfl) (fun _ _ _ _ h => h)
  match k, h1, h2 with
  | 0, h1, h2 => cases h1; cases h2; exact callS_of Y (mX10_copies hl) wl_RX10_168 wt_X10_copies wi_RX10 wc_X10_copies (by decide +kernel) ⟨by decide, by decide⟩
  | 1, h1, h2 => cases h1; cases h2; exact callS_of Y (mX10_latest hl) wl_RX10_197 wt_X10_latest wi_RX10 wc_X10_latest (by decide +kernel) ⟨by decide, by decide⟩
  | 2, h1, h2 => cases h1; cases h2; exact callS_of Y (mX10_opens hl) wl_RX10_231 wt_X10_opens wi_RX10 wc_X10_opens (by decide +kernel) ⟨by decide, by decide⟩
  | 3, h1, h2 => cases h1; cases h2; exact callS_of Y (mX10_counts hl) wl_RX10_235 wt_X10_counts wi_RX10 wc_X10_counts (by decide +kernel) ⟨by decide, by decide⟩
  | 4, h1, h2 => cases h1; cases h2; exact callS_of Y (mX10_parts hl) wl_RX10_239 wt_X10_parts wi_RX10 wc_X10_parts (by decide +kernel) ⟨by decide, by decide⟩
  | 5, h1, h2 => cases h1; cases h2; exact callS_of Y (mX10_stores hl) wl_RX10_242 wt_X10_stores wi_RX10 wc_X10_stores (by decide +kernel) ⟨by decide, by decide⟩
  | 6, h1, h2 => cases h1; cases h2; exact callV_of Y (mX10_bad hl) wl_RX10_155 wn_X10_bad ws_X10_bad wi_RX10 wc_X10_bad (T := TX10) (N1 := _) rfl (by decide +kernel) ⟨by decide, by decide⟩
  | 7, h1, h2 => cases h1; cases h2; exact callV_of Y (mX10_remembers hl) wl_RX10_165 wn_X10_remembers ws_X10_remembers wi_RX10 wc_X10_remembers (T := TX10) (N1 := _) rfl (by decide +kernel) ⟨by decide, by decide⟩
  | 8, h1, h2 => cases h1; cases h2; exact callS_of Y (mX10_closes hl) wl_RX10_246 wt_X10_closes wi_RX10 wc_X10_closes (by decide +kernel) ⟨by decide, by decide⟩
  | k + 9, h1, _ => simp at h1
def kX10_isProduct (N : Nat) : List (Nat × Nat × SP) := [(3, 0, sX10_in N)]
def sX10_isProduct (N : Nat) : SP := RUN N pX10_isProduct (kX10_isProduct N) hd0 [] 2 (some .boolean) 0
theorem mX10_isProduct {l : Launch} {N b : Nat} {D : va_G} {cA sa adV : Nat → Nat} (hl : l.stackTraces = false) : Cn l N b D cA sa adV yX10_isProduct cX10_isProduct 2 (some .boolean) 1 25 0 (sX10_isProduct N) := by
  refine Cn_of (calls := kX10_isProduct N) (by decide +kernel) oX10_isProduct (hC_of (cidx := [(1, 109)]) (by decide +kernel) (fun p e s m args below meth c Q Y k kd x na mc tr h1 h2 => ?_)) (hT_no) (hL_of (by decide +kernel)) (fun _ _ => rfl) (fun _ _ _ _ h => h)
  match k, h1, h2 with
  | 0, h1, h2 => cases h1; cases h2; exact callS_of Y (mX10_in hl) wl_RX10_109 wt_X10_in wi_RX10 wc_X10_in (by decide +kernel) ⟨by decide, by decide⟩
  | k + 1, h1, _ => simp at h1
def kX10_unitsIn (N : Nat) : List (Nat × Nat × SP) := [(1, 0, sX10_storeAt N), (2, 0, sX10_layerAt N)]
def sX10_unitsIn (N : Nat) : SP := RUN N pX10_unitsIn (kX10_unitsIn N) hd0 [] 6 (some .long) 0
theorem mX10_unitsIn {l : Launch} {N b : Nat} {D : va_G} {cA sa adV : Nat → Nat} (hl : l.stackTraces = false) : Cn l N b D cA sa adV yX10_unitsIn cX10_unitsIn 6 (some .long) 2 42 0 (sX10_unitsIn N) := by
  refine Cn_of (calls := kX10_unitsIn N) (by decide +kernel) oX10_unitsIn (hC_of (cidx := [(1, 218), (1, 227)]) (by decide +kernel) (fun p e s m args below meth c Q Y k kd x na mc tr h1 h2 => ?_)) (hT_no) (hL_of (by decide +kernel)) (fun _ _ => rfl) (fun _ _ _ _ h => h)
  match k, h1, h2 with
  | 0, h1, h2 => cases h1; cases h2; exact callS_of Y (mX10_storeAt hl) wl_RX10_218 wt_X10_storeAt wi_RX10 wc_X10_storeAt (by decide +kernel) ⟨by decide, by decide⟩
  | 1, h1, h2 => cases h1; cases h2; exact callS_of Y (mX10_layerAt hl) wl_RX10_227 wt_X10_layerAt wi_RX10 wc_X10_layerAt (by decide +kernel) ⟨by decide, by decide⟩
  | k + 2, h1, _ => simp at h1
def kX10_sell (N : Nat) : List (Nat × Nat × SP) := [(2, 0, vsp N 10 (sX10_isProduct N)), (4, 0, vsp N 10 (sX10_bad N)), (3, 0, sX10_in N), (3, 0, vsp N 10 (sX10_unitsIn N)), (1, 0, vsp N 10 (sX10_remembers N)), (2, 0, sX10_layerAt N), (2, 0, sX10_less N), (3, 0, sX10_cut N), (1, 0, sX10_storeAt N)]
def sX10_sell (N : Nat) : SP := RUN N pX10_sell (kX10_sell N) hd0 [] 14 (some .long) 0
theorem mX10_sell {l : Launch} {N b : Nat} {D : va_G} {cA sa adV : Nat → Nat} (hl : l.stackTraces = false) : Cn l N b D cA sa adV yX10_sell cX10_sell 14 (some .long) 3 67 0 (sX10_sell N) := by
  refine Cn_of (calls := kX10_sell N) (by decide +kernel) oX10_sell (hC_of (cidx := [(0, 250), (0, 155), (1, 109), (0, 253), (0, 165), (1, 227), (1, 105), (1, 207), (1, 218)]) (by decide +kernel) (fun p e s m args below meth c Q Y k kd x na mc tr h1 h2 => ?_)) (hT_no) (hL_of (by decide +kernel)) (fun _ _ => rfl) (fun _ _ _ _ h => h)
  match k, h1, h2 with
  | 0, h1, h2 => cases h1; cases h2; exact callV_of Y (mX10_isProduct hl) wl_RX10_250 wn_X10_isProduct ws_X10_isProduct wi_RX10 wc_X10_isProduct (T := TX10) (N1 := _) rfl (by decide +kernel) ⟨by decide, by decide⟩
  | 1, h1, h2 => cases h1; cases h2; exact callV_of Y (mX10_bad hl) wl_RX10_155 wn_X10_bad ws_X10_bad wi_RX10 wc_X10_bad (T := TX10) (N1 := _) rfl (by decide +kernel) ⟨by decide, by decide⟩
  | 2, h1, h2 => cases h1; cases h2; exact callS_of Y (mX10_in hl) wl_RX10_109 wt_X10_in wi_RX10 wc_X10_in (by decide +kernel) ⟨by decide, by decide⟩
  | 3, h1, h2 => cases h1; cases h2; exact callV_of Y (mX10_unitsIn hl) wl_RX10_253 wn_X10_unitsIn ws_X10_unitsIn wi_RX10 wc_X10_unitsIn (T := TX10) (N1 := _) rfl (by decide +kernel) ⟨by decide, by decide⟩
  | 4, h1, h2 => cases h1; cases h2; exact callV_of Y (mX10_remembers hl) wl_RX10_165 wn_X10_remembers ws_X10_remembers wi_RX10 wc_X10_remembers (T := TX10) (N1 := _) rfl (by decide +kernel) ⟨by decide, by decide⟩
  | 5, h1, h2 => cases h1; cases h2; exact callS_of Y (mX10_layerAt hl) wl_RX10_227 wt_X10_layerAt wi_RX10 wc_X10_layerAt (by decide +kernel) ⟨by decide, by decide⟩
  | 6, h1, h2 => cases h1; cases h2; exact callS_of Y (mX10_less hl) wl_RX10_105 wt_X10_less wi_RX10 wc_X10_less (by decide +kernel) ⟨by decide, by decide⟩
  | 7, h1, h2 => cases h1; cases h2; exact callS_of Y (mX10_cut hl) wl_RX10_207 wt_X10_cut wi_RX10 wc_X10_cut (by decide +kernel) ⟨by decide, by decide⟩
  | 8, h1, h2 => cases h1; cases h2; exact callS_of Y (mX10_storeAt hl) wl_RX10_218 wt_X10_storeAt wi_RX10 wc_X10_storeAt (by decide +kernel) ⟨by decide, by decide⟩
  | k + 9, h1, _ => simp at h1
def kX10_told (N : Nat) : List (Nat × Nat × SP) := [(3, 0, sX10_in N), (4, 0, vsp N 10 (sX10_bad N))]
def sX10_told (N : Nat) : SP := RUN N pX10_told (kX10_told N) hd0 [] 2 (some .int) 0
theorem mX10_told {l : Launch} {N b : Nat} {D : va_G} {cA sa adV : Nat → Nat} (hl : l.stackTraces = false) : Cn l N b D cA sa adV yX10_told cX10_told 2 (some .int) 1 25 0 (sX10_told N) := by
  refine Cn_of (calls := kX10_told N) (by decide +kernel) oX10_told (hC_of (cidx := [(1, 109), (0, 155)]) (by decide +kernel) (fun p e s m args below meth c Q Y k kd x na mc tr h1 h2 => ?_)) (hT_no) (hL_of (by decide +kernel)) (fun _ _ => rfl) (fun _ _ _ _ h => h)
  match k, h1, h2 with
  | 0, h1, h2 => cases h1; cases h2; exact callS_of Y (mX10_in hl) wl_RX10_109 wt_X10_in wi_RX10 wc_X10_in (by decide +kernel) ⟨by decide, by decide⟩
  | 1, h1, h2 => cases h1; cases h2; exact callV_of Y (mX10_bad hl) wl_RX10_155 wn_X10_bad ws_X10_bad wi_RX10 wc_X10_bad (T := TX10) (N1 := _) rfl (by decide +kernel) ⟨by decide, by decide⟩
  | k + 2, h1, _ => simp at h1
def kX10_department (N : Nat) : List (Nat × Nat × SP) := [(2, 0, vsp N 10 (sX10_isDept N)), (4, 0, vsp N 10 (sX10_bad N)), (3, 0, sX10_in N), (3, 0, vsp N 10 (sX10_of N)), (2, 0, sX10_coming N)]
def sX10_department (N : Nat) : SP := RUN N pX10_department (kX10_department N) hd0 [] 3 (some .int) 0
theorem mX10_department {l : Launch} {N b : Nat} {D : va_G} {cA sa adV : Nat → Nat} (hl : l.stackTraces = false) : Cn l N b D cA sa adV yX10_department cX10_department 3 (some .int) 2 46 0 (sX10_department N) := by
  refine Cn_of (calls := kX10_department N) (by decide +kernel) oX10_department (hC_of (cidx := [(0, 183), (0, 155), (1, 109), (0, 177), (1, 192)]) (by decide +kernel) (fun p e s m args below meth c Q Y k kd x na mc tr h1 h2 => ?_)) (hT_no) (hL_of (by decide +kernel)) (fun _ _ => rfl) (fun _ _ _ _ h => h)
  match k, h1, h2 with
  | 0, h1, h2 => cases h1; cases h2; exact callV_of Y (mX10_isDept hl) wl_RX10_183 wn_X10_isDept ws_X10_isDept wi_RX10 wc_X10_isDept (T := TX10) (N1 := _) rfl (by decide +kernel) ⟨by decide, by decide⟩
  | 1, h1, h2 => cases h1; cases h2; exact callV_of Y (mX10_bad hl) wl_RX10_155 wn_X10_bad ws_X10_bad wi_RX10 wc_X10_bad (T := TX10) (N1 := _) rfl (by decide +kernel) ⟨by decide, by decide⟩
  | 2, h1, h2 => cases h1; cases h2; exact callS_of Y (mX10_in hl) wl_RX10_109 wt_X10_in wi_RX10 wc_X10_in (by decide +kernel) ⟨by decide, by decide⟩
  | 3, h1, h2 => cases h1; cases h2; exact callV_of Y (mX10_of hl) wl_RX10_177 wn_X10_of ws_X10_of wi_RX10 wc_X10_of (T := TX10) (N1 := _) rfl (by decide +kernel) ⟨by decide, by decide⟩
  | 4, h1, h2 => cases h1; cases h2; exact callS_of Y (mX10_coming hl) wl_RX10_192 wt_X10_coming wi_RX10 wc_X10_coming (by decide +kernel) ⟨by decide, by decide⟩
  | k + 5, h1, _ => simp at h1
def kX10_product (N : Nat) : List (Nat × Nat × SP) := [(2, 0, vsp N 10 (sX10_isProduct N)), (4, 0, vsp N 10 (sX10_bad N)), (3, 0, sX10_in N), (3, 0, sX10_share N)]
def sX10_product (N : Nat) : SP := RUN N pX10_product (kX10_product N) hd0 [] 3 (some .int) 0
theorem mX10_product {l : Launch} {N b : Nat} {D : va_G} {cA sa adV : Nat → Nat} (hl : l.stackTraces = false) : Cn l N b D cA sa adV yX10_product cX10_product 3 (some .int) 2 46 0 (sX10_product N) := by
  refine Cn_of (calls := kX10_product N) (by decide +kernel) oX10_product (hC_of (cidx := [(0, 250), (0, 155), (1, 109), (1, 221)]) (by decide +kernel) (fun p e s m args below meth c Q Y k kd x na mc tr h1 h2 => ?_)) (hT_no) (hL_of (by decide +kernel)) (fun _ _ => rfl) (fun _ _ _ _ h => h)
  match k, h1, h2 with
  | 0, h1, h2 => cases h1; cases h2; exact callV_of Y (mX10_isProduct hl) wl_RX10_250 wn_X10_isProduct ws_X10_isProduct wi_RX10 wc_X10_isProduct (T := TX10) (N1 := _) rfl (by decide +kernel) ⟨by decide, by decide⟩
  | 1, h1, h2 => cases h1; cases h2; exact callV_of Y (mX10_bad hl) wl_RX10_155 wn_X10_bad ws_X10_bad wi_RX10 wc_X10_bad (T := TX10) (N1 := _) rfl (by decide +kernel) ⟨by decide, by decide⟩
  | 2, h1, h2 => cases h1; cases h2; exact callS_of Y (mX10_in hl) wl_RX10_109 wt_X10_in wi_RX10 wc_X10_in (by decide +kernel) ⟨by decide, by decide⟩
  | 3, h1, h2 => cases h1; cases h2; exact callS_of Y (mX10_share hl) wl_RX10_221 wt_X10_share wi_RX10 wc_X10_share (by decide +kernel) ⟨by decide, by decide⟩
  | k + 4, h1, _ => simp at h1
def kX10_work (N : Nat) : List (Nat × Nat × SP) := [(2, 0, vsp N 10 (sX10_isDept N)), (4, 0, vsp N 10 (sX10_bad N)), (3, 0, sX10_in N), (2, 0, sX10_working N)]
def sX10_work (N : Nat) : SP := RUN N pX10_work (kX10_work N) hd0 [] 3 (some .long) 0
theorem mX10_work {l : Launch} {N b : Nat} {D : va_G} {cA sa adV : Nat → Nat} (hl : l.stackTraces = false) : Cn l N b D cA sa adV yX10_work cX10_work 3 (some .long) 2 46 0 (sX10_work N) := by
  refine Cn_of (calls := kX10_work N) (by decide +kernel) oX10_work (hC_of (cidx := [(0, 183), (0, 155), (1, 109), (1, 215)]) (by decide +kernel) (fun p e s m args below meth c Q Y k kd x na mc tr h1 h2 => ?_)) (hT_no) (hL_of (by decide +kernel)) (fun _ _ => rfl) (fun _ _ _ _ h => h)
  match k, h1, h2 with
  | 0, h1, h2 => cases h1; cases h2; exact callV_of Y (mX10_isDept hl) wl_RX10_183 wn_X10_isDept ws_X10_isDept wi_RX10 wc_X10_isDept (T := TX10) (N1 := _) rfl (by decide +kernel) ⟨by decide, by decide⟩
  | 1, h1, h2 => cases h1; cases h2; exact callV_of Y (mX10_bad hl) wl_RX10_155 wn_X10_bad ws_X10_bad wi_RX10 wc_X10_bad (T := TX10) (N1 := _) rfl (by decide +kernel) ⟨by decide, by decide⟩
  | 2, h1, h2 => cases h1; cases h2; exact callS_of Y (mX10_in hl) wl_RX10_109 wt_X10_in wi_RX10 wc_X10_in (by decide +kernel) ⟨by decide, by decide⟩
  | 3, h1, h2 => cases h1; cases h2; exact callS_of Y (mX10_working hl) wl_RX10_215 wt_X10_working wi_RX10 wc_X10_working (by decide +kernel) ⟨by decide, by decide⟩
  | k + 4, h1, _ => simp at h1
def kX10_units (N : Nat) : List (Nat × Nat × SP) := [(2, 0, vsp N 10 (sX10_isDept N)), (4, 0, vsp N 10 (sX10_bad N)), (3, 0, sX10_in N), (2, 0, sX10_latest N)]
def sX10_units (N : Nat) : SP := RUN N pX10_units (kX10_units N) hd0 [] 3 (some .int) 0
theorem mX10_units {l : Launch} {N b : Nat} {D : va_G} {cA sa adV : Nat → Nat} (hl : l.stackTraces = false) : Cn l N b D cA sa adV yX10_units cX10_units 3 (some .int) 2 46 0 (sX10_units N) := by
  refine Cn_of (calls := kX10_units N) (by decide +kernel) oX10_units (hC_of (cidx := [(0, 183), (0, 155), (1, 109), (1, 197)]) (by decide +kernel) (fun p e s m args below meth c Q Y k kd x na mc tr h1 h2 => ?_)) (hT_no) (hL_of (by decide +kernel)) (fun _ _ => rfl) (fun _ _ _ _ h => h)
  match k, h1, h2 with
  | 0, h1, h2 => cases h1; cases h2; exact callV_of Y (mX10_isDept hl) wl_RX10_183 wn_X10_isDept ws_X10_isDept wi_RX10 wc_X10_isDept (T := TX10) (N1 := _) rfl (by decide +kernel) ⟨by decide, by decide⟩
  | 1, h1, h2 => cases h1; cases h2; exact callV_of Y (mX10_bad hl) wl_RX10_155 wn_X10_bad ws_X10_bad wi_RX10 wc_X10_bad (T := TX10) (N1 := _) rfl (by decide +kernel) ⟨by decide, by decide⟩
  | 2, h1, h2 => cases h1; cases h2; exact callS_of Y (mX10_in hl) wl_RX10_109 wt_X10_in wi_RX10 wc_X10_in (by decide +kernel) ⟨by decide, by decide⟩
  | 3, h1, h2 => cases h1; cases h2; exact callS_of Y (mX10_latest hl) wl_RX10_197 wt_X10_latest wi_RX10 wc_X10_latest (by decide +kernel) ⟨by decide, by decide⟩
  | k + 4, h1, _ => simp at h1
def kX10_asDone (N : Nat) : List (Nat × Nat × SP) := [(2, 0, vsp N 10 (sX10_isDept N)), (4, 0, vsp N 10 (sX10_isKind N)), (4, 0, vsp N 10 (sX10_bad N)), (3, 0, sX10_in N), (2, 0, sX10_latest N)]
def sX10_asDone (N : Nat) : SP := RUN N pX10_asDone (kX10_asDone N) hd0 [] 4 (some .int) 0
theorem mX10_asDone {l : Launch} {N b : Nat} {D : va_G} {cA sa adV : Nat → Nat} (hl : l.stackTraces = false) : Cn l N b D cA sa adV yX10_asDone cX10_asDone 4 (some .int) 2 48 0 (sX10_asDone N) := by
  refine Cn_of (calls := kX10_asDone N) (by decide +kernel) oX10_asDone (hC_of (cidx := [(0, 183), (0, 186), (0, 155), (1, 109), (1, 197)]) (by decide +kernel) (fun p e s m args below meth c Q Y k kd x na mc tr h1 h2 => ?_)) (hT_no) (hL_of (by decide +kernel)) (fun _ _ => rfl) (fun _ _ _ _ h => h)
  match k, h1, h2 with
  | 0, h1, h2 => cases h1; cases h2; exact callV_of Y (mX10_isDept hl) wl_RX10_183 wn_X10_isDept ws_X10_isDept wi_RX10 wc_X10_isDept (T := TX10) (N1 := _) rfl (by decide +kernel) ⟨by decide, by decide⟩
  | 1, h1, h2 => cases h1; cases h2; exact callV_of Y (mX10_isKind hl) wl_RX10_186 wn_X10_isKind ws_X10_isKind wi_RX10 wc_X10_isKind (T := TX10) (N1 := _) rfl (by decide +kernel) ⟨by decide, by decide⟩
  | 2, h1, h2 => cases h1; cases h2; exact callV_of Y (mX10_bad hl) wl_RX10_155 wn_X10_bad ws_X10_bad wi_RX10 wc_X10_bad (T := TX10) (N1 := _) rfl (by decide +kernel) ⟨by decide, by decide⟩
  | 3, h1, h2 => cases h1; cases h2; exact callS_of Y (mX10_in hl) wl_RX10_109 wt_X10_in wi_RX10 wc_X10_in (by decide +kernel) ⟨by decide, by decide⟩
  | 4, h1, h2 => cases h1; cases h2; exact callS_of Y (mX10_latest hl) wl_RX10_197 wt_X10_latest wi_RX10 wc_X10_latest (by decide +kernel) ⟨by decide, by decide⟩
  | k + 5, h1, _ => simp at h1
def kX10_cents (N : Nat) : List (Nat × Nat × SP) := [(2, 0, vsp N 10 (sX10_isDept N)), (4, 0, vsp N 10 (sX10_isKind N)), (4, 0, vsp N 10 (sX10_bad N)), (3, 0, sX10_in N), (2, 0, sX10_latest N)]
def sX10_cents (N : Nat) : SP := RUN N pX10_cents (kX10_cents N) hd0 [] 4 (some .long) 0
theorem mX10_cents {l : Launch} {N b : Nat} {D : va_G} {cA sa adV : Nat → Nat} (hl : l.stackTraces = false) : Cn l N b D cA sa adV yX10_cents cX10_cents 4 (some .long) 2 48 0 (sX10_cents N) := by
  refine Cn_of (calls := kX10_cents N) (by decide +kernel) oX10_cents (hC_of (cidx := [(0, 183), (0, 186), (0, 155), (1, 109), (1, 197)]) (by decide +kernel) (fun p e s m args below meth c Q Y k kd x na mc tr h1 h2 => ?_)) (hT_no) (hL_of (by decide +kernel)) (fun _ _ => rfl) (fun _ _ _ _ h => h)
  match k, h1, h2 with
  | 0, h1, h2 => cases h1; cases h2; exact callV_of Y (mX10_isDept hl) wl_RX10_183 wn_X10_isDept ws_X10_isDept wi_RX10 wc_X10_isDept (T := TX10) (N1 := _) rfl (by decide +kernel) ⟨by decide, by decide⟩
  | 1, h1, h2 => cases h1; cases h2; exact callV_of Y (mX10_isKind hl) wl_RX10_186 wn_X10_isKind ws_X10_isKind wi_RX10 wc_X10_isKind (T := TX10) (N1 := _) rfl (by decide +kernel) ⟨by decide, by decide⟩
  | 2, h1, h2 => cases h1; cases h2; exact callV_of Y (mX10_bad hl) wl_RX10_155 wn_X10_bad ws_X10_bad wi_RX10 wc_X10_bad (T := TX10) (N1 := _) rfl (by decide +kernel) ⟨by decide, by decide⟩
  | 3, h1, h2 => cases h1; cases h2; exact callS_of Y (mX10_in hl) wl_RX10_109 wt_X10_in wi_RX10 wc_X10_in (by decide +kernel) ⟨by decide, by decide⟩
  | 4, h1, h2 => cases h1; cases h2; exact callS_of Y (mX10_latest hl) wl_RX10_197 wt_X10_latest wi_RX10 wc_X10_latest (by decide +kernel) ⟨by decide, by decide⟩
  | k + 5, h1, _ => simp at h1
def kX10_loss (N : Nat) : List (Nat × Nat × SP) := [(2, 0, vsp N 10 (sX10_isDept N)), (4, 0, vsp N 10 (sX10_bad N)), (3, 0, sX10_in N), (2, 0, sX10_latest N)]
def sX10_loss (N : Nat) : SP := RUN N pX10_loss (kX10_loss N) hd0 [] 3 (some .long) 0
theorem mX10_loss {l : Launch} {N b : Nat} {D : va_G} {cA sa adV : Nat → Nat} (hl : l.stackTraces = false) : Cn l N b D cA sa adV yX10_loss cX10_loss 3 (some .long) 2 46 0 (sX10_loss N) := by
  refine Cn_of (calls := kX10_loss N) (by decide +kernel) oX10_loss (hC_of (cidx := [(0, 183), (0, 155), (1, 109), (1, 197)]) (by decide +kernel) (fun p e s m args below meth c Q Y k kd x na mc tr h1 h2 => ?_)) (hT_no) (hL_of (by decide +kernel)) (fun _ _ => rfl) (fun _ _ _ _ h => h)
  match k, h1, h2 with
  | 0, h1, h2 => cases h1; cases h2; exact callV_of Y (mX10_isDept hl) wl_RX10_183 wn_X10_isDept ws_X10_isDept wi_RX10 wc_X10_isDept (T := TX10) (N1 := _) rfl (by decide +kernel) ⟨by decide, by decide⟩
  | 1, h1, h2 => cases h1; cases h2; exact callV_of Y (mX10_bad hl) wl_RX10_155 wn_X10_bad ws_X10_bad wi_RX10 wc_X10_bad (T := TX10) (N1 := _) rfl (by decide +kernel) ⟨by decide, by decide⟩
  | 2, h1, h2 => cases h1; cases h2; exact callS_of Y (mX10_in hl) wl_RX10_109 wt_X10_in wi_RX10 wc_X10_in (by decide +kernel) ⟨by decide, by decide⟩
  | 3, h1, h2 => cases h1; cases h2; exact callS_of Y (mX10_latest hl) wl_RX10_197 wt_X10_latest wi_RX10 wc_X10_latest (by decide +kernel) ⟨by decide, by decide⟩
  | k + 4, h1, _ => simp at h1
def kX10_other (N : Nat) : List (Nat × Nat × SP) := [(2, 0, vsp N 10 (sX10_isDept N)), (4, 0, vsp N 10 (sX10_bad N)), (2, 0, sX10_copies N), (3, 0, vsp N 10 (sX10_of N)), (3, 0, sX10_counts N), (2, 0, sX10_latest N)]
def sX10_other (N : Nat) : SP := RUN N pX10_other (kX10_other N) hd0 [] 2 (some .long) 0
theorem mX10_other {l : Launch} {N b : Nat} {D : va_G} {cA sa adV : Nat → Nat} (hl : l.stackTraces = false) : Cn l N b D cA sa adV yX10_other cX10_other 2 (some .long) 3 136 0 (sX10_other N) := by
  refine Cn_of (calls := kX10_other N) (by decide +kernel) oX10_other (hC_of (cidx := [(0, 183), (0, 155), (1, 168), (0, 177), (1, 235), (1, 197)]) (by decide +kernel) (fun p e s m args below meth c Q Y k kd x na mc tr h1 h2 => ?_)) (hT_no) (hL_of (by decide +kernel)) (fun _ _ => rfl) (fun _ _ _ _ h => h)
  match k, h1, h2 with
  | 0, h1, h2 => cases h1; cases h2; exact callV_of Y (mX10_isDept hl) wl_RX10_183 wn_X10_isDept ws_X10_isDept wi_RX10 wc_X10_isDept (T := TX10) (N1 := _) rfl (by decide +kernel) ⟨by decide, by decide⟩
  | 1, h1, h2 => cases h1; cases h2; exact callV_of Y (mX10_bad hl) wl_RX10_155 wn_X10_bad ws_X10_bad wi_RX10 wc_X10_bad (T := TX10) (N1 := _) rfl (by decide +kernel) ⟨by decide, by decide⟩
  | 2, h1, h2 => cases h1; cases h2; exact callS_of Y (mX10_copies hl) wl_RX10_168 wt_X10_copies wi_RX10 wc_X10_copies (by decide +kernel) ⟨by decide, by decide⟩
  | 3, h1, h2 => cases h1; cases h2; exact callV_of Y (mX10_of hl) wl_RX10_177 wn_X10_of ws_X10_of wi_RX10 wc_X10_of (T := TX10) (N1 := _) rfl (by decide +kernel) ⟨by decide, by decide⟩
  | 4, h1, h2 => cases h1; cases h2; exact callS_of Y (mX10_counts hl) wl_RX10_235 wt_X10_counts wi_RX10 wc_X10_counts (by decide +kernel) ⟨by decide, by decide⟩
  | 5, h1, h2 => cases h1; cases h2; exact callS_of Y (mX10_latest hl) wl_RX10_197 wt_X10_latest wi_RX10 wc_X10_latest (by decide +kernel) ⟨by decide, by decide⟩
  | k + 6, h1, _ => simp at h1
def kX10_parted (N : Nat) : List (Nat × Nat × SP) := [(2, 0, vsp N 10 (sX10_isProduct N)), (4, 0, vsp N 10 (sX10_bad N)), (3, 0, sX10_in N)]
def sX10_parted (N : Nat) : SP := RUN N pX10_parted (kX10_parted N) hd0 [] 3 (some .long) 0
theorem mX10_parted {l : Launch} {N b : Nat} {D : va_G} {cA sa adV : Nat → Nat} (hl : l.stackTraces = false) : Cn l N b D cA sa adV yX10_parted cX10_parted 3 (some .long) 2 46 0 (sX10_parted N) := by
  refine Cn_of (calls := kX10_parted N) (by decide +kernel) oX10_parted (hC_of (cidx := [(0, 250), (0, 155), (1, 109)]) (by decide +kernel) (fun p e s m args below meth c Q Y k kd x na mc tr h1 h2 => ?_)) (hT_no) (hL_of (by decide +kernel)) (fun _ _ => rfl) (fun _ _ _ _ h => h)
  match k, h1, h2 with
  | 0, h1, h2 => cases h1; cases h2; exact callV_of Y (mX10_isProduct hl) wl_RX10_250 wn_X10_isProduct ws_X10_isProduct wi_RX10 wc_X10_isProduct (T := TX10) (N1 := _) rfl (by decide +kernel) ⟨by decide, by decide⟩
  | 1, h1, h2 => cases h1; cases h2; exact callV_of Y (mX10_bad hl) wl_RX10_155 wn_X10_bad ws_X10_bad wi_RX10 wc_X10_bad (T := TX10) (N1 := _) rfl (by decide +kernel) ⟨by decide, by decide⟩
  | 2, h1, h2 => cases h1; cases h2; exact callS_of Y (mX10_in hl) wl_RX10_109 wt_X10_in wi_RX10 wc_X10_in (by decide +kernel) ⟨by decide, by decide⟩
  | k + 3, h1, _ => simp at h1
def kX10_store (N : Nat) : List (Nat × Nat × SP) := [(2, 0, vsp N 10 (sX10_isProduct N)), (4, 0, vsp N 10 (sX10_bad N)), (3, 0, sX10_in N), (1, 0, sX10_storeAt N), (3, 0, vsp N 10 (sX10_unitsIn N))]
def sX10_store (N : Nat) : SP := RUN N pX10_store (kX10_store N) hd0 [] 3 (some .long) 0
theorem mX10_store {l : Launch} {N b : Nat} {D : va_G} {cA sa adV : Nat → Nat} (hl : l.stackTraces = false) : Cn l N b D cA sa adV yX10_store cX10_store 3 (some .long) 3 67 0 (sX10_store N) := by
  refine Cn_of (calls := kX10_store N) (by decide +kernel) oX10_store (hC_of (cidx := [(0, 250), (0, 155), (1, 109), (1, 218), (0, 253)]) (by decide +kernel) (fun p e s m args below meth c Q Y k kd x na mc tr h1 h2 => ?_)) (hT_no) (hL_of (by decide +kernel)) (fun _ _ => rfl) (fun _ _ _ _ h => h)
  match k, h1, h2 with
  | 0, h1, h2 => cases h1; cases h2; exact callV_of Y (mX10_isProduct hl) wl_RX10_250 wn_X10_isProduct ws_X10_isProduct wi_RX10 wc_X10_isProduct (T := TX10) (N1 := _) rfl (by decide +kernel) ⟨by decide, by decide⟩
  | 1, h1, h2 => cases h1; cases h2; exact callV_of Y (mX10_bad hl) wl_RX10_155 wn_X10_bad ws_X10_bad wi_RX10 wc_X10_bad (T := TX10) (N1 := _) rfl (by decide +kernel) ⟨by decide, by decide⟩
  | 2, h1, h2 => cases h1; cases h2; exact callS_of Y (mX10_in hl) wl_RX10_109 wt_X10_in wi_RX10 wc_X10_in (by decide +kernel) ⟨by decide, by decide⟩
  | 3, h1, h2 => cases h1; cases h2; exact callS_of Y (mX10_storeAt hl) wl_RX10_218 wt_X10_storeAt wi_RX10 wc_X10_storeAt (by decide +kernel) ⟨by decide, by decide⟩
  | 4, h1, h2 => cases h1; cases h2; exact callV_of Y (mX10_unitsIn hl) wl_RX10_253 wn_X10_unitsIn ws_X10_unitsIn wi_RX10 wc_X10_unitsIn (T := TX10) (N1 := _) rfl (by decide +kernel) ⟨by decide, by decide⟩
  | k + 5, h1, _ => simp at h1
def kX10_layer (N : Nat) : List (Nat × Nat × SP) := [(2, 0, vsp N 10 (sX10_isProduct N)), (1, 0, sX10_storeAt N), (3, 0, sX10_in N), (4, 0, vsp N 10 (sX10_bad N)), (2, 0, sX10_layerAt N)]
def sX10_layer (N : Nat) : SP := RUN N pX10_layer (kX10_layer N) hd0 [] 4 (some .long) 0
theorem mX10_layer {l : Launch} {N b : Nat} {D : va_G} {cA sa adV : Nat → Nat} (hl : l.stackTraces = false) : Cn l N b D cA sa adV yX10_layer cX10_layer 4 (some .long) 2 46 0 (sX10_layer N) := by
  refine Cn_of (calls := kX10_layer N) (by decide +kernel) oX10_layer (hC_of (cidx := [(0, 250), (1, 218), (1, 109), (0, 155), (1, 227)]) (by decide +kernel) (fun p e s m args below meth c Q Y k kd x na mc tr h1 h2 => ?_)) (hT_no) (hL_of (by decide +kernel)) (fun _ _ => rfl) (fun _ _ _ _ h => h)
  match k, h1, h2 with
  | 0, h1, h2 => cases h1; cases h2; exact callV_of Y (mX10_isProduct hl) wl_RX10_250 wn_X10_isProduct ws_X10_isProduct wi_RX10 wc_X10_isProduct (T := TX10) (N1 := _) rfl (by decide +kernel) ⟨by decide, by decide⟩
  | 1, h1, h2 => cases h1; cases h2; exact callS_of Y (mX10_storeAt hl) wl_RX10_218 wt_X10_storeAt wi_RX10 wc_X10_storeAt (by decide +kernel) ⟨by decide, by decide⟩
  | 2, h1, h2 => cases h1; cases h2; exact callS_of Y (mX10_in hl) wl_RX10_109 wt_X10_in wi_RX10 wc_X10_in (by decide +kernel) ⟨by decide, by decide⟩
  | 3, h1, h2 => cases h1; cases h2; exact callV_of Y (mX10_bad hl) wl_RX10_155 wn_X10_bad ws_X10_bad wi_RX10 wc_X10_bad (T := TX10) (N1 := _) rfl (by decide +kernel) ⟨by decide, by decide⟩
  | 4, h1, h2 => cases h1; cases h2; exact callS_of Y (mX10_layerAt hl) wl_RX10_227 wt_X10_layerAt wi_RX10 wc_X10_layerAt (by decide +kernel) ⟨by decide, by decide⟩
  | k + 5, h1, _ => simp at h1
def kX10_account (N : Nat) : List (Nat × Nat × SP) := [(3, 0, sX10_in N), (4, 0, vsp N 10 (sX10_bad N)), (2, 0, sX10_working N), (3, 0, vsp N 10 (sX10_unitsIn N))]
def sX10_account (N : Nat) : SP := RUN N pX10_account (kX10_account N) hd0 [] 6 (some .long) 0
theorem mX10_account {l : Launch} {N b : Nat} {D : va_G} {cA sa adV : Nat → Nat} (hl : l.stackTraces = false) : Cn l N b D cA sa adV yX10_account cX10_account 6 (some .long) 3 67 0 (sX10_account N) := by
  refine Cn_of (calls := kX10_account N) (by decide +kernel) oX10_account (hC_of (cidx := [(1, 109), (0, 155), (1, 215), (0, 253)]) (by decide +kernel) (fun p e s m args below meth c Q Y k kd x na mc tr h1 h2 => ?_)) (hT_no) (hL_of (by decide +kernel)) (fun _ _ => rfl) (fun _ _ _ _ h => h)
  match k, h1, h2 with
  | 0, h1, h2 => cases h1; cases h2; exact callS_of Y (mX10_in hl) wl_RX10_109 wt_X10_in wi_RX10 wc_X10_in (by decide +kernel) ⟨by decide, by decide⟩
  | 1, h1, h2 => cases h1; cases h2; exact callV_of Y (mX10_bad hl) wl_RX10_155 wn_X10_bad ws_X10_bad wi_RX10 wc_X10_bad (T := TX10) (N1 := _) rfl (by decide +kernel) ⟨by decide, by decide⟩
  | 2, h1, h2 => cases h1; cases h2; exact callS_of Y (mX10_working hl) wl_RX10_215 wt_X10_working wi_RX10 wc_X10_working (by decide +kernel) ⟨by decide, by decide⟩
  | 3, h1, h2 => cases h1; cases h2; exact callV_of Y (mX10_unitsIn hl) wl_RX10_253 wn_X10_unitsIn ws_X10_unitsIn wi_RX10 wc_X10_unitsIn (T := TX10) (N1 := _) rfl (by decide +kernel) ⟨by decide, by decide⟩
  | k + 4, h1, _ => simp at h1
def kX10_lostOf (N : Nat) : List (Nat × Nat × SP) := [(3, 0, vsp N 10 (sX10_of N))]
def sX10_lostOf (N : Nat) : SP := RUN N pX10_lostOf (kX10_lostOf N) hd0 [] 2 (some .long) 0
theorem mX10_lostOf {l : Launch} {N b : Nat} {D : va_G} {cA sa adV : Nat → Nat} (hl : l.stackTraces = false) : Cn l N b D cA sa adV yX10_lostOf cX10_lostOf 2 (some .long) 1 22 0 (sX10_lostOf N) := by
  refine Cn_of (calls := kX10_lostOf N) (by decide +kernel) oX10_lostOf (hC_of (cidx := [(0, 177)]) (by decide +kernel) (fun p e s m args below meth c Q Y k kd x na mc tr h1 h2 => ?_)) (hT_no) (hL_of (by decide +kernel)) (fun _ _ => rfl) (fun _ _ _ _ h => h)
  match k, h1, h2 with
  | 0, h1, h2 => cases h1; cases h2; exact callV_of Y (mX10_of hl) wl_RX10_177 wn_X10_of ws_X10_of wi_RX10 wc_X10_of (T := TX10) (N1 := _) rfl (by decide +kernel) ⟨by decide, by decide⟩
  | k + 1, h1, _ => simp at h1
def kX10_passes (N : Nat) : List (Nat × Nat × SP) := [(2, 0, vsp N 10 (sX10_lostOf N))]
def sX10_passes (N : Nat) : SP := RUN N pX10_passes (kX10_passes N) hd0 [] 2 (some .long) 0
theorem mX10_passes {l : Launch} {N b : Nat} {D : va_G} {cA sa adV : Nat → Nat} (hl : l.stackTraces = false) : Cn l N b D cA sa adV yX10_passes cX10_passes 2 (some .long) 2 43 0 (sX10_passes N) := by
  refine Cn_of (calls := kX10_passes N) (by decide +kernel) oX10_passes (hC_of (cidx := [(0, 264)]) (by decide +kernel) (fun p e s m args below meth c Q Y k kd x na mc tr h1 h2 => ?_)) (hT_no) (hL_of (by decide +kernel)) (fun _ _ => rfl) (fun _ _ _ _ h => h)
  match k, h1, h2 with
  | 0, h1, h2 => cases h1; cases h2; exact callV_of Y (mX10_lostOf hl) wl_RX10_264 wn_X10_lostOf ws_X10_lostOf wi_RX10 wc_X10_lostOf (T := TX10) (N1 := _) rfl (by decide +kernel) ⟨by decide, by decide⟩
  | k + 1, h1, _ => simp at h1
def kX10_goesRound (N : Nat) : List (Nat × Nat × SP) := [(2, 0, vsp N 10 (sX10_passes N)), (3, 0, vsp N 10 (sX10_of N)), (2, 0, vsp N 10 (sX10_lostOf N))]
def sX10_goesRound (N : Nat) : SP := RUN N pX10_goesRound (kX10_goesRound N) hd0 [] 5 (some .boolean) 0
theorem mX10_goesRound {l : Launch} {N b : Nat} {D : va_G} {cA sa adV : Nat → Nat} (hl : l.stackTraces = false) : Cn l N b D cA sa adV yX10_goesRound cX10_goesRound 5 (some .boolean) 3 64 0 (sX10_goesRound N) := by
  refine Cn_of (calls := kX10_goesRound N) (by decide +kernel) oX10_goesRound (hC_of (cidx := [(0, 270), (0, 177), (0, 264)]) (by decide +kernel) (fun p e s m args below meth c Q Y k kd x na mc tr h1 h2 => ?_)) (hT_no) (hL_of (by decide +kernel)) (fun _ _ => rfl) (fun _ _ _ _ h => h)
  match k, h1, h2 with
  | 0, h1, h2 => cases h1; cases h2; exact callV_of Y (mX10_passes hl) wl_RX10_270 wn_X10_passes ws_X10_passes wi_RX10 wc_X10_passes (T := TX10) (N1 := _) rfl (by decide +kernel) ⟨by decide, by decide⟩
  | 1, h1, h2 => cases h1; cases h2; exact callV_of Y (mX10_of hl) wl_RX10_177 wn_X10_of ws_X10_of wi_RX10 wc_X10_of (T := TX10) (N1 := _) rfl (by decide +kernel) ⟨by decide, by decide⟩
  | 2, h1, h2 => cases h1; cases h2; exact callV_of Y (mX10_lostOf hl) wl_RX10_264 wn_X10_lostOf ws_X10_lostOf wi_RX10 wc_X10_lostOf (T := TX10) (N1 := _) rfl (by decide +kernel) ⟨by decide, by decide⟩
  | k + 3, h1, _ => simp at h1
def kX10_plan (N : Nat) : List (Nat × Nat × SP) := [(3, 0, sX10_in N), (4, 0, vsp N 10 (sX10_bad N)), (2, 0, vsp N 10 (sX10_goesRound N)), (2, 0, vsp N 10 (sX10_passes N))]
def sX10_plan (N : Nat) : SP := RUN N pX10_plan (kX10_plan N) hd0 [] 4 (some .long) 0
theorem mX10_plan {l : Launch} {N b : Nat} {D : va_G} {cA sa adV : Nat → Nat} (hl : l.stackTraces = false) : Cn l N b D cA sa adV yX10_plan cX10_plan 4 (some .long) 4 88 0 (sX10_plan N) := by
  refine Cn_of (calls := kX10_plan N) (by decide +kernel) oX10_plan (hC_of (cidx := [(1, 109), (0, 155), (0, 273), (0, 270)]) (by decide +kernel) (fun p e s m args below meth c Q Y k kd x na mc tr h1 h2 => ?_)) (hT_no) (hL_of (by decide +kernel)) (fun _ _ => rfl) (fun _ _ _ _ h => h)
  match k, h1, h2 with
  | 0, h1, h2 => cases h1; cases h2; exact callS_of Y (mX10_in hl) wl_RX10_109 wt_X10_in wi_RX10 wc_X10_in (by decide +kernel) ⟨by decide, by decide⟩
  | 1, h1, h2 => cases h1; cases h2; exact callV_of Y (mX10_bad hl) wl_RX10_155 wn_X10_bad ws_X10_bad wi_RX10 wc_X10_bad (T := TX10) (N1 := _) rfl (by decide +kernel) ⟨by decide, by decide⟩
  | 2, h1, h2 => cases h1; cases h2; exact callV_of Y (mX10_goesRound hl) wl_RX10_273 wn_X10_goesRound ws_X10_goesRound wi_RX10 wc_X10_goesRound (T := TX10) (N1 := _) rfl (by decide +kernel) ⟨by decide, by decide⟩
  | 3, h1, h2 => cases h1; cases h2; exact callV_of Y (mX10_passes hl) wl_RX10_270 wn_X10_passes ws_X10_passes wi_RX10 wc_X10_passes (T := TX10) (N1 := _) rfl (by decide +kernel) ⟨by decide, by decide⟩
  | k + 4, h1, _ => simp at h1
def kX10_print (N : Nat) : List (Nat × Nat × SP) := [(2, 0, sX10_working N), (3, 0, vsp N 10 (sX10_unitsIn N))]
def sX10_print (N : Nat) : SP := RUN N pX10_print (kX10_print N) hd0 [] 7 (some .long) 0
theorem mX10_print {l : Launch} {N b : Nat} {D : va_G} {cA sa adV : Nat → Nat} (hl : l.stackTraces = false) : Cn l N b D cA sa adV yX10_print cX10_print 7 (some .long) 3 67 0 (sX10_print N) := by
  refine Cn_of (calls := kX10_print N) (by decide +kernel) oX10_print (hC_of (cidx := [(1, 215), (0, 253)]) (by decide +kernel) (fun p e s m args below meth c Q Y k kd x na mc tr h1 h2 => ?_)) (hT_no) (hL_of (by decide +kernel)) (fun _ _ => rfl) (fun _ _ _ _ h => h)
  match k, h1, h2 with
  | 0, h1, h2 => cases h1; cases h2; exact callS_of Y (mX10_working hl) wl_RX10_215 wt_X10_working wi_RX10 wc_X10_working (by decide +kernel) ⟨by decide, by decide⟩
  | 1, h1, h2 => cases h1; cases h2; exact callV_of Y (mX10_unitsIn hl) wl_RX10_253 wn_X10_unitsIn ws_X10_unitsIn wi_RX10 wc_X10_unitsIn (T := TX10) (N1 := _) rfl (by decide +kernel) ⟨by decide, by decide⟩
  | k + 2, h1, _ => simp at h1
def kX10_status (N : Nat) : List (Nat × Nat × SP) := [(3, 0, sX10_in N)]
def sX10_status (N : Nat) : SP := RUN N pX10_status (kX10_status N) hd0 [] 2 (some .int) 0
theorem mX10_status {l : Launch} {N b : Nat} {D : va_G} {cA sa adV : Nat → Nat} (hl : l.stackTraces = false) : Cn l N b D cA sa adV yX10_status cX10_status 2 (some .int) 1 25 0 (sX10_status N) := by
  refine Cn_of (calls := kX10_status N) (by decide +kernel) oX10_status (hC_of (cidx := [(1, 109)]) (by decide +kernel) (fun p e s m args below meth c Q Y k kd x na mc tr h1 h2 => ?_)) (hT_no) (hL_of (by decide +kernel)) (fun _ _ => rfl) (fun _ _ _ _ h => h)
  match k, h1, h2 with
  | 0, h1, h2 => cases h1; cases h2; exact callS_of Y (mX10_in hl) wl_RX10_109 wt_X10_in wi_RX10 wc_X10_in (by decide +kernel) ⟨by decide, by decide⟩
  | k + 1, h1, _ => simp at h1
