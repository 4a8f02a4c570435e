def kX10_feed : List (Nat × Nat × SP) := []
def sX10_feed : SP := RUN pX10_feed kX10_feed hd0 [] 8 (some .int) 0
theorem mX10_feed {l : Launch} {b : Nat} {D : va_G} {cA sa adV : Nat → Nat} (hl : l.stackTraces = false) : Cn l b D cA sa adV yX10_feed cX10_feed 8 (some .int) 0 0 0 sX10_feed := by
  refine Cn_of (calls := kX10_feed) (by decide +kernel) oX10_feed (hC_of (cidx := []) (by decide +kernel) (fun p e s m args below meth c Q Y k kd x na mc tr h1 h2 => ?_)) (hT_no) (hL_of (by decide +kernel)) (fun _ _ => rfl) (fun _ _ _ _ h => h)
  match k, h1, h2 with
  | k, h1, _ => simp at h1
def kX10_copies : List (Nat × Nat × SP) := []
def sX10_copies : SP := RUN pX10_copies kX10_copies hd0 [] 3 none 0
theorem mX10_copies {l : Launch} {b : Nat} {D : va_G} {cA sa adV : Nat → Nat} (hl : l.stackTraces = false) : Cn l b D cA sa adV yX10_copies cX10_copies 3 none 0 0 0 sX10_copies := by
  refine Cn_of (calls := kX10_copies) (by decide +kernel) oX10_copies (hC_of (cidx := []) (by decide +kernel) (fun p e s m args below meth c Q Y k kd x na mc tr h1 h2 => ?_)) (hT_no) (hL_of (by decide +kernel)) (fun _ _ => rfl) (fun _ _ _ _ h => h)
  match k, h1, h2 with
  | k, h1, _ => simp at h1
def kX10_of : List (Nat × Nat × SP) := []
def sX10_of : SP := RUN pX10_of kX10_of hd0 [] 3 (some .long) 0
theorem mX10_of {l : Launch} {b : Nat} {D : va_G} {cA sa adV : Nat → Nat} (hl : l.stackTraces = false) : Cn l b D cA sa adV yX10_of cX10_of 3 (some .long) 0 0 0 sX10_of := by
  refine Cn_of (calls := kX10_of) (by decide +kernel) oX10_of (hC_of (cidx := []) (by decide +kernel) (fun p e s m args below meth c Q Y k kd x na mc tr h1 h2 => ?_)) (hT_no) (hL_of (by decide +kernel)) (fun _ _ => rfl) (fun _ _ _ _ h => h)
  match k, h1, h2 with
  | k, h1, _ => simp at h1
def kX10_byteAt : List (Nat × Nat × SP) := []
def sX10_byteAt : SP := RUN pX10_byteAt kX10_byteAt hd0 [] 2 (some .int) 0
theorem mX10_byteAt {l : Launch} {b : Nat} {D : va_G} {cA sa adV : Nat → Nat} (hl : l.stackTraces = false) : Cn l b D cA sa adV yX10_byteAt cX10_byteAt 2 (some .int) 0 0 0 sX10_byteAt := by
  refine Cn_of (calls := kX10_byteAt) (by decide +kernel) oX10_byteAt (hC_of (cidx := []) (by decide +kernel) (fun p e s m args below meth c Q Y k kd x na mc tr h1 h2 => ?_)) (hT_no) (hL_of (by decide +kernel)) (fun _ _ => rfl) (fun _ _ _ _ h => h)
  match k, h1, h2 with
  | k, h1, _ => simp at h1
def kX10_here : List (Nat × Nat × SP) := [(2, 0, vsp 10 sX10_byteAt)]
def sX10_here : SP := RUN pX10_here kX10_here hd0 [] 1 (some .int) 0
theorem mX10_here {l : Launch} {b : Nat} {D : va_G} {cA sa adV : Nat → Nat} (hl : l.stackTraces = false) : Cn l b D cA sa adV yX10_here cX10_here 1 (some .int) 1 21 0 sX10_here := by
  refine Cn_of (calls := kX10_here) (by decide +kernel) oX10_here (hC_of (cidx := [(0, 65)]) (by decide +kernel) (fun p e s m args below meth c Q Y k kd x na mc tr h1 h2 => ?_)) (hT_no) (hL_of (by decide +kernel)) (fun _ _ => rfl) (fun _ _ _ _ h => h)
  match k, h1, h2 with
  | 0, h1, h2 => cases h1; cases h2; exact callV_of Y (mX10_byteAt hl) wl_RX10_65 wn_X10_byteAt ws_X10_byteAt wi_RX10 wc_X10_byteAt (T := TX10) (N := _) rfl (by decide +kernel) ⟨by decide, by decide⟩
  | k + 1, h1, _ => simp at h1
def kX10_fine : List (Nat × Nat × SP) := []
def sX10_fine : SP := RUN pX10_fine kX10_fine hd0 [] 1 (some .boolean) 0
theorem mX10_fine {l : Launch} {b : Nat} {D : va_G} {cA sa adV : Nat → Nat} (hl : l.stackTraces = false) : Cn l b D cA sa adV yX10_fine cX10_fine 1 (some .boolean) 0 0 0 sX10_fine := by
  refine Cn_of (calls := kX10_fine) (by decide +kernel) oX10_fine (hC_of (cidx := []) (by decide +kernel) (fun p e s m args below meth c Q Y k kd x na mc tr h1 h2 => ?_)) (hT_no) (hL_of (by decide +kernel)) (fun _ _ => rfl) (fun _ _ _ _ h => h)
  match k, h1, h2 with
  | k, h1, _ => simp at h1
def kX10_wrong : List (Nat × Nat × SP) := []
def sX10_wrong : SP := RUN pX10_wrong kX10_wrong hd0 [] 3 none 0
theorem mX10_wrong {l : Launch} {b : Nat} {D : va_G} {cA sa adV : Nat → Nat} (hl : l.stackTraces = false) : Cn l b D cA sa adV yX10_wrong cX10_wrong 3 none 0 0 0 sX10_wrong := by
  refine Cn_of (calls := kX10_wrong) (by decide +kernel) oX10_wrong (hC_of (cidx := []) (by decide +kernel) (fun p e s m args below meth c Q Y k kd x na mc tr h1 h2 => ?_)) (hT_no) (hL_of (by decide +kernel)) (fun _ _ => rfl) (fun _ _ _ _ h => h)
  match k, h1, h2 with
  | k, h1, _ => simp at h1
def kX10_isSmall : List (Nat × Nat × SP) := []
def sX10_isSmall : SP := RUN pX10_isSmall kX10_isSmall hd0 [] 1 (some .boolean) 0
theorem mX10_isSmall {l : Launch} {b : Nat} {D : va_G} {cA sa adV : Nat → Nat} (hl : l.stackTraces = false) : Cn l b D cA sa adV yX10_isSmall cX10_isSmall 1 (some .boolean) 0 0 0 sX10_isSmall := by
  refine Cn_of (calls := kX10_isSmall) (by decide +kernel) oX10_isSmall (hC_of (cidx := []) (by decide +kernel) (fun p e s m args below meth c Q Y k kd x na mc tr h1 h2 => ?_)) (hT_no) (hL_of (by decide +kernel)) (fun _ _ => rfl) (fun _ _ _ _ h => h)
  match k, h1, h2 with
  | k, h1, _ => simp at h1
def kX10_isDigit : List (Nat × Nat × SP) := []
def sX10_isDigit : SP := RUN pX10_isDigit kX10_isDigit hd0 [] 1 (some .boolean) 0
theorem mX10_isDigit {l : Launch} {b : Nat} {D : va_G} {cA sa adV : Nat → Nat} (hl : l.stackTraces = false) : Cn l b D cA sa adV yX10_isDigit cX10_isDigit 1 (some .boolean) 0 0 0 sX10_isDigit := by
  refine Cn_of (calls := kX10_isDigit) (by decide +kernel) oX10_isDigit (hC_of (cidx := []) (by decide +kernel) (fun p e s m args below meth c Q Y k kd x na mc tr h1 h2 => ?_)) (hT_no) (hL_of (by decide +kernel)) (fun _ _ => rfl) (fun _ _ _ _ h => h)
  match k, h1, h2 with
  | k, h1, _ => simp at h1
def kX10_takesWord : List (Nat × Nat × SP) := [(1, 0, vsp 10 sX10_fine), (1, 0, vsp 10 sX10_here), (1, 0, spLen), (2, 0, vsp 10 sX10_byteAt), (2, 0, spChar), (1, 0, sX10_isSmall)]
def sX10_takesWord : SP := RUN pX10_takesWord kX10_takesWord hd0 [] 3 (some .boolean) 0
theorem mX10_takesWord {l : Launch} {b : Nat} {D : va_G} {cA sa adV : Nat → Nat} (hl : l.stackTraces = false) : Cn l b D cA sa adV yX10_takesWord cX10_takesWord 3 (some .boolean) 4 141 0 sX10_takesWord := by
  refine Cn_of (calls := kX10_takesWord) (by decide +kernel) oX10_takesWord (hC_of (cidx := [(0, 75), (0, 79), (0, 83), (0, 65), (0, 88), (1, 92)]) (by decide +kernel) (fun p e s m args below meth c Q Y k kd x na mc tr h1 h2 => ?_)) (hT_no) (hL_of (by decide +kernel)) (fun _ _ => rfl) (fun _ _ _ _ h => h)
  match k, h1, h2 with
  | 0, h1, h2 => cases h1; cases h2; exact callV_of Y (mX10_fine hl) wl_RX10_75 wn_X10_fine ws_X10_fine wi_RX10 wc_X10_fine (T := TX10) (N := _) rfl (by decide +kernel) ⟨by decide, by decide⟩
  | 1, h1, h2 => cases h1; cases h2; exact callV_of Y (mX10_here hl) wl_RX10_79 wn_X10_here ws_X10_here wi_RX10 wc_X10_here (T := TX10) (N := _) rfl (by decide +kernel) ⟨by decide, by decide⟩
  | 2, h1, h2 => cases h1; cases h2; exact callLen_of Y (wG_at 1344 (by decide +kernel) rfl) ⟨by decide, by decide⟩
  | 3, h1, h2 => cases h1; cases h2; exact callV_of Y (mX10_byteAt hl) wl_RX10_65 wn_X10_byteAt ws_X10_byteAt wi_RX10 wc_X10_byteAt (T := TX10) (N := _) rfl (by decide +kernel) ⟨by decide, by decide⟩
  | 4, h1, h2 => cases h1; cases h2; exact callChar_of Y (wG_at 1345 (by decide +kernel) rfl) ⟨by decide, by decide⟩
  | 5, h1, h2 => cases h1; cases h2; exact callS_of Y (mX10_isSmall hl) wl_RX10_92 wt_X10_isSmall wi_RX10 wc_X10_isSmall (by decide +kernel) ⟨by decide, by decide⟩
  | k + 6, h1, _ => simp at h1
def kX10_number : List (Nat × Nat × SP) := [(1, 0, vsp 10 sX10_fine), (1, 0, vsp 10 sX10_here), (1, 0, sX10_isDigit), (3, 0, vsp 10 sX10_wrong), (2, 0, vsp 10 sX10_byteAt), (2, 0, sX10_less), (3, 0, sX10_in)]
def sX10_number : SP := RUN pX10_number kX10_number hd0 [] 5 (some .int) 0
theorem mX10_number {l : Launch} {b : Nat} {D : va_G} {cA sa adV : Nat → Nat} (hl : l.stackTraces = false) : Cn l b D cA sa adV yX10_number cX10_number 5 (some .int) 2 41 0 sX10_number := by
  refine Cn_of (calls := kX10_number) (by decide +kernel) oX10_number (hC_of (cidx := [(0, 75), (0, 79), (1, 96), (0, 99), (0, 65), (1, 105), (1, 109)]) (by decide +kernel) (fun p e s m args below meth c Q Y k kd x na mc tr h1 h2 => ?_)) (hT_no) (hL_of (by decide +kernel)) (fun _ _ => rfl) (fun _ _ _ _ h => h)
  match k, h1, h2 with
  | 0, h1, h2 => cases h1; cases h2; exact callV_of Y (mX10_fine hl) wl_RX10_75 wn_X10_fine ws_X10_fine wi_RX10 wc_X10_fine (T := TX10) (N := _) rfl (by decide +kernel) ⟨by decide, by decide⟩
  | 1, h1, h2 => cases h1; cases h2; exact callV_of Y (mX10_here hl) wl_RX10_79 wn_X10_here ws_X10_here wi_RX10 wc_X10_here (T := TX10) (N := _) rfl (by decide +kernel) ⟨by decide, by decide⟩
  | 2, h1, h2 => cases h1; cases h2; exact callS_of Y (mX10_isDigit hl) wl_RX10_96 wt_X10_isDigit wi_RX10 wc_X10_isDigit (by decide +kernel) ⟨by decide, by decide⟩
  | 3, h1, h2 => cases h1; cases h2; exact callV_of Y (mX10_wrong hl) wl_RX10_99 wn_X10_wrong ws_X10_wrong wi_RX10 wc_X10_wrong (T := TX10) (N := _) rfl (by decide +kernel) ⟨by decide, by decide⟩
  | 4, h1, h2 => cases h1; cases h2; exact callV_of Y (mX10_byteAt hl) wl_RX10_65 wn_X10_byteAt ws_X10_byteAt wi_RX10 wc_X10_byteAt (T := TX10) (N := _) rfl (by decide +kernel) ⟨by decide, by decide⟩
  | 5, h1, h2 => cases h1; cases h2; exact callS_of Y (mX10_less hl) wl_RX10_105 wt_X10_less wi_RX10 wc_X10_less (by decide +kernel) ⟨by decide, by decide⟩
  | 6, h1, h2 => cases h1; cases h2; exact callS_of Y (mX10_in hl) wl_RX10_109 wt_X10_in wi_RX10 wc_X10_in (by decide +kernel) ⟨by decide, by decide⟩
  | k + 7, h1, _ => simp at h1
def kX10_way : List (Nat × Nat × SP) := [(2, 0, vsp 10 sX10_takesWord), (1, 0, vsp 10 sX10_fine), (3, 0, vsp 10 sX10_wrong)]
def sX10_way : SP := RUN pX10_way kX10_way hd0 [] 1 (some .int) 0
theorem mX10_way {l : Launch} {b : Nat} {D : va_G} {cA sa adV : Nat → Nat} (hl : l.stackTraces = false) : Cn l b D cA sa adV yX10_way cX10_way 1 (some .int) 5 163 0 sX10_way := by
  refine Cn_of (calls := kX10_way) (by decide +kernel) oX10_way (hC_of (cidx := [(0, 115), (0, 75), (0, 99)]) (by decide +kernel) (fun p e s m args below meth c Q Y k kd x na mc tr h1 h2 => ?_)) (hT_no) (hL_of (by decide +kernel)) (fun _ _ => rfl) (fun _ _ _ _ h => h)
  match k, h1, h2 with
  | 0, h1, h2 => cases h1; cases h2; exact callV_of Y (mX10_takesWord hl) wl_RX10_115 wn_X10_takesWord ws_X10_takesWord wi_RX10 wc_X10_takesWord (T := TX10) (N := _) rfl (by decide +kernel) ⟨by decide, by decide⟩
  | 1, h1, h2 => cases h1; cases h2; exact callV_of Y (mX10_fine hl) wl_RX10_75 wn_X10_fine ws_X10_fine wi_RX10 wc_X10_fine (T := TX10) (N := _) rfl (by decide +kernel) ⟨by decide, by decide⟩
  | 2, h1, h2 => cases h1; cases h2; exact callV_of Y (mX10_wrong hl) wl_RX10_99 wn_X10_wrong ws_X10_wrong wi_RX10 wc_X10_wrong (T := TX10) (N := _) rfl (by decide +kernel) ⟨by decide, by decide⟩
  | k + 3, h1, _ => simp at h1
def kX10_readsDept : List (Nat × Nat × SP) := [(3, 0, vsp 10 sX10_wrong), (1, 0, vsp 10 sX10_way), (3, 0, vsp 10 sX10_number), (6, 0, sX10_dept), (2, 0, vsp 10 sX10_takesWord)]
def sX10_readsDept : SP := RUN pX10_readsDept kX10_readsDept hd0 [] 7 none 0
theorem mX10_readsDept {l : Launch} {b : Nat} {D : va_G} {cA sa adV : Nat → Nat} (hl : l.stackTraces = false) : Cn l b D cA sa adV yX10_readsDept cX10_readsDept 7 none 6 183 0 sX10_readsDept := by
  refine Cn_of (calls := kX10_readsDept) (by decide +kernel) oX10_readsDept (hC_of (cidx := [(0, 99), (0, 121), (0, 124), (1, 45), (0, 115)]) (by decide +kernel) (fun p e s m args below meth c Q Y k kd x na mc tr h1 h2 => ?_)) (hT_no) (hL_of (by decide +kernel)) (fun _ _ => rfl) (fun _ _ _ _ h => h)
  match k, h1, h2 with
  | 0, h1, h2 => cases h1; cases h2; exact callV_of Y (mX10_wrong hl) wl_RX10_99 wn_X10_wrong ws_X10_wrong wi_RX10 wc_X10_wrong (T := TX10) (N := _) rfl (by decide +kernel) ⟨by decide, by decide⟩
  | 1, h1, h2 => cases h1; cases h2; exact callV_of Y (mX10_way hl) wl_RX10_121 wn_X10_way ws_X10_way wi_RX10 wc_X10_way (T := TX10) (N := _) rfl (by decide +kernel) ⟨by decide, by decide⟩
  | 2, h1, h2 => cases h1; cases h2; exact callV_of Y (mX10_number hl) wl_RX10_124 wn_X10_number ws_X10_number wi_RX10 wc_X10_number (T := TX10) (N := _) rfl (by decide +kernel) ⟨by decide, by decide⟩
  | 3, h1, h2 => cases h1; cases h2; exact callS_of Y (mX10_dept hl) wl_RX10_45 wt_X10_dept wi_RX10 wc_X10_dept (by decide +kernel) ⟨by decide, by decide⟩
  | 4, h1, h2 => cases h1; cases h2; exact callV_of Y (mX10_takesWord hl) wl_RX10_115 wn_X10_takesWord ws_X10_takesWord wi_RX10 wc_X10_takesWord (T := TX10) (N := _) rfl (by decide +kernel) ⟨by decide, by decide⟩
  | k + 5, h1, _ => simp at h1
def kX10_readsMat : List (Nat × Nat × SP) := [(3, 0, vsp 10 sX10_number), (1, 0, vsp 10 sX10_fine), (3, 0, vsp 10 sX10_wrong)]
def sX10_readsMat : SP := RUN pX10_readsMat kX10_readsMat hd0 [] 5 none 0
theorem mX10_readsMat {l : Launch} {b : Nat} {D : va_G} {cA sa adV : Nat → Nat} (hl : l.stackTraces = false) : Cn l b D cA sa adV yX10_readsMat cX10_readsMat 5 none 3 65 0 sX10_readsMat := by
  refine Cn_of (calls := kX10_readsMat) (by decide +kernel) oX10_readsMat (hC_of (cidx := [(0, 124), (0, 75), (0, 99)]) (by decide +kernel) (fun p e s m args below meth c Q Y k kd x na mc tr h1 h2 => ?_)) (hT_no) (hL_of (by decide +kernel)) (fun _ _ => rfl) (fun _ _ _ _ h => h)
  match k, h1, h2 with
  | 0, h1, h2 => cases h1; cases h2; exact callV_of Y (mX10_number hl) wl_RX10_124 wn_X10_number ws_X10_number wi_RX10 wc_X10_number (T := TX10) (N := _) rfl (by decide +kernel) ⟨by decide, by decide⟩
  | 1, h1, h2 => cases h1; cases h2; exact callV_of Y (mX10_fine hl) wl_RX10_75 wn_X10_fine ws_X10_fine wi_RX10 wc_X10_fine (T := TX10) (N := _) rfl (by decide +kernel) ⟨by decide, by decide⟩
  | 2, h1, h2 => cases h1; cases h2; exact callV_of Y (mX10_wrong hl) wl_RX10_99 wn_X10_wrong ws_X10_wrong wi_RX10 wc_X10_wrong (T := TX10) (N := _) rfl (by decide +kernel) ⟨by decide, by decide⟩
  | k + 3, h1, _ => simp at h1
def kX10_readsProduct : List (Nat × Nat × SP) := [(3, 0, vsp 10 sX10_wrong), (3, 0, vsp 10 sX10_number), (2, 0, vsp 10 sX10_takesWord)]
def sX10_readsProduct : SP := RUN pX10_readsProduct kX10_readsProduct hd0 [] 4 none 0
theorem mX10_readsProduct {l : Launch} {b : Nat} {D : va_G} {cA sa adV : Nat → Nat} (hl : l.stackTraces = false) : Cn l b D cA sa adV yX10_readsProduct cX10_readsProduct 4 none 5 163 0 sX10_readsProduct := by
  refine Cn_of (calls := kX10_readsProduct) (by decide +kernel) oX10_readsProduct (hC_of (cidx := [(0, 99), (0, 124), (0, 115)]) (by decide +kernel) (fun p e s m args below meth c Q Y k kd x na mc tr h1 h2 => ?_)) (hT_no) (hL_of (by decide +kernel)) (fun _ _ => rfl) (fun _ _ _ _ h => h)
  match k, h1, h2 with
  | 0, h1, h2 => cases h1; cases h2; exact callV_of Y (mX10_wrong hl) wl_RX10_99 wn_X10_wrong ws_X10_wrong wi_RX10 wc_X10_wrong (T := TX10) (N := _) rfl (by decide +kernel) ⟨by decide, by decide⟩
  | 1, h1, h2 => cases h1; cases h2; exact callV_of Y (mX10_number hl) wl_RX10_124 wn_X10_number ws_X10_number wi_RX10 wc_X10_number (T := TX10) (N := _) rfl (by decide +kernel) ⟨by decide, by decide⟩
  | 2, h1, h2 => cases h1; cases h2; exact callV_of Y (mX10_takesWord hl) wl_RX10_115 wn_X10_takesWord ws_X10_takesWord wi_RX10 wc_X10_takesWord (T := TX10) (N := _) rfl (by decide +kernel) ⟨by decide, by decide⟩
  | k + 3, h1, _ => simp at h1
def kX10_line : List (Nat × Nat × SP) := [(1, 0, vsp 10 sX10_here), (2, 0, vsp 10 sX10_takesWord), (2, 0, vsp 10 sX10_readsDept), (2, 0, vsp 10 sX10_readsMat), (2, 0, vsp 10 sX10_readsProduct), (1, 0, vsp 10 sX10_way), (3, 0, vsp 10 sX10_wrong), (1, 0, vsp 10 sX10_fine)]
def sX10_line : SP := RUN pX10_line kX10_line hd0 [] 2 none 0
theorem mX10_line {l : Launch} {b : Nat} {D : va_G} {cA sa adV : Nat → Nat} (hl : l.stackTraces = false) : Cn l b D cA sa adV yX10_line cX10_line 2 none 7 209 0 sX10_line := by
  refine Cn_of (calls := kX10_line) (by decide +kernel) oX10_line (hC_of (cidx := [(0, 79), (0, 115), (0, 135), (0, 141), (0, 146), (0, 121), (0, 99), (0, 75)]) (by decide +kernel) (fun p e s m args below meth c Q Y k kd x na mc tr h1 h2 => ?_)) (hT_no) (hL_of (by decide +kernel)) (fun _ _ => rfl) (fun _ _ _ _ h => h)
  match k, h1, h2 with
  | 0, h1, h2 => cases h1; cases h2; exact callV_of Y (mX10_here hl) wl_RX10_79 wn_X10_here ws_X10_here wi_RX10 wc_X10_here (T := TX10) (N := _) rfl (by decide +kernel) ⟨by decide, by decide⟩
  | 1, h1, h2 => cases h1; cases h2; exact callV_of Y (mX10_takesWord hl) wl_RX10_115 wn_X10_takesWord ws_X10_takesWord wi_RX10 wc_X10_takesWord (T := TX10) (N := _) rfl (by decide +kernel) ⟨by decide, by decide⟩
  | 2, h1, h2 => cases h1; cases h2; exact callV_of Y (mX10_readsDept hl) wl_RX10_135 wn_X10_readsDept ws_X10_readsDept wi_RX10 wc_X10_readsDept (T := TX10) (N := _) rfl (by decide +kernel) ⟨by decide, by decide⟩
  | 3, h1, h2 => cases h1; cases h2; exact callV_of Y (mX10_readsMat hl) wl_RX10_141 wn_X10_readsMat ws_X10_readsMat wi_RX10 wc_X10_readsMat (T := TX10) (N := _) rfl (by decide +kernel) ⟨by decide, by decide⟩
  | 4, h1, h2 => cases h1; cases h2; exact callV_of Y (mX10_readsProduct hl) wl_RX10_146 wn_X10_readsProduct ws_X10_readsProduct wi_RX10 wc_X10_readsProduct (T := TX10) (N := _) rfl (by decide +kernel) ⟨by decide, by decide⟩
  | 5, h1, h2 => cases h1; cases h2; exact callV_of Y (mX10_way hl) wl_RX10_121 wn_X10_way ws_X10_way wi_RX10 wc_X10_way (T := TX10) (N := _) rfl (by decide +kernel) ⟨by decide, by decide⟩
  | 6, h1, h2 => cases h1; cases h2; exact callV_of Y (mX10_wrong hl) wl_RX10_99 wn_X10_wrong ws_X10_wrong wi_RX10 wc_X10_wrong (T := TX10) (N := _) rfl (by decide +kernel) ⟨by decide, by decide⟩
  | 7, h1, h2 => cases h1; cases h2; exact callV_of Y (mX10_fine hl) wl_RX10_75 wn_X10_fine ws_X10_fine wi_RX10 wc_X10_fine (T := TX10) (N := _) rfl (by decide +kernel) ⟨by decide, by decide⟩
  | k + 8, h1, _ => simp at h1
def kX10_isDesk : List (Nat × Nat × SP) := []
def sX10_isDesk : SP := RUN pX10_isDesk kX10_isDesk hd0 [] 5 (some .boolean) 0
theorem mX10_isDesk {l : Launch} {b : Nat} {D : va_G} {cA sa adV : Nat → Nat} (hl : l.stackTraces = false) : Cn l b D cA sa adV yX10_isDesk cX10_isDesk 5 (some .boolean) 0 0 0 sX10_isDesk := by
  refine Cn_of (calls := kX10_isDesk) (by decide +kernel) oX10_isDesk (hC_of (cidx := []) (by decide +kernel) (fun p e s m args below meth c Q Y k kd x na mc tr h1 h2 => ?_)) (hT_no) (hL_of (by decide +kernel)) (fun _ _ => rfl) (fun _ _ _ _ h => h)
  match k, h1, h2 with
  | k, h1, _ => simp at h1
def kX10_remembers : List (Nat × Nat × SP) := [(2, 0, sX10_copies)]
def sX10_remembers : SP := RUN pX10_remembers kX10_remembers hd0 [] 2 none 0
theorem mX10_remembers {l : Launch} {b : Nat} {D : va_G} {cA sa adV : Nat → Nat} (hl : l.stackTraces = false) : Cn l b D cA sa adV yX10_remembers cX10_remembers 2 none 1 22 0 sX10_remembers := by
  refine Cn_of (calls := kX10_remembers) (by decide +kernel) oX10_remembers (hC_of (cidx := [(1, 168)]) (by decide +kernel) (fun p e s m args below meth c Q Y k kd x na mc tr h1 h2 => ?_)) (hT_no) (hL_of (by decide +kernel)) (fun _ _ => rfl) (fun _ _ _ _ h => h)
  match k, h1, h2 with
  | 0, h1, h2 => cases h1; cases h2; exact callS_of Y (mX10_copies hl) wl_RX10_168 wt_X10_copies wi_RX10 wc_X10_copies (by decide +kernel) ⟨by decide, by decide⟩
  | k + 1, h1, _ => simp at h1
def kX10_text : List (Nat × Nat × SP) := [(3, 0, sX10_in), (4, 0, vsp 10 sX10_bad), (1, 0, sX10_begins), (1, 0, vsp 10 sX10_fine), (1, 0, vsp 10 sX10_here), (1, 0, vsp 10 sX10_line), (1, 0, vsp 10 sX10_isDesk), (3, 0, vsp 10 sX10_wrong), (1, 0, vsp 10 sX10_remembers), (2, 0, sX10_copies)]
def sX10_text : SP := RUN pX10_text kX10_text hd0 [] 2 (some .int) 0
theorem mX10_text {l : Launch} {b : Nat} {D : va_G} {cA sa adV : Nat → Nat} (hl : l.stackTraces = false) : Cn l b D cA sa adV yX10_text cX10_text 2 (some .int) 8 230 0 sX10_text := by
  refine Cn_of (calls := kX10_text) (by decide +kernel) oX10_text (hC_of (cidx := [(1, 109), (0, 155), (1, 41), (0, 75), (0, 79), (0, 159), (0, 162), (0, 99), (0, 165), (1, 168)]) (by decide +kernel) (fun p e s m args below meth c Q Y k kd x na mc tr h1 h2 => ?_)) (hT_no) (hL_of (by decide +kernel)) (fun _ _ => rfl) (fun _ _ _ _ h => h)
  match k, h1, h2 with
  | 0, h1, h2 => cases h1; cases h2; exact callS_of Y (mX10_in hl) wl_RX10_109 wt_X10_in wi_RX10 wc_X10_in (by decide +kernel) ⟨by decide, by decide⟩
  | 1, h1, h2 => cases h1; cases h2; exact callV_of Y (mX10_bad hl) wl_RX10_155 wn_X10_bad ws_X10_bad wi_RX10 wc_X10_bad (T := TX10) (N := _) rfl (by decide +kernel) ⟨by decide, by decide⟩
  | 2, h1, h2 => cases h1; cases h2; exact callS_of Y (mX10_begins hl) wl_RX10_41 wt_X10_begins wi_RX10 wc_X10_begins (by decide +kernel) ⟨by decide, by decide⟩
  | 3, h1, h2 => cases h1; cases h2; exact callV_of Y (mX10_fine hl) wl_RX10_75 wn_X10_fine ws_X10_fine wi_RX10 wc_X10_fine (T := TX10) (N := _) rfl (by decide +kernel) ⟨by decide, by decide⟩
  | 4, h1, h2 => cases h1; cases h2; exact callV_of Y (mX10_here hl) wl_RX10_79 wn_X10_here ws_X10_here wi_RX10 wc_X10_here (T := TX10) (N := _) rfl (by decide +kernel) ⟨by decide, by decide⟩
  | 5, h1, h2 => cases h1; cases h2; exact callV_of Y (mX10_line hl) wl_RX10_159 wn_X10_line ws_X10_line wi_RX10 wc_X10_line (T := TX10) (N := _) rfl (by decide +kernel) ⟨by decide, by decide⟩
  | 6, h1, h2 => cases h1; cases h2; exact callV_of Y (mX10_isDesk hl) wl_RX10_162 wn_X10_isDesk ws_X10_isDesk wi_RX10 wc_X10_isDesk (T := TX10) (N := _) rfl (by decide +kernel) ⟨by decide, by decide⟩
  | 7, h1, h2 => cases h1; cases h2; exact callV_of Y (mX10_wrong hl) wl_RX10_99 wn_X10_wrong ws_X10_wrong wi_RX10 wc_X10_wrong (T := TX10) (N := _) rfl (by decide +kernel) ⟨by decide, by decide⟩
  | 8, h1, h2 => cases h1; cases h2; exact callV_of Y (mX10_remembers hl) wl_RX10_165 wn_X10_remembers ws_X10_remembers wi_RX10 wc_X10_remembers (T := TX10) (N := _) rfl (by decide +kernel) ⟨by decide, by decide⟩
  | 9, h1, h2 => cases h1; cases h2; exact callS_of Y (mX10_copies hl) wl_RX10_168 wt_X10_copies wi_RX10 wc_X10_copies (by decide +kernel) ⟨by decide, by decide⟩
  | k + 10, h1, _ => simp at h1
def kX10_fault : List (Nat × Nat × SP) := []
def sX10_fault : SP := RUN pX10_fault kX10_fault hd0 [] 1 (some .int) 0
theorem mX10_fault {l : Launch} {b : Nat} {D : va_G} {cA sa adV : Nat → Nat} (hl : l.stackTraces = false) : Cn l b D cA sa adV yX10_fault cX10_fault 1 (some .int) 0 0 0 sX10_fault := by
  refine Cn_of (calls := kX10_fault) (by decide +kernel) oX10_fault (hC_of (cidx := []) (by decide +kernel) (fun p e s m args below meth c Q Y k kd x na mc tr h1 h2 => ?_)) (hT_no) (hL_of (by decide +kernel)) (fun _ _ => rfl) (fun _ _ _ _ h => h)
  match k, h1, h2 with
  | k, h1, _ => simp at h1
def kX10_undo : List (Nat × Nat × SP) := [(2, 0, sX10_copies)]
def sX10_undo : SP := RUN pX10_undo kX10_undo hd0 [] 1 (some .int) 0
theorem mX10_undo {l : Launch} {b : Nat} {D : va_G} {cA sa adV : Nat → Nat} (hl : l.stackTraces = false) : Cn l b D cA sa adV yX10_undo cX10_undo 1 (some .int) 1 22 0 sX10_undo := by
  refine Cn_of (calls := kX10_undo) (by decide +kernel) oX10_undo (hC_of (cidx := [(1, 168)]) (by decide +kernel) (fun p e s m args below meth c Q Y k kd x na mc tr h1 h2 => ?_)) (hT_no) (hL_of (by decide +kernel)) (fun _ _ => rfl) (fun _ _ _ _ h => h)
  match k, h1, h2 with
  | 0, h1, h2 => cases h1; cases h2; exact callS_of Y (mX10_copies hl) wl_RX10_168 wt_X10_copies wi_RX10 wc_X10_copies (by decide +kernel) ⟨by decide, by decide⟩
  | k + 1, h1, _ => simp at h1
def kX10_isDept : List (Nat × Nat × SP) := [(3, 0, sX10_in)]
def sX10_isDept : SP := RUN pX10_isDept kX10_isDept hd0 [] 2 (some .boolean) 0
theorem mX10_isDept {l : Launch} {b : Nat} {D : va_G} {cA sa adV : Nat → Nat} (hl : l.stackTraces = false) : Cn l b D cA sa adV yX10_isDept cX10_isDept 2 (some .boolean) 1 25 0 sX10_isDept := by
  refine Cn_of (calls := kX10_isDept) (by decide +kernel) oX10_isDept (hC_of (cidx := [(1, 109)]) (by decide +kernel) (fun p e s m args below meth c Q Y k kd x na mc tr h1 h2 => ?_)) (hT_no) (hL_of (by decide +kernel)) (fun _ _ => rfl) (fun _ _ _ _ h => h)
  match k, h1, h2 with
  | 0, h1, h2 => cases h1; cases h2; exact callS_of Y (mX10_in hl) wl_RX10_109 wt_X10_in wi_RX10 wc_X10_in (by decide +kernel) ⟨by decide, by decide⟩
  | k + 1, h1, _ => simp at h1
def kX10_isKind : List (Nat × Nat × SP) := [(3, 0, sX10_in), (3, 0, vsp 10 sX10_of)]
def sX10_isKind : SP := RUN pX10_isKind kX10_isKind hd0 [] 4 (some .boolean) 0
theorem mX10_isKind {l : Launch} {b : Nat} {D : va_G} {cA sa adV : Nat → Nat} (hl : l.stackTraces = false) : Cn l b D cA sa adV yX10_isKind cX10_isKind 4 (some .boolean) 1 25 0 sX10_isKind := by
  refine Cn_of (calls := kX10_isKind) (by decide +kernel) oX10_isKind (hC_of (cidx := [(1, 109), (0, 177)]) (by decide +kernel) (fun p e s m args below meth c Q Y k kd x na mc tr h1 h2 => ?_)) (hT_no) (hL_of (by decide +kernel)) (fun _ _ => rfl) (fun _ _ _ _ h => h)
  match k, h1, h2 with
  | 0, h1, h2 => cases h1; cases h2; exact callS_of Y (mX10_in hl) wl_RX10_109 wt_X10_in wi_RX10 wc_X10_in (by decide +kernel) ⟨by decide, by decide⟩
  | 1, h1, h2 => cases h1; cases h2; exact callV_of Y (mX10_of hl) wl_RX10_177 wn_X10_of ws_X10_of wi_RX10 wc_X10_of (T := TX10) (N := _) rfl (by decide +kernel) ⟨by decide, by decide⟩
  | k + 2, h1, _ => simp at h1
def kX10_coming : List (Nat × Nat × SP) := []
def sX10_coming : SP := RUN pX10_coming kX10_coming hd0 [] 2 (some .int) 0
theorem mX10_coming {l : Launch} {b : Nat} {D : va_G} {cA sa adV : Nat → Nat} (hl : l.stackTraces = false) : Cn l b D cA sa adV yX10_coming cX10_coming 2 (some .int) 0 0 0 sX10_coming := by
  refine Cn_of (calls := kX10_coming) (by decide +kernel) oX10_coming (hC_of (cidx := []) (by decide +kernel) (fun p e s m args below meth c Q Y k kd x na mc tr h1 h2 => ?_)) (hT_no) (hL_of (by decide +kernel)) (fun _ _ => rfl) (fun _ _ _ _ h => h)
  match k, h1, h2 with
  | k, h1, _ => simp at h1
def kX10_start : List (Nat × Nat × SP) := [(3, 0, sX10_in), (4, 0, vsp 10 sX10_bad), (1, 0, vsp 10 sX10_remembers)]
def sX10_start : SP := RUN pX10_start kX10_start hd0 [] 2 (some .int) 0
theorem mX10_start {l : Launch} {b : Nat} {D : va_G} {cA sa adV : Nat → Nat} (hl : l.stackTraces = false) : Cn l b D cA sa adV yX10_start cX10_start 2 (some .int) 2 43 0 sX10_start := by
  refine Cn_of (calls := kX10_start) (by decide +kernel) oX10_start (hC_of (cidx := [(1, 109), (0, 155), (0, 165)]) (by decide +kernel) (fun p e s m args below meth c Q Y k kd x na mc tr h1 h2 => ?_)) (hT_no) (hL_of (by decide +kernel)) (fun _ _ => rfl) (fun _ _ _ _ h => h)
  match k, h1, h2 with
  | 0, h1, h2 => cases h1; cases h2; exact callS_of Y (mX10_in hl) wl_RX10_109 wt_X10_in wi_RX10 wc_X10_in (by decide +kernel) ⟨by decide, by decide⟩
  | 1, h1, h2 => cases h1; cases h2; exact callV_of Y (mX10_bad hl) wl_RX10_155 wn_X10_bad ws_X10_bad wi_RX10 wc_X10_bad (T := TX10) (N := _) rfl (by decide +kernel) ⟨by decide, by decide⟩
  | 2, h1, h2 => cases h1; cases h2; exact callV_of Y (mX10_remembers hl) wl_RX10_165 wn_X10_remembers ws_X10_remembers wi_RX10 wc_X10_remembers (T := TX10) (N := _) rfl (by decide +kernel) ⟨by decide, by decide⟩
  | k + 3, h1, _ => simp at h1
def kX10_spend : List (Nat × Nat × SP) := [(2, 0, vsp 10 sX10_isDept), (4, 0, vsp 10 sX10_isKind), (4, 0, vsp 10 sX10_bad), (3, 0, sX10_in), (2, 0, sX10_coming), (1, 0, vsp 10 sX10_remembers)]
def sX10_spend : SP := RUN pX10_spend kX10_spend hd0 [] 4 (some .int) 0
theorem mX10_spend {l : Launch} {b : Nat} {D : va_G} {cA sa adV : Nat → Nat} (hl : l.stackTraces = false) : Cn l b D cA sa adV yX10_spend cX10_spend 4 (some .int) 2 48 0 sX10_spend := by
  refine Cn_of (calls := kX10_spend) (by decide +kernel) oX10_spend (hC_of (cidx := [(0, 183), (0, 186), (0, 155), (1, 109), (1, 192), (0, 165)]) (by decide +kernel) (fun p e s m args below meth c Q Y k kd x na mc tr h1 h2 => ?_)) (hT_no) (hL_of (by decide +kernel)) (fun _ _ => rfl) (fun _ _ _ _ h => h)
  match k, h1, h2 with
  | 0, h1, h2 => cases h1; cases h2; exact callV_of Y (mX10_isDept hl) wl_RX10_183 wn_X10_isDept ws_X10_isDept wi_RX10 wc_X10_isDept (T := TX10) (N := _) rfl (by decide +kernel) ⟨by decide, by decide⟩
  | 1, h1, h2 => cases h1; cases h2; exact callV_of Y (mX10_isKind hl) wl_RX10_186 wn_X10_isKind ws_X10_isKind wi_RX10 wc_X10_isKind (T := TX10) (N := _) rfl (by decide +kernel) ⟨by decide, by decide⟩
  | 2, h1, h2 => cases h1; cases h2; exact callV_of Y (mX10_bad hl) wl_RX10_155 wn_X10_bad ws_X10_bad wi_RX10 wc_X10_bad (T := TX10) (N := _) rfl (by decide +kernel) ⟨by decide, by decide⟩
  | 3, h1, h2 => cases h1; cases h2; exact callS_of Y (mX10_in hl) wl_RX10_109 wt_X10_in wi_RX10 wc_X10_in (by decide +kernel) ⟨by decide, by decide⟩
  | 4, h1, h2 => cases h1; cases h2; exact callS_of Y (mX10_coming hl) wl_RX10_192 wt_X10_coming wi_RX10 wc_X10_coming (by decide +kernel) ⟨by decide, by decide⟩
  | 5, h1, h2 => cases h1; cases h2; exact callV_of Y (mX10_remembers hl) wl_RX10_165 wn_X10_remembers ws_X10_remembers wi_RX10 wc_X10_remembers (T := TX10) (N := _) rfl (by decide +kernel) ⟨by decide, by decide⟩
  | k + 6, h1, _ => simp at h1
def kX10_lost : List (Nat × Nat × SP) := [(2, 0, vsp 10 sX10_isDept), (4, 0, vsp 10 sX10_bad), (3, 0, sX10_in), (1, 0, vsp 10 sX10_remembers), (2, 0, sX10_coming)]
def sX10_lost : SP := RUN pX10_lost kX10_lost hd0 [] 4 (some .int) 0
theorem mX10_lost {l : Launch} {b : Nat} {D : va_G} {cA sa adV : Nat → Nat} (hl : l.stackTraces = false) : Cn l b D cA sa adV yX10_lost cX10_lost 4 (some .int) 2 46 0 sX10_lost := by
  refine Cn_of (calls := kX10_lost) (by decide +kernel) oX10_lost (hC_of (cidx := [(0, 183), (0, 155), (1, 109), (0, 165), (1, 192)]) (by decide +kernel) (fun p e s m args below meth c Q Y k kd x na mc tr h1 h2 => ?_)) (hT_no) (hL_of (by decide +kernel)) (fun _ _ => rfl) (fun _ _ _ _ h => h)
  match k, h1, h2 with
  | 0, h1, h2 => cases h1; cases h2; exact callV_of Y (mX10_isDept hl) wl_RX10_183 wn_X10_isDept ws_X10_isDept wi_RX10 wc_X10_isDept (T := TX10) (N := _) rfl (by decide +kernel) ⟨by decide, by decide⟩
  | 1, h1, h2 => cases h1; cases h2; exact callV_of Y (mX10_bad hl) wl_RX10_155 wn_X10_bad ws_X10_bad wi_RX10 wc_X10_bad (T := TX10) (N := _) rfl (by decide +kernel) ⟨by decide, by decide⟩
  | 2, h1, h2 => cases h1; cases h2; exact callS_of Y (mX10_in hl) wl_RX10_109 wt_X10_in wi_RX10 wc_X10_in (by decide +kernel) ⟨by decide, by decide⟩
  | 3, h1, h2 => cases h1; cases h2; exact callV_of Y (mX10_remembers hl) wl_RX10_165 wn_X10_remembers ws_X10_remembers wi_RX10 wc_X10_remembers (T := TX10) (N := _) rfl (by decide +kernel) ⟨by decide, by decide⟩
  | 4, h1, h2 => cases h1; cases h2; exact callS_of Y (mX10_coming hl) wl_RX10_192 wt_X10_coming wi_RX10 wc_X10_coming (by decide +kernel) ⟨by decide, by decide⟩
  | k + 5, h1, _ => simp at h1
def kX10_left : List (Nat × Nat × SP) := [(2, 0, vsp 10 sX10_isDept), (4, 0, vsp 10 sX10_bad), (3, 0, sX10_in), (1, 0, vsp 10 sX10_remembers), (2, 0, sX10_coming)]
def sX10_left : SP := RUN pX10_left kX10_left hd0 [] 5 (some .int) 0
theorem mX10_left {l : Launch} {b : Nat} {D : va_G} {cA sa adV : Nat → Nat} (hl : l.stackTraces = false) : Cn l b D cA sa adV yX10_left cX10_left 5 (some .int) 2 46 0 sX10_left := by
  refine Cn_of (calls := kX10_left) (by decide +kernel) oX10_left (hC_of (cidx := [(0, 183), (0, 155), (1, 109), (0, 165), (1, 192)]) (by decide +kernel) (fun p e s m args below meth c Q Y k kd x na mc tr h1 h2 => ?_)) (hT_no) (hL_of (by decide +kernel)) (fun _ _ => rfl) (fun _ _ _ _ h => h)
  match k, h1, h2 with
  | 0, h1, h2 => cases h1; cases h2; exact callV_of Y (mX10_isDept hl) wl_RX10_183 wn_X10_isDept ws_X10_isDept wi_RX10 wc_X10_isDept (T := TX10) (N := _) rfl (by decide +kernel) ⟨by decide, by decide⟩
  | 1, h1, h2 => cases h1; cases h2; exact callV_of Y (mX10_bad hl) wl_RX10_155 wn_X10_bad ws_X10_bad wi_RX10 wc_X10_bad (T := TX10) (N := _) rfl (by decide +kernel) ⟨by decide, by decide⟩
  | 2, h1, h2 => cases h1; cases h2; exact callS_of Y (mX10_in hl) wl_RX10_109 wt_X10_in wi_RX10 wc_X10_in (by decide +kernel) ⟨by decide, by decide⟩
  | 3, h1, h2 => cases h1; cases h2; exact callV_of Y (mX10_remembers hl) wl_RX10_165 wn_X10_remembers ws_X10_remembers wi_RX10 wc_X10_remembers (T := TX10) (N := _) rfl (by decide +kernel) ⟨by decide, by decide⟩
  | 4, h1, h2 => cases h1; cases h2; exact callS_of Y (mX10_coming hl) wl_RX10_192 wt_X10_coming wi_RX10 wc_X10_coming (by decide +kernel) ⟨by decide, by decide⟩
  | k + 5, h1, _ => simp at h1
def kX10_latest : List (Nat × Nat × SP) := []
def sX10_latest : SP := RUN pX10_latest kX10_latest hd0 [] 2 (some .int) 0
theorem mX10_latest {l : Launch} {b : Nat} {D : va_G} {cA sa adV : Nat → Nat} (hl : l.stackTraces = false) : Cn l b D cA sa adV yX10_latest cX10_latest 2 (some .int) 0 0 0 sX10_latest := by
  refine Cn_of (calls := kX10_latest) (by decide +kernel) oX10_latest (hC_of (cidx := []) (by decide +kernel) (fun p e s m args below meth c Q Y k kd x na mc tr h1 h2 => ?_)) (hT_no) (hL_of (by decide +kernel)) (fun _ _ => rfl) (fun _ _ _ _ h => h)
  match k, h1, h2 with
  | k, h1, _ => simp at h1
def kX10_working : List (Nat × Nat × SP) := []
def sX10_working : SP := RUN pX10_working kX10_working hd0 [] 2 (some .int) 0
theorem mX10_working {l : Launch} {b : Nat} {D : va_G} {cA sa adV : Nat → Nat} (hl : l.stackTraces = false) : Cn l b D cA sa adV yX10_working cX10_working 2 (some .int) 0 0 0 sX10_working := by
  refine Cn_of (calls := kX10_working) (by decide +kernel) oX10_working (hC_of (cidx := []) (by decide +kernel) (fun p e s m args below meth c Q Y k kd x na mc tr h1 h2 => ?_)) (hT_no) (hL_of (by decide +kernel)) (fun _ _ => rfl) (fun _ _ _ _ h => h)
  match k, h1, h2 with
  | k, h1, _ => simp at h1
def kX10_doneAt : List (Nat × Nat × SP) := []
def sX10_doneAt : SP := RUN pX10_doneAt kX10_doneAt hd0 [] 7 (some .long) 0
theorem mX10_doneAt {l : Launch} {b : Nat} {D : va_G} {cA sa adV : Nat → Nat} (hl : l.stackTraces = false) : Cn l b D cA sa adV yX10_doneAt cX10_doneAt 7 (some .long) 0 0 0 sX10_doneAt := by
  refine Cn_of (calls := kX10_doneAt) (by decide +kernel) oX10_doneAt (hC_of (cidx := []) (by decide +kernel) (fun p e s m args below meth c Q Y k kd x na mc tr h1 h2 => ?_)) (hT_no) (hL_of (by decide +kernel)) (fun _ _ => rfl) (fun _ _ _ _ h => h)
  match k, h1, h2 with
  | k, h1, _ => simp at h1
def kX10_cut : List (Nat × Nat × SP) := []
def sX10_cut : SP := RUN pX10_cut kX10_cut hd0 [] 6 (some .long) 0
theorem mX10_cut {l : Launch} {b : Nat} {D : va_G} {cA sa adV : Nat → Nat} (hl : l.stackTraces = false) : Cn l b D cA sa adV yX10_cut cX10_cut 6 (some .long) 0 0 0 sX10_cut := by
  refine Cn_of (calls := kX10_cut) (by decide +kernel) oX10_cut (hC_of (cidx := []) (by decide +kernel) (fun p e s m args below meth c Q Y k kd x na mc tr h1 h2 => ?_)) (hT_no) (hL_of (by decide +kernel)) (fun _ _ => rfl) (fun _ _ _ _ h => h)
  match k, h1, h2 with
  | k, h1, _ => simp at h1
def kX10_losses : List (Nat × Nat × SP) := [(2, 0, sX10_latest), (3, 0, sX10_cut), (2, 0, sX10_more)]
def sX10_losses : SP := RUN pX10_losses kX10_losses hd0 [] 25 none 0
theorem mX10_losses {l : Launch} {b : Nat} {D : va_G} {cA sa adV : Nat → Nat} (hl : l.stackTraces = false) : Cn l b D cA sa adV yX10_losses cX10_losses 25 none 1 25 0 sX10_losses := by
  refine Cn_of (calls := kX10_losses) (by decide +kernel) oX10_losses (hC_of (cidx := [(1, 197), (1, 207), (1, 200)]) (by decide +kernel) (fun p e s m args below meth c Q Y k kd x na mc tr h1 h2 => ?_)) (hT_no) (hL_of (by decide +kernel)) (fun _ _ => rfl) (fun _ _ _ _ h => h)
  match k, h1, h2 with
  | 0, h1, h2 => cases h1; cases h2; exact callS_of Y (mX10_latest hl) wl_RX10_197 wt_X10_latest wi_RX10 wc_X10_latest (by decide +kernel) ⟨by decide, by decide⟩
  | 1, h1, h2 => cases h1; cases h2; exact callS_of Y (mX10_cut hl) wl_RX10_207 wt_X10_cut wi_RX10 wc_X10_cut (by decide +kernel) ⟨by decide, by decide⟩
  | 2, h1, h2 => cases h1; cases h2; exact callS_of Y (mX10_more hl) wl_RX10_200 wt_X10_more wi_RX10 wc_X10_more (by decide +kernel) ⟨by decide, by decide⟩
  | k + 3, h1, _ => simp at h1
def kX10_counts : List (Nat × Nat × SP) := [(2, 0, sX10_latest), (2, 0, sX10_more), (2, 0, sX10_less), (4, 0, sX10_doneAt), (3, 0, sX10_cut), (6, 0, sX10_losses)]
def sX10_counts : SP := RUN pX10_counts kX10_counts hd0 [] 48 (some .boolean) 0
theorem mX10_counts {l : Launch} {b : Nat} {D : va_G} {cA sa adV : Nat → Nat} (hl : l.stackTraces = false) : Cn l b D cA sa adV yX10_counts cX10_counts 48 (some .boolean) 2 69 0 sX10_counts := by
  refine Cn_of (calls := kX10_counts) (by decide +kernel) oX10_counts (hC_of (cidx := [(1, 197), (1, 200), (1, 105), (1, 203), (1, 207), (1, 211)]) (by decide +kernel) (fun p e s m args below meth c Q Y k kd x na mc tr h1 h2 => ?_)) (hT_no) (hL_of (by decide +kernel)) (fun _ _ => rfl) (fun _ _ _ _ h => h)
  match k, h1, h2 with
  | 0, h1, h2 => cases h1; cases h2; exact callS_of Y (mX10_latest hl) wl_RX10_197 wt_X10_latest wi_RX10 wc_X10_latest (by decide +kernel) ⟨by decide, by decide⟩
  | 1, h1, h2 => cases h1; cases h2; exact callS_of Y (mX10_more hl) wl_RX10_200 wt_X10_more wi_RX10 wc_X10_more (by decide +kernel) ⟨by decide, by decide⟩
  | 2, h1, h2 => cases h1; cases h2; exact callS_of Y (mX10_less hl) wl_RX10_105 wt_X10_less wi_RX10 wc_X10_less (by decide +kernel) ⟨by decide, by decide⟩
  | 3, h1, h2 => cases h1; cases h2; exact callS_of Y (mX10_doneAt hl) wl_RX10_203 wt_X10_doneAt wi_RX10 wc_X10_doneAt (by decide +kernel) ⟨by decide, by decide⟩
  | 4, h1, h2 => cases h1; cases h2; exact callS_of Y (mX10_cut hl) wl_RX10_207 wt_X10_cut wi_RX10 wc_X10_cut (by decide +kernel) ⟨by decide, by decide⟩
  | 5, h1, h2 => cases h1; cases h2; exact callS_of Y (mX10_losses hl) wl_RX10_211 wt_X10_losses wi_RX10 wc_X10_losses (by decide +kernel) ⟨by decide, by decide⟩
  | k + 6, h1, _ => simp at h1
def kX10_opens : List (Nat × Nat × SP) := [(2, 0, sX10_latest), (2, 0, sX10_working), (2, 0, sX10_coming)]
def sX10_opens : SP := RUN pX10_opens kX10_opens hd0 [] 7 none 0
theorem mX10_opens {l : Launch} {b : Nat} {D : va_G} {cA sa adV : Nat → Nat} (hl : l.stackTraces = false) : Cn l b D cA sa adV yX10_opens cX10_opens 7 none 1 21 0 sX10_opens := by
  refine Cn_of (calls := kX10_opens) (by decide +kernel) oX10_opens (hC_of (cidx := [(1, 197), (1, 215), (1, 192)]) (by decide +kernel) (fun p e s m args below meth c Q Y k kd x na mc tr h1 h2 => ?_)) (hT_no) (hL_of (by decide +kernel)) (fun _ _ => rfl) (fun _ _ _ _ h => h)
  match k, h1, h2 with
  | 0, h1, h2 => cases h1; cases h2; exact callS_of Y (mX10_latest hl) wl_RX10_197 wt_X10_latest wi_RX10 wc_X10_latest (by decide +kernel) ⟨by decide, by decide⟩
  | 1, h1, h2 => cases h1; cases h2; exact callS_of Y (mX10_working hl) wl_RX10_215 wt_X10_working wi_RX10 wc_X10_working (by decide +kernel) ⟨by decide, by decide⟩
  | 2, h1, h2 => cases h1; cases h2; exact callS_of Y (mX10_coming hl) wl_RX10_192 wt_X10_coming wi_RX10 wc_X10_coming (by decide +kernel) ⟨by decide, by decide⟩
  | k + 3, h1, _ => simp at h1
def kX10_closes : List (Nat × Nat × SP) := [(2, 0, sX10_latest), (2, 0, sX10_working), (2, 0, sX10_coming)]
def sX10_closes : SP := RUN pX10_closes kX10_closes hd0 [] 5 none 0
theorem mX10_closes {l : Launch} {b : Nat} {D : va_G} {cA sa adV : Nat → Nat} (hl : l.stackTraces = false) : Cn l b D cA sa adV yX10_closes cX10_closes 5 none 1 21 0 sX10_closes := by
  refine Cn_of (calls := kX10_closes) (by decide +kernel) oX10_closes (hC_of (cidx := [(1, 197), (1, 215), (1, 192)]) (by decide +kernel) (fun p e s m args below meth c Q Y k kd x na mc tr h1 h2 => ?_)) (hT_no) (hL_of (by decide +kernel)) (fun _ _ => rfl) (fun _ _ _ _ h => h)
  match k, h1, h2 with
  | 0, h1, h2 => cases h1; cases h2; exact callS_of Y (mX10_latest hl) wl_RX10_197 wt_X10_latest wi_RX10 wc_X10_latest (by decide +kernel) ⟨by decide, by decide⟩
  | 1, h1, h2 => cases h1; cases h2; exact callS_of Y (mX10_working hl) wl_RX10_215 wt_X10_working wi_RX10 wc_X10_working (by decide +kernel) ⟨by decide, by decide⟩
  | 2, h1, h2 => cases h1; cases h2; exact callS_of Y (mX10_coming hl) wl_RX10_192 wt_X10_coming wi_RX10 wc_X10_coming (by decide +kernel) ⟨by decide, by decide⟩
  | k + 3, h1, _ => simp at h1
def kX10_storeAt : List (Nat × Nat × SP) := []
def sX10_storeAt : SP := RUN pX10_storeAt kX10_storeAt hd0 [] 1 (some .int) 0
theorem mX10_storeAt {l : Launch} {b : Nat} {D : va_G} {cA sa adV : Nat → Nat} (hl : l.stackTraces = false) : Cn l b D cA sa adV yX10_storeAt cX10_storeAt 1 (some .int) 0 0 0 sX10_storeAt := by
  refine Cn_of (calls := kX10_storeAt) (by decide +kernel) oX10_storeAt (hC_of (cidx := []) (by decide +kernel) (fun p e s m args below meth c Q Y k kd x na mc tr h1 h2 => ?_)) (hT_no) (hL_of (by decide +kernel)) (fun _ _ => rfl) (fun _ _ _ _ h => h)
  match k, h1, h2 with
  | k, h1, _ => simp at h1
def kX10_layerAt : List (Nat × Nat × SP) := [(1, 0, sX10_storeAt)]
def sX10_layerAt : SP := RUN pX10_layerAt kX10_layerAt hd0 [] 3 (some .int) 0
theorem mX10_layerAt {l : Launch} {b : Nat} {D : va_G} {cA sa adV : Nat → Nat} (hl : l.stackTraces = false) : Cn l b D cA sa adV yX10_layerAt cX10_layerAt 3 (some .int) 1 20 0 sX10_layerAt := by
  refine Cn_of (calls := kX10_layerAt) (by decide +kernel) oX10_layerAt (hC_of (cidx := [(1, 218)]) (by decide +kernel) (fun p e s m args below meth c Q Y k kd x na mc tr h1 h2 => ?_)) (hT_no) (hL_of (by decide +kernel)) (fun _ _ => rfl) (fun _ _ _ _ h => h)
  match k, h1, h2 with
  | 0, h1, h2 => cases h1; cases h2; exact callS_of Y (mX10_storeAt hl) wl_RX10_218 wt_X10_storeAt wi_RX10 wc_X10_storeAt (by decide +kernel) ⟨by decide, by decide⟩
  | k + 1, h1, _ => simp at h1
def kX10_share : List (Nat × Nat × SP) := []
def sX10_share : SP := RUN pX10_share kX10_share hd0 [] 3 (some .long) 0
theorem mX10_share {l : Launch} {b : Nat} {D : va_G} {cA sa adV : Nat → Nat} (hl : l.stackTraces = false) : Cn l b D cA sa adV yX10_share cX10_share 3 (some .long) 0 0 0 sX10_share := by
  refine Cn_of (calls := kX10_share) (by decide +kernel) oX10_share (hC_of (cidx := []) (by decide +kernel) (fun p e s m args below meth c Q Y k kd x na mc tr h1 h2 => ?_)) (hT_no) (hL_of (by decide +kernel)) (fun _ _ => rfl) (fun _ _ _ _ h => h)
  match k, h1, h2 with
  | k, h1, _ => simp at h1
def kX10_parts : List (Nat × Nat × SP) := [(2, 0, sX10_latest), (3, 0, sX10_share), (2, 0, sX10_more), (2, 0, sX10_less), (3, 0, sX10_cut)]
def sX10_parts : SP := RUN pX10_parts kX10_parts hd0 [] 22 none 0
theorem mX10_parts {l : Launch} {b : Nat} {D : va_G} {cA sa adV : Nat → Nat} (hl : l.stackTraces = false) : Cn l b D cA sa adV yX10_parts cX10_parts 22 none 1 25 0 sX10_parts := by
  refine Cn_of (calls := kX10_parts) (by decide +kernel) oX10_parts (hC_of (cidx := [(1, 197), (1, 221), (1, 200), (1, 105), (1, 207)]) (by decide +kernel) (fun p e s m args below meth c Q Y k kd x na mc tr h1 h2 => ?_)) (hT_no) (hL_of (by decide +kernel)) (fun _ _ => rfl) (fun _ _ _ _ h => h)
  match k, h1, h2 with
  | 0, h1, h2 => cases h1; cases h2; exact callS_of Y (mX10_latest hl) wl_RX10_197 wt_X10_latest wi_RX10 wc_X10_latest (by decide +kernel) ⟨by decide, by decide⟩
  | 1, h1, h2 => cases h1; cases h2; exact callS_of Y (mX10_share hl) wl_RX10_221 wt_X10_share wi_RX10 wc_X10_share (by decide +kernel) ⟨by decide, by decide⟩
  | 2, h1, h2 => cases h1; cases h2; exact callS_of Y (mX10_more hl) wl_RX10_200 wt_X10_more wi_RX10 wc_X10_more (by decide +kernel) ⟨by decide, by decide⟩
  | 3, h1, h2 => cases h1; cases h2; exact callS_of Y (mX10_less hl) wl_RX10_105 wt_X10_less wi_RX10 wc_X10_less (by decide +kernel) ⟨by decide, by decide⟩
  | 4, h1, h2 => cases h1; cases h2; exact callS_of Y (mX10_cut hl) wl_RX10_207 wt_X10_cut wi_RX10 wc_X10_cut (by decide +kernel) ⟨by decide, by decide⟩
  | k + 5, h1, _ => simp at h1
def kX10_stores : List (Nat × Nat × SP) := [(1, 0, sX10_storeAt), (2, 0, sX10_layerAt)]
def sX10_stores : SP := RUN pX10_stores kX10_stores hd0 [] 8 (some .boolean) 0
theorem mX10_stores {l : Launch} {b : Nat} {D : va_G} {cA sa adV : Nat → Nat} (hl : l.stackTraces = false) : Cn l b D cA sa adV yX10_stores cX10_stores 8 (some .boolean) 2 42 0 sX10_stores := by
  refine Cn_of (calls := kX10_stores) (by decide +kernel) oX10_stores (hC_of (cidx := [(1, 218), (1, 227)]) (by decide +kernel) (fun p e s m args below meth c Q Y k kd x na mc tr h1 h2 => ?_)) (hT_no) (hL_of (by decide +kernel)) (fun _ _ => rfl) (fun _ _ _ _ h => h)
  match k, h1, h2 with
  | 0, h1, h2 => cases h1; cases h2; exact callS_of Y (mX10_storeAt hl) wl_RX10_218 wt_X10_storeAt wi_RX10 wc_X10_storeAt (by decide +kernel) ⟨by decide, by decide⟩
  | 1, h1, h2 => cases h1; cases h2; exact callS_of Y (mX10_layerAt hl) wl_RX10_227 wt_X10_layerAt wi_RX10 wc_X10_layerAt (by decide +kernel) ⟨by decide, by decide⟩
  | k + 2, h1, _ => simp at h1
def kX10_close : List (Nat × Nat × SP) := [(2, 0, sX10_copies), (2, 0, sX10_latest), (4, 0, sX10_opens), (3, 0, sX10_counts), (1, 0, sX10_parts), (1, 0, sX10_stores), (4, 0, vsp 10 sX10_bad), (1, 0, vsp 10 sX10_remembers), (2, 0, sX10_closes)]
def sX10_close : SP := RUN pX10_close kX10_close hd0 [] 3 (some .long) 0
theorem mX10_close {l : Launch} {b : Nat} {D : va_G} {cA sa adV : Nat → Nat} (hl : l.stackTraces = false) : Cn l b D cA sa adV yX10_close cX10_close 3 (some .long) 3 136 0 sX10_close := by
  refine Cn_of (calls := kX10_close) (by decide +kernel) oX10_close (hC_of (cidx := [(1, 168), (1, 197), (1, 231), (1, 235), (1, 239), (1, 242), (0, 155), (0, 165), (1, 246)]) (by decide +kernel) (fun p e s m args below meth c Q Y k kd x na mc tr h1 h2 => ?_)) (hT_no) (hL_of (by decide +kernel)) (fun _ _ => rfl) (fun _ _ _ _ h => h)
  match k, h1, h2 with
  | 0, h1, h2 => cases h1; cases h2; exact callS_of Y (mX10_copies hl) wl_RX10_168 wt_X10_copies wi_RX10 wc_X10_copies (by decide +kernel) ⟨by decide, by decide⟩
  | 1, h1, h2 => cases h1; cases h2; exact callS_of Y (mX10_latest hl) wl_RX10_197 wt_X10_latest wi_RX10 wc_X10_latest (by decide +kernel) ⟨by decide, by decide⟩
  | 2, h1, h2 => cases h1; cases h2; exact callS_of Y (mX10_opens hl) wl_RX10_231 wt_X10_opens wi_RX10 wc_X10_opens (by decide +kernel) ⟨by decide, by decide⟩
  | 3, h1, h2 => cases h1; cases h2; exact callS_of Y (mX10_counts hl) wl_RX10_235 wt_X10_counts wi_RX10 wc_X10_counts (by decide +kernel) ⟨by decide, by decide⟩
  | 4, h1, h2 => cases h1; cases h2; exact callS_of Y (mX10_parts hl) wl_RX10_239 wt_X10_parts wi_RX10 wc_X10_parts (by decide +kernel) ⟨by decide, by decide⟩
  | 5, h1, h2 => cases h1; cases h2; exact callS_of Y (mX10_stores hl) wl_RX10_242 wt_X10_stores wi_RX10 wc_X10_stores (by decide +kernel) ⟨by decide, by decide⟩
  | 6, h1, h2 => cases h1; cases h2; exact callV_of Y (mX10_bad hl) wl_RX10_155 wn_X10_bad ws_X10_bad wi_RX10 wc_X10_bad (T := TX10) (N := _) rfl (by decide +kernel) ⟨by decide, by decide⟩
  | 7, h1, h2 => cases h1; cases h2; exact callV_of Y (mX10_remembers hl) wl_RX10_165 wn_X10_remembers ws_X10_remembers wi_RX10 wc_X10_remembers (T := TX10) (N := _) rfl (by decide +kernel) ⟨by decide, by decide⟩
  | 8, h1, h2 => cases h1; cases h2; exact callS_of Y (mX10_closes hl) wl_RX10_246 wt_X10_closes wi_RX10 wc_X10_closes (by decide +kernel) ⟨by decide, by decide⟩
  | k + 9, h1, _ => simp at h1
def kX10_isProduct : List (Nat × Nat × SP) := [(3, 0, sX10_in)]
def sX10_isProduct : SP := RUN pX10_isProduct kX10_isProduct hd0 [] 2 (some .boolean) 0
theorem mX10_isProduct {l : Launch} {b : Nat} {D : va_G} {cA sa adV : Nat → Nat} (hl : l.stackTraces = false) : Cn l b D cA sa adV yX10_isProduct cX10_isProduct 2 (some .boolean) 1 25 0 sX10_isProduct := by
  refine Cn_of (calls := kX10_isProduct) (by decide +kernel) oX10_isProduct (hC_of (cidx := [(1, 109)]) (by decide +kernel) (fun p e s m args below meth c Q Y k kd x na mc tr h1 h2 => ?_)) (hT_no) (hL_of (by decide +kernel)) (fun _ _ => rfl) (fun _ _ _ _ h => h)
  match k, h1, h2 with
  | 0, h1, h2 => cases h1; cases h2; exact callS_of Y (mX10_in hl) wl_RX10_109 wt_X10_in wi_RX10 wc_X10_in (by decide +kernel) ⟨by decide, by decide⟩
  | k + 1, h1, _ => simp at h1
def kX10_unitsIn : List (Nat × Nat × SP) := [(1, 0, sX10_storeAt), (2, 0, sX10_layerAt)]
def sX10_unitsIn : SP := RUN pX10_unitsIn kX10_unitsIn hd0 [] 6 (some .long) 0
theorem mX10_unitsIn {l : Launch} {b : Nat} {D : va_G} {cA sa adV : Nat → Nat} (hl : l.stackTraces = false) : Cn l b D cA sa adV yX10_unitsIn cX10_unitsIn 6 (some .long) 2 42 0 sX10_unitsIn := by
  refine Cn_of (calls := kX10_unitsIn) (by decide +kernel) oX10_unitsIn (hC_of (cidx := [(1, 218), (1, 227)]) (by decide +kernel) (fun p e s m args below meth c Q Y k kd x na mc tr h1 h2 => ?_)) (hT_no) (hL_of (by decide +kernel)) (fun _ _ => rfl) (fun _ _ _ _ h => h)
  match k, h1, h2 with
  | 0, h1, h2 => cases h1; cases h2; exact callS_of Y (mX10_storeAt hl) wl_RX10_218 wt_X10_storeAt wi_RX10 wc_X10_storeAt (by decide +kernel) ⟨by decide, by decide⟩
  | 1, h1, h2 => cases h1; cases h2; exact callS_of Y (mX10_layerAt hl) wl_RX10_227 wt_X10_layerAt wi_RX10 wc_X10_layerAt (by decide +kernel) ⟨by decide, by decide⟩
  | k + 2, h1, _ => simp at h1
def kX10_sell : List (Nat × Nat × SP) := [(2, 0, vsp 10 sX10_isProduct), (4, 0, vsp 10 sX10_bad), (3, 0, sX10_in), (3, 0, vsp 10 sX10_unitsIn), (1, 0, vsp 10 sX10_remembers), (2, 0, sX10_layerAt), (2, 0, sX10_less), (3, 0, sX10_cut), (1, 0, sX10_storeAt)]
def sX10_sell : SP := RUN pX10_sell kX10_sell hd0 [] 14 (some .long) 0
theorem mX10_sell {l : Launch} {b : Nat} {D : va_G} {cA sa adV : Nat → Nat} (hl : l.stackTraces = false) : Cn l b D cA sa adV yX10_sell cX10_sell 14 (some .long) 3 67 0 sX10_sell := by
  refine Cn_of (calls := kX10_sell) (by decide +kernel) oX10_sell (hC_of (cidx := [(0, 250), (0, 155), (1, 109), (0, 253), (0, 165), (1, 227), (1, 105), (1, 207), (1, 218)]) (by decide +kernel) (fun p e s m args below meth c Q Y k kd x na mc tr h1 h2 => ?_)) (hT_no) (hL_of (by decide +kernel)) (fun _ _ => rfl) (fun _ _ _ _ h => h)
  match k, h1, h2 with
  | 0, h1, h2 => cases h1; cases h2; exact callV_of Y (mX10_isProduct hl) wl_RX10_250 wn_X10_isProduct ws_X10_isProduct wi_RX10 wc_X10_isProduct (T := TX10) (N := _) rfl (by decide +kernel) ⟨by decide, by decide⟩
  | 1, h1, h2 => cases h1; cases h2; exact callV_of Y (mX10_bad hl) wl_RX10_155 wn_X10_bad ws_X10_bad wi_RX10 wc_X10_bad (T := TX10) (N := _) rfl (by decide +kernel) ⟨by decide, by decide⟩
  | 2, h1, h2 => cases h1; cases h2; exact callS_of Y (mX10_in hl) wl_RX10_109 wt_X10_in wi_RX10 wc_X10_in (by decide +kernel) ⟨by decide, by decide⟩
  | 3, h1, h2 => cases h1; cases h2; exact callV_of Y (mX10_unitsIn hl) wl_RX10_253 wn_X10_unitsIn ws_X10_unitsIn wi_RX10 wc_X10_unitsIn (T := TX10) (N := _) rfl (by decide +kernel) ⟨by decide, by decide⟩
  | 4, h1, h2 => cases h1; cases h2; exact callV_of Y (mX10_remembers hl) wl_RX10_165 wn_X10_remembers ws_X10_remembers wi_RX10 wc_X10_remembers (T := TX10) (N := _) rfl (by decide +kernel) ⟨by decide, by decide⟩
  | 5, h1, h2 => cases h1; cases h2; exact callS_of Y (mX10_layerAt hl) wl_RX10_227 wt_X10_layerAt wi_RX10 wc_X10_layerAt (by decide +kernel) ⟨by decide, by decide⟩
  | 6, h1, h2 => cases h1; cases h2; exact callS_of Y (mX10_less hl) wl_RX10_105 wt_X10_less wi_RX10 wc_X10_less (by decide +kernel) ⟨by decide, by decide⟩
  | 7, h1, h2 => cases h1; cases h2; exact callS_of Y (mX10_cut hl) wl_RX10_207 wt_X10_cut wi_RX10 wc_X10_cut (by decide +kernel) ⟨by decide, by decide⟩
  | 8, h1, h2 => cases h1; cases h2; exact callS_of Y (mX10_storeAt hl) wl_RX10_218 wt_X10_storeAt wi_RX10 wc_X10_storeAt (by decide +kernel) ⟨by decide, by decide⟩
  | k + 9, h1, _ => simp at h1
def kX10_told : List (Nat × Nat × SP) := [(3, 0, sX10_in), (4, 0, vsp 10 sX10_bad)]
def sX10_told : SP := RUN pX10_told kX10_told hd0 [] 2 (some .int) 0
theorem mX10_told {l : Launch} {b : Nat} {D : va_G} {cA sa adV : Nat → Nat} (hl : l.stackTraces = false) : Cn l b D cA sa adV yX10_told cX10_told 2 (some .int) 1 25 0 sX10_told := by
  refine Cn_of (calls := kX10_told) (by decide +kernel) oX10_told (hC_of (cidx := [(1, 109), (0, 155)]) (by decide +kernel) (fun p e s m args below meth c Q Y k kd x na mc tr h1 h2 => ?_)) (hT_no) (hL_of (by decide +kernel)) (fun _ _ => rfl) (fun _ _ _ _ h => h)
  match k, h1, h2 with
  | 0, h1, h2 => cases h1; cases h2; exact callS_of Y (mX10_in hl) wl_RX10_109 wt_X10_in wi_RX10 wc_X10_in (by decide +kernel) ⟨by decide, by decide⟩
  | 1, h1, h2 => cases h1; cases h2; exact callV_of Y (mX10_bad hl) wl_RX10_155 wn_X10_bad ws_X10_bad wi_RX10 wc_X10_bad (T := TX10) (N := _) rfl (by decide +kernel) ⟨by decide, by decide⟩
  | k + 2, h1, _ => simp at h1
def kX10_department : List (Nat × Nat × SP) := [(2, 0, vsp 10 sX10_isDept), (4, 0, vsp 10 sX10_bad), (3, 0, sX10_in), (3, 0, vsp 10 sX10_of), (2, 0, sX10_coming)]
def sX10_department : SP := RUN pX10_department kX10_department hd0 [] 3 (some .int) 0
theorem mX10_department {l : Launch} {b : Nat} {D : va_G} {cA sa adV : Nat → Nat} (hl : l.stackTraces = false) : Cn l b D cA sa adV yX10_department cX10_department 3 (some .int) 2 46 0 sX10_department := by
  refine Cn_of (calls := kX10_department) (by decide +kernel) oX10_department (hC_of (cidx := [(0, 183), (0, 155), (1, 109), (0, 177), (1, 192)]) (by decide +kernel) (fun p e s m args below meth c Q Y k kd x na mc tr h1 h2 => ?_)) (hT_no) (hL_of (by decide +kernel)) (fun _ _ => rfl) (fun _ _ _ _ h => h)
  match k, h1, h2 with
  | 0, h1, h2 => cases h1; cases h2; exact callV_of Y (mX10_isDept hl) wl_RX10_183 wn_X10_isDept ws_X10_isDept wi_RX10 wc_X10_isDept (T := TX10) (N := _) rfl (by decide +kernel) ⟨by decide, by decide⟩
  | 1, h1, h2 => cases h1; cases h2; exact callV_of Y (mX10_bad hl) wl_RX10_155 wn_X10_bad ws_X10_bad wi_RX10 wc_X10_bad (T := TX10) (N := _) rfl (by decide +kernel) ⟨by decide, by decide⟩
  | 2, h1, h2 => cases h1; cases h2; exact callS_of Y (mX10_in hl) wl_RX10_109 wt_X10_in wi_RX10 wc_X10_in (by decide +kernel) ⟨by decide, by decide⟩
  | 3, h1, h2 => cases h1; cases h2; exact callV_of Y (mX10_of hl) wl_RX10_177 wn_X10_of ws_X10_of wi_RX10 wc_X10_of (T := TX10) (N := _) rfl (by decide +kernel) ⟨by decide, by decide⟩
  | 4, h1, h2 => cases h1; cases h2; exact callS_of Y (mX10_coming hl) wl_RX10_192 wt_X10_coming wi_RX10 wc_X10_coming (by decide +kernel) ⟨by decide, by decide⟩
  | k + 5, h1, _ => simp at h1
def kX10_product : List (Nat × Nat × SP) := [(2, 0, vsp 10 sX10_isProduct), (4, 0, vsp 10 sX10_bad), (3, 0, sX10_in), (3, 0, sX10_share)]
def sX10_product : SP := RUN pX10_product kX10_product hd0 [] 3 (some .int) 0
theorem mX10_product {l : Launch} {b : Nat} {D : va_G} {cA sa adV : Nat → Nat} (hl : l.stackTraces = false) : Cn l b D cA sa adV yX10_product cX10_product 3 (some .int) 2 46 0 sX10_product := by
  refine Cn_of (calls := kX10_product) (by decide +kernel) oX10_product (hC_of (cidx := [(0, 250), (0, 155), (1, 109), (1, 221)]) (by decide +kernel) (fun p e s m args below meth c Q Y k kd x na mc tr h1 h2 => ?_)) (hT_no) (hL_of (by decide +kernel)) (fun _ _ => rfl) (fun _ _ _ _ h => h)
  match k, h1, h2 with
  | 0, h1, h2 => cases h1; cases h2; exact callV_of Y (mX10_isProduct hl) wl_RX10_250 wn_X10_isProduct ws_X10_isProduct wi_RX10 wc_X10_isProduct (T := TX10) (N := _) rfl (by decide +kernel) ⟨by decide, by decide⟩
  | 1, h1, h2 => cases h1; cases h2; exact callV_of Y (mX10_bad hl) wl_RX10_155 wn_X10_bad ws_X10_bad wi_RX10 wc_X10_bad (T := TX10) (N := _) rfl (by decide +kernel) ⟨by decide, by decide⟩
  | 2, h1, h2 => cases h1; cases h2; exact callS_of Y (mX10_in hl) wl_RX10_109 wt_X10_in wi_RX10 wc_X10_in (by decide +kernel) ⟨by decide, by decide⟩
  | 3, h1, h2 => cases h1; cases h2; exact callS_of Y (mX10_share hl) wl_RX10_221 wt_X10_share wi_RX10 wc_X10_share (by decide +kernel) ⟨by decide, by decide⟩
  | k + 4, h1, _ => simp at h1
def kX10_work : List (Nat × Nat × SP) := [(2, 0, vsp 10 sX10_isDept), (4, 0, vsp 10 sX10_bad), (3, 0, sX10_in), (2, 0, sX10_working)]
def sX10_work : SP := RUN pX10_work kX10_work hd0 [] 3 (some .long) 0
theorem mX10_work {l : Launch} {b : Nat} {D : va_G} {cA sa adV : Nat → Nat} (hl : l.stackTraces = false) : Cn l b D cA sa adV yX10_work cX10_work 3 (some .long) 2 46 0 sX10_work := by
  refine Cn_of (calls := kX10_work) (by decide +kernel) oX10_work (hC_of (cidx := [(0, 183), (0, 155), (1, 109), (1, 215)]) (by decide +kernel) (fun p e s m args below meth c Q Y k kd x na mc tr h1 h2 => ?_)) (hT_no) (hL_of (by decide +kernel)) (fun _ _ => rfl) (fun _ _ _ _ h => h)
  match k, h1, h2 with
  | 0, h1, h2 => cases h1; cases h2; exact callV_of Y (mX10_isDept hl) wl_RX10_183 wn_X10_isDept ws_X10_isDept wi_RX10 wc_X10_isDept (T := TX10) (N := _) rfl (by decide +kernel) ⟨by decide, by decide⟩
  | 1, h1, h2 => cases h1; cases h2; exact callV_of Y (mX10_bad hl) wl_RX10_155 wn_X10_bad ws_X10_bad wi_RX10 wc_X10_bad (T := TX10) (N := _) rfl (by decide +kernel) ⟨by decide, by decide⟩
  | 2, h1, h2 => cases h1; cases h2; exact callS_of Y (mX10_in hl) wl_RX10_109 wt_X10_in wi_RX10 wc_X10_in (by decide +kernel) ⟨by decide, by decide⟩
  | 3, h1, h2 => cases h1; cases h2; exact callS_of Y (mX10_working hl) wl_RX10_215 wt_X10_working wi_RX10 wc_X10_working (by decide +kernel) ⟨by decide, by decide⟩
  | k + 4, h1, _ => simp at h1
def kX10_units : List (Nat × Nat × SP) := [(2, 0, vsp 10 sX10_isDept), (4, 0, vsp 10 sX10_bad), (3, 0, sX10_in), (2, 0, sX10_latest)]
def sX10_units : SP := RUN pX10_units kX10_units hd0 [] 3 (some .int) 0
theorem mX10_units {l : Launch} {b : Nat} {D : va_G} {cA sa adV : Nat → Nat} (hl : l.stackTraces = false) : Cn l b D cA sa adV yX10_units cX10_units 3 (some .int) 2 46 0 sX10_units := by
  refine Cn_of (calls := kX10_units) (by decide +kernel) oX10_units (hC_of (cidx := [(0, 183), (0, 155), (1, 109), (1, 197)]) (by decide +kernel) (fun p e s m args below meth c Q Y k kd x na mc tr h1 h2 => ?_)) (hT_no) (hL_of (by decide +kernel)) (fun _ _ => rfl) (fun _ _ _ _ h => h)
  match k, h1, h2 with
  | 0, h1, h2 => cases h1; cases h2; exact callV_of Y (mX10_isDept hl) wl_RX10_183 wn_X10_isDept ws_X10_isDept wi_RX10 wc_X10_isDept (T := TX10) (N := _) rfl (by decide +kernel) ⟨by decide, by decide⟩
  | 1, h1, h2 => cases h1; cases h2; exact callV_of Y (mX10_bad hl) wl_RX10_155 wn_X10_bad ws_X10_bad wi_RX10 wc_X10_bad (T := TX10) (N := _) rfl (by decide +kernel) ⟨by decide, by decide⟩
  | 2, h1, h2 => cases h1; cases h2; exact callS_of Y (mX10_in hl) wl_RX10_109 wt_X10_in wi_RX10 wc_X10_in (by decide +kernel) ⟨by decide, by decide⟩
  | 3, h1, h2 => cases h1; cases h2; exact callS_of Y (mX10_latest hl) wl_RX10_197 wt_X10_latest wi_RX10 wc_X10_latest (by decide +kernel) ⟨by decide, by decide⟩
  | k + 4, h1, _ => simp at h1
def kX10_asDone : List (Nat × Nat × SP) := [(2, 0, vsp 10 sX10_isDept), (4, 0, vsp 10 sX10_isKind), (4, 0, vsp 10 sX10_bad), (3, 0, sX10_in), (2, 0, sX10_latest)]
def sX10_asDone : SP := RUN pX10_asDone kX10_asDone hd0 [] 4 (some .int) 0
theorem mX10_asDone {l : Launch} {b : Nat} {D : va_G} {cA sa adV : Nat → Nat} (hl : l.stackTraces = false) : Cn l b D cA sa adV yX10_asDone cX10_asDone 4 (some .int) 2 48 0 sX10_asDone := by
  refine Cn_of (calls := kX10_asDone) (by decide +kernel) oX10_asDone (hC_of (cidx := [(0, 183), (0, 186), (0, 155), (1, 109), (1, 197)]) (by decide +kernel) (fun p e s m args below meth c Q Y k kd x na mc tr h1 h2 => ?_)) (hT_no) (hL_of (by decide +kernel)) (fun _ _ => rfl) (fun _ _ _ _ h => h)
  match k, h1, h2 with
  | 0, h1, h2 => cases h1; cases h2; exact callV_of Y (mX10_isDept hl) wl_RX10_183 wn_X10_isDept ws_X10_isDept wi_RX10 wc_X10_isDept (T := TX10) (N := _) rfl (by decide +kernel) ⟨by decide, by decide⟩
  | 1, h1, h2 => cases h1; cases h2; exact callV_of Y (mX10_isKind hl) wl_RX10_186 wn_X10_isKind ws_X10_isKind wi_RX10 wc_X10_isKind (T := TX10) (N := _) rfl (by decide +kernel) ⟨by decide, by decide⟩
  | 2, h1, h2 => cases h1; cases h2; exact callV_of Y (mX10_bad hl) wl_RX10_155 wn_X10_bad ws_X10_bad wi_RX10 wc_X10_bad (T := TX10) (N := _) rfl (by decide +kernel) ⟨by decide, by decide⟩
  | 3, h1, h2 => cases h1; cases h2; exact callS_of Y (mX10_in hl) wl_RX10_109 wt_X10_in wi_RX10 wc_X10_in (by decide +kernel) ⟨by decide, by decide⟩
  | 4, h1, h2 => cases h1; cases h2; exact callS_of Y (mX10_latest hl) wl_RX10_197 wt_X10_latest wi_RX10 wc_X10_latest (by decide +kernel) ⟨by decide, by decide⟩
  | k + 5, h1, _ => simp at h1
def kX10_cents : List (Nat × Nat × SP) := [(2, 0, vsp 10 sX10_isDept), (4, 0, vsp 10 sX10_isKind), (4, 0, vsp 10 sX10_bad), (3, 0, sX10_in), (2, 0, sX10_latest)]
def sX10_cents : SP := RUN pX10_cents kX10_cents hd0 [] 4 (some .long) 0
theorem mX10_cents {l : Launch} {b : Nat} {D : va_G} {cA sa adV : Nat → Nat} (hl : l.stackTraces = false) : Cn l b D cA sa adV yX10_cents cX10_cents 4 (some .long) 2 48 0 sX10_cents := by
  refine Cn_of (calls := kX10_cents) (by decide +kernel) oX10_cents (hC_of (cidx := [(0, 183), (0, 186), (0, 155), (1, 109), (1, 197)]) (by decide +kernel) (fun p e s m args below meth c Q Y k kd x na mc tr h1 h2 => ?_)) (hT_no) (hL_of (by decide +kernel)) (fun _ _ => rfl) (fun _ _ _ _ h => h)
  match k, h1, h2 with
  | 0, h1, h2 => cases h1; cases h2; exact callV_of Y (mX10_isDept hl) wl_RX10_183 wn_X10_isDept ws_X10_isDept wi_RX10 wc_X10_isDept (T := TX10) (N := _) rfl (by decide +kernel) ⟨by decide, by decide⟩
  | 1, h1, h2 => cases h1; cases h2; exact callV_of Y (mX10_isKind hl) wl_RX10_186 wn_X10_isKind ws_X10_isKind wi_RX10 wc_X10_isKind (T := TX10) (N := _) rfl (by decide +kernel) ⟨by decide, by decide⟩
  | 2, h1, h2 => cases h1; cases h2; exact callV_of Y (mX10_bad hl) wl_RX10_155 wn_X10_bad ws_X10_bad wi_RX10 wc_X10_bad (T := TX10) (N := _) rfl (by decide +kernel) ⟨by decide, by decide⟩
  | 3, h1, h2 => cases h1; cases h2; exact callS_of Y (mX10_in hl) wl_RX10_109 wt_X10_in wi_RX10 wc_X10_in (by decide +kernel) ⟨by decide, by decide⟩
  | 4, h1, h2 => cases h1; cases h2; exact callS_of Y (mX10_latest hl) wl_RX10_197 wt_X10_latest wi_RX10 wc_X10_latest (by decide +kernel) ⟨by decide, by decide⟩
  | k + 5, h1, _ => simp at h1
def kX10_loss : List (Nat × Nat × SP) := [(2, 0, vsp 10 sX10_isDept), (4, 0, vsp 10 sX10_bad), (3, 0, sX10_in), (2, 0, sX10_latest)]
def sX10_loss : SP := RUN pX10_loss kX10_loss hd0 [] 3 (some .long) 0
theorem mX10_loss {l : Launch} {b : Nat} {D : va_G} {cA sa adV : Nat → Nat} (hl : l.stackTraces = false) : Cn l b D cA sa adV yX10_loss cX10_loss 3 (some .long) 2 46 0 sX10_loss := by
  refine Cn_of (calls := kX10_loss) (by decide +kernel) oX10_loss (hC_of (cidx := [(0, 183), (0, 155), (1, 109), (1, 197)]) (by decide +kernel) (fun p e s m args below meth c Q Y k kd x na mc tr h1 h2 => ?_)) (hT_no) (hL_of (by decide +kernel)) (fun _ _ => rfl) (fun _ _ _ _ h => h)
  match k, h1, h2 with
  | 0, h1, h2 => cases h1; cases h2; exact callV_of Y (mX10_isDept hl) wl_RX10_183 wn_X10_isDept ws_X10_isDept wi_RX10 wc_X10_isDept (T := TX10) (N := _) rfl (by decide +kernel) ⟨by decide, by decide⟩
  | 1, h1, h2 => cases h1; cases h2; exact callV_of Y (mX10_bad hl) wl_RX10_155 wn_X10_bad ws_X10_bad wi_RX10 wc_X10_bad (T := TX10) (N := _) rfl (by decide +kernel) ⟨by decide, by decide⟩
  | 2, h1, h2 => cases h1; cases h2; exact callS_of Y (mX10_in hl) wl_RX10_109 wt_X10_in wi_RX10 wc_X10_in (by decide +kernel) ⟨by decide, by decide⟩
  | 3, h1, h2 => cases h1; cases h2; exact callS_of Y (mX10_latest hl) wl_RX10_197 wt_X10_latest wi_RX10 wc_X10_latest (by decide +kernel) ⟨by decide, by decide⟩
  | k + 4, h1, _ => simp at h1
def kX10_other : List (Nat × Nat × SP) := [(2, 0, vsp 10 sX10_isDept), (4, 0, vsp 10 sX10_bad), (2, 0, sX10_copies), (3, 0, vsp 10 sX10_of), (3, 0, sX10_counts), (2, 0, sX10_latest)]
def sX10_other : SP := RUN pX10_other kX10_other hd0 [] 2 (some .long) 0
theorem mX10_other {l : Launch} {b : Nat} {D : va_G} {cA sa adV : Nat → Nat} (hl : l.stackTraces = false) : Cn l b D cA sa adV yX10_other cX10_other 2 (some .long) 3 136 0 sX10_other := by
  refine Cn_of (calls := kX10_other) (by decide +kernel) oX10_other (hC_of (cidx := [(0, 183), (0, 155), (1, 168), (0, 177), (1, 235), (1, 197)]) (by decide +kernel) (fun p e s m args below meth c Q Y k kd x na mc tr h1 h2 => ?_)) (hT_no) (hL_of (by decide +kernel)) (fun _ _ => rfl) (fun _ _ _ _ h => h)
  match k, h1, h2 with
  | 0, h1, h2 => cases h1; cases h2; exact callV_of Y (mX10_isDept hl) wl_RX10_183 wn_X10_isDept ws_X10_isDept wi_RX10 wc_X10_isDept (T := TX10) (N := _) rfl (by decide +kernel) ⟨by decide, by decide⟩
  | 1, h1, h2 => cases h1; cases h2; exact callV_of Y (mX10_bad hl) wl_RX10_155 wn_X10_bad ws_X10_bad wi_RX10 wc_X10_bad (T := TX10) (N := _) rfl (by decide +kernel) ⟨by decide, by decide⟩
  | 2, h1, h2 => cases h1; cases h2; exact callS_of Y (mX10_copies hl) wl_RX10_168 wt_X10_copies wi_RX10 wc_X10_copies (by decide +kernel) ⟨by decide, by decide⟩
  | 3, h1, h2 => cases h1; cases h2; exact callV_of Y (mX10_of hl) wl_RX10_177 wn_X10_of ws_X10_of wi_RX10 wc_X10_of (T := TX10) (N := _) rfl (by decide +kernel) ⟨by decide, by decide⟩
  | 4, h1, h2 => cases h1; cases h2; exact callS_of Y (mX10_counts hl) wl_RX10_235 wt_X10_counts wi_RX10 wc_X10_counts (by decide +kernel) ⟨by decide, by decide⟩
  | 5, h1, h2 => cases h1; cases h2; exact callS_of Y (mX10_latest hl) wl_RX10_197 wt_X10_latest wi_RX10 wc_X10_latest (by decide +kernel) ⟨by decide, by decide⟩
  | k + 6, h1, _ => simp at h1
def kX10_parted : List (Nat × Nat × SP) := [(2, 0, vsp 10 sX10_isProduct), (4, 0, vsp 10 sX10_bad), (3, 0, sX10_in)]
def sX10_parted : SP := RUN pX10_parted kX10_parted hd0 [] 3 (some .long) 0
theorem mX10_parted {l : Launch} {b : Nat} {D : va_G} {cA sa adV : Nat → Nat} (hl : l.stackTraces = false) : Cn l b D cA sa adV yX10_parted cX10_parted 3 (some .long) 2 46 0 sX10_parted := by
  refine Cn_of (calls := kX10_parted) (by decide +kernel) oX10_parted (hC_of (cidx := [(0, 250), (0, 155), (1, 109)]) (by decide +kernel) (fun p e s m args below meth c Q Y k kd x na mc tr h1 h2 => ?_)) (hT_no) (hL_of (by decide +kernel)) (fun _ _ => rfl) (fun _ _ _ _ h => h)
  match k, h1, h2 with
  | 0, h1, h2 => cases h1; cases h2; exact callV_of Y (mX10_isProduct hl) wl_RX10_250 wn_X10_isProduct ws_X10_isProduct wi_RX10 wc_X10_isProduct (T := TX10) (N := _) rfl (by decide +kernel) ⟨by decide, by decide⟩
  | 1, h1, h2 => cases h1; cases h2; exact callV_of Y (mX10_bad hl) wl_RX10_155 wn_X10_bad ws_X10_bad wi_RX10 wc_X10_bad (T := TX10) (N := _) rfl (by decide +kernel) ⟨by decide, by decide⟩
  | 2, h1, h2 => cases h1; cases h2; exact callS_of Y (mX10_in hl) wl_RX10_109 wt_X10_in wi_RX10 wc_X10_in (by decide +kernel) ⟨by decide, by decide⟩
  | k + 3, h1, _ => simp at h1
def kX10_store : List (Nat × Nat × SP) := [(2, 0, vsp 10 sX10_isProduct), (4, 0, vsp 10 sX10_bad), (3, 0, sX10_in), (1, 0, sX10_storeAt), (3, 0, vsp 10 sX10_unitsIn)]
def sX10_store : SP := RUN pX10_store kX10_store hd0 [] 3 (some .long) 0
theorem mX10_store {l : Launch} {b : Nat} {D : va_G} {cA sa adV : Nat → Nat} (hl : l.stackTraces = false) : Cn l b D cA sa adV yX10_store cX10_store 3 (some .long) 3 67 0 sX10_store := by
  refine Cn_of (calls := kX10_store) (by decide +kernel) oX10_store (hC_of (cidx := [(0, 250), (0, 155), (1, 109), (1, 218), (0, 253)]) (by decide +kernel) (fun p e s m args below meth c Q Y k kd x na mc tr h1 h2 => ?_)) (hT_no) (hL_of (by decide +kernel)) (fun _ _ => rfl) (fun _ _ _ _ h => h)
  match k, h1, h2 with
  | 0, h1, h2 => cases h1; cases h2; exact callV_of Y (mX10_isProduct hl) wl_RX10_250 wn_X10_isProduct ws_X10_isProduct wi_RX10 wc_X10_isProduct (T := TX10) (N := _) rfl (by decide +kernel) ⟨by decide, by decide⟩
  | 1, h1, h2 => cases h1; cases h2; exact callV_of Y (mX10_bad hl) wl_RX10_155 wn_X10_bad ws_X10_bad wi_RX10 wc_X10_bad (T := TX10) (N := _) rfl (by decide +kernel) ⟨by decide, by decide⟩
  | 2, h1, h2 => cases h1; cases h2; exact callS_of Y (mX10_in hl) wl_RX10_109 wt_X10_in wi_RX10 wc_X10_in (by decide +kernel) ⟨by decide, by decide⟩
  | 3, h1, h2 => cases h1; cases h2; exact callS_of Y (mX10_storeAt hl) wl_RX10_218 wt_X10_storeAt wi_RX10 wc_X10_storeAt (by decide +kernel) ⟨by decide, by decide⟩
  | 4, h1, h2 => cases h1; cases h2; exact callV_of Y (mX10_unitsIn hl) wl_RX10_253 wn_X10_unitsIn ws_X10_unitsIn wi_RX10 wc_X10_unitsIn (T := TX10) (N := _) rfl (by decide +kernel) ⟨by decide, by decide⟩
  | k + 5, h1, _ => simp at h1
def kX10_layer : List (Nat × Nat × SP) := [(2, 0, vsp 10 sX10_isProduct), (1, 0, sX10_storeAt), (3, 0, sX10_in), (4, 0, vsp 10 sX10_bad), (2, 0, sX10_layerAt)]
def sX10_layer : SP := RUN pX10_layer kX10_layer hd0 [] 4 (some .long) 0
theorem mX10_layer {l : Launch} {b : Nat} {D : va_G} {cA sa adV : Nat → Nat} (hl : l.stackTraces = false) : Cn l b D cA sa adV yX10_layer cX10_layer 4 (some .long) 2 46 0 sX10_layer := by
  refine Cn_of (calls := kX10_layer) (by decide +kernel) oX10_layer (hC_of (cidx := [(0, 250), (1, 218), (1, 109), (0, 155), (1, 227)]) (by decide +kernel) (fun p e s m args below meth c Q Y k kd x na mc tr h1 h2 => ?_)) (hT_no) (hL_of (by decide +kernel)) (fun _ _ => rfl) (fun _ _ _ _ h => h)
  match k, h1, h2 with
  | 0, h1, h2 => cases h1; cases h2; exact callV_of Y (mX10_isProduct hl) wl_RX10_250 wn_X10_isProduct ws_X10_isProduct wi_RX10 wc_X10_isProduct (T := TX10) (N := _) rfl (by decide +kernel) ⟨by decide, by decide⟩
  | 1, h1, h2 => cases h1; cases h2; exact callS_of Y (mX10_storeAt hl) wl_RX10_218 wt_X10_storeAt wi_RX10 wc_X10_storeAt (by decide +kernel) ⟨by decide, by decide⟩
  | 2, h1, h2 => cases h1; cases h2; exact callS_of Y (mX10_in hl) wl_RX10_109 wt_X10_in wi_RX10 wc_X10_in (by decide +kernel) ⟨by decide, by decide⟩
  | 3, h1, h2 => cases h1; cases h2; exact callV_of Y (mX10_bad hl) wl_RX10_155 wn_X10_bad ws_X10_bad wi_RX10 wc_X10_bad (T := TX10) (N := _) rfl (by decide +kernel) ⟨by decide, by decide⟩
  | 4, h1, h2 => cases h1; cases h2; exact callS_of Y (mX10_layerAt hl) wl_RX10_227 wt_X10_layerAt wi_RX10 wc_X10_layerAt (by decide +kernel) ⟨by decide, by decide⟩
  | k + 5, h1, _ => simp at h1
def kX10_account : List (Nat × Nat × SP) := [(3, 0, sX10_in), (4, 0, vsp 10 sX10_bad), (2, 0, sX10_working), (3, 0, vsp 10 sX10_unitsIn)]
def sX10_account : SP := RUN pX10_account kX10_account hd0 [] 6 (some .long) 0
theorem mX10_account {l : Launch} {b : Nat} {D : va_G} {cA sa adV : Nat → Nat} (hl : l.stackTraces = false) : Cn l b D cA sa adV yX10_account cX10_account 6 (some .long) 3 67 0 sX10_account := by
  refine Cn_of (calls := kX10_account) (by decide +kernel) oX10_account (hC_of (cidx := [(1, 109), (0, 155), (1, 215), (0, 253)]) (by decide +kernel) (fun p e s m args below meth c Q Y k kd x na mc tr h1 h2 => ?_)) (hT_no) (hL_of (by decide +kernel)) (fun _ _ => rfl) (fun _ _ _ _ h => h)
  match k, h1, h2 with
  | 0, h1, h2 => cases h1; cases h2; exact callS_of Y (mX10_in hl) wl_RX10_109 wt_X10_in wi_RX10 wc_X10_in (by decide +kernel) ⟨by decide, by decide⟩
  | 1, h1, h2 => cases h1; cases h2; exact callV_of Y (mX10_bad hl) wl_RX10_155 wn_X10_bad ws_X10_bad wi_RX10 wc_X10_bad (T := TX10) (N := _) rfl (by decide +kernel) ⟨by decide, by decide⟩
  | 2, h1, h2 => cases h1; cases h2; exact callS_of Y (mX10_working hl) wl_RX10_215 wt_X10_working wi_RX10 wc_X10_working (by decide +kernel) ⟨by decide, by decide⟩
  | 3, h1, h2 => cases h1; cases h2; exact callV_of Y (mX10_unitsIn hl) wl_RX10_253 wn_X10_unitsIn ws_X10_unitsIn wi_RX10 wc_X10_unitsIn (T := TX10) (N := _) rfl (by decide +kernel) ⟨by decide, by decide⟩
  | k + 4, h1, _ => simp at h1
def kX10_lostOf : List (Nat × Nat × SP) := [(3, 0, vsp 10 sX10_of)]
def sX10_lostOf : SP := RUN pX10_lostOf kX10_lostOf hd0 [] 2 (some .long) 0
theorem mX10_lostOf {l : Launch} {b : Nat} {D : va_G} {cA sa adV : Nat → Nat} (hl : l.stackTraces = false) : Cn l b D cA sa adV yX10_lostOf cX10_lostOf 2 (some .long) 1 22 0 sX10_lostOf := by
  refine Cn_of (calls := kX10_lostOf) (by decide +kernel) oX10_lostOf (hC_of (cidx := [(0, 177)]) (by decide +kernel) (fun p e s m args below meth c Q Y k kd x na mc tr h1 h2 => ?_)) (hT_no) (hL_of (by decide +kernel)) (fun _ _ => rfl) (fun _ _ _ _ h => h)
  match k, h1, h2 with
  | 0, h1, h2 => cases h1; cases h2; exact callV_of Y (mX10_of hl) wl_RX10_177 wn_X10_of ws_X10_of wi_RX10 wc_X10_of (T := TX10) (N := _) rfl (by decide +kernel) ⟨by decide, by decide⟩
  | k + 1, h1, _ => simp at h1
def kX10_passes : List (Nat × Nat × SP) := [(2, 0, vsp 10 sX10_lostOf)]
def sX10_passes : SP := RUN pX10_passes kX10_passes hd0 [] 2 (some .long) 0
theorem mX10_passes {l : Launch} {b : Nat} {D : va_G} {cA sa adV : Nat → Nat} (hl : l.stackTraces = false) : Cn l b D cA sa adV yX10_passes cX10_passes 2 (some .long) 2 43 0 sX10_passes := by
  refine Cn_of (calls := kX10_passes) (by decide +kernel) oX10_passes (hC_of (cidx := [(0, 264)]) (by decide +kernel) (fun p e s m args below meth c Q Y k kd x na mc tr h1 h2 => ?_)) (hT_no) (hL_of (by decide +kernel)) (fun _ _ => rfl) (fun _ _ _ _ h => h)
  match k, h1, h2 with
  | 0, h1, h2 => cases h1; cases h2; exact callV_of Y (mX10_lostOf hl) wl_RX10_264 wn_X10_lostOf ws_X10_lostOf wi_RX10 wc_X10_lostOf (T := TX10) (N := _) rfl (by decide +kernel) ⟨by decide, by decide⟩
  | k + 1, h1, _ => simp at h1
def kX10_goesRound : List (Nat × Nat × SP) := [(2, 0, vsp 10 sX10_passes), (3, 0, vsp 10 sX10_of), (2, 0, vsp 10 sX10_lostOf)]
def sX10_goesRound : SP := RUN pX10_goesRound kX10_goesRound hd0 [] 5 (some .boolean) 0
theorem mX10_goesRound {l : Launch} {b : Nat} {D : va_G} {cA sa adV : Nat → Nat} (hl : l.stackTraces = false) : Cn l b D cA sa adV yX10_goesRound cX10_goesRound 5 (some .boolean) 3 64 0 sX10_goesRound := by
  refine Cn_of (calls := kX10_goesRound) (by decide +kernel) oX10_goesRound (hC_of (cidx := [(0, 270), (0, 177), (0, 264)]) (by decide +kernel) (fun p e s m args below meth c Q Y k kd x na mc tr h1 h2 => ?_)) (hT_no) (hL_of (by decide +kernel)) (fun _ _ => rfl) (fun _ _ _ _ h => h)
  match k, h1, h2 with
  | 0, h1, h2 => cases h1; cases h2; exact callV_of Y (mX10_passes hl) wl_RX10_270 wn_X10_passes ws_X10_passes wi_RX10 wc_X10_passes (T := TX10) (N := _) rfl (by decide +kernel) ⟨by decide, by decide⟩
  | 1, h1, h2 => cases h1; cases h2; exact callV_of Y (mX10_of hl) wl_RX10_177 wn_X10_of ws_X10_of wi_RX10 wc_X10_of (T := TX10) (N := _) rfl (by decide +kernel) ⟨by decide, by decide⟩
  | 2, h1, h2 => cases h1; cases h2; exact callV_of Y (mX10_lostOf hl) wl_RX10_264 wn_X10_lostOf ws_X10_lostOf wi_RX10 wc_X10_lostOf (T := TX10) (N := _) rfl (by decide +kernel) ⟨by decide, by decide⟩
  | k + 3, h1, _ => simp at h1
def kX10_plan : List (Nat × Nat × SP) := [(3, 0, sX10_in), (4, 0, vsp 10 sX10_bad), (2, 0, vsp 10 sX10_goesRound), (2, 0, vsp 10 sX10_passes)]
def sX10_plan : SP := RUN pX10_plan kX10_plan hd0 [] 4 (some .long) 0
theorem mX10_plan {l : Launch} {b : Nat} {D : va_G} {cA sa adV : Nat → Nat} (hl : l.stackTraces = false) : Cn l b D cA sa adV yX10_plan cX10_plan 4 (some .long) 4 88 0 sX10_plan := by
  refine Cn_of (calls := kX10_plan) (by decide +kernel) oX10_plan (hC_of (cidx := [(1, 109), (0, 155), (0, 273), (0, 270)]) (by decide +kernel) (fun p e s m args below meth c Q Y k kd x na mc tr h1 h2 => ?_)) (hT_no) (hL_of (by decide +kernel)) (fun _ _ => rfl) (fun _ _ _ _ h => h)
  match k, h1, h2 with
  | 0, h1, h2 => cases h1; cases h2; exact callS_of Y (mX10_in hl) wl_RX10_109 wt_X10_in wi_RX10 wc_X10_in (by decide +kernel) ⟨by decide, by decide⟩
  | 1, h1, h2 => cases h1; cases h2; exact callV_of Y (mX10_bad hl) wl_RX10_155 wn_X10_bad ws_X10_bad wi_RX10 wc_X10_bad (T := TX10) (N := _) rfl (by decide +kernel) ⟨by decide, by decide⟩
  | 2, h1, h2 => cases h1; cases h2; exact callV_of Y (mX10_goesRound hl) wl_RX10_273 wn_X10_goesRound ws_X10_goesRound wi_RX10 wc_X10_goesRound (T := TX10) (N := _) rfl (by decide +kernel) ⟨by decide, by decide⟩
  | 3, h1, h2 => cases h1; cases h2; exact callV_of Y (mX10_passes hl) wl_RX10_270 wn_X10_passes ws_X10_passes wi_RX10 wc_X10_passes (T := TX10) (N := _) rfl (by decide +kernel) ⟨by decide, by decide⟩
  | k + 4, h1, _ => simp at h1
def kX10_print : List (Nat × Nat × SP) := [(2, 0, sX10_working), (3, 0, vsp 10 sX10_unitsIn)]
def sX10_print : SP := RUN pX10_print kX10_print hd0 [] 7 (some .long) 0
theorem mX10_print {l : Launch} {b : Nat} {D : va_G} {cA sa adV : Nat → Nat} (hl : l.stackTraces = false) : Cn l b D cA sa adV yX10_print cX10_print 7 (some .long) 3 67 0 sX10_print := by
  refine Cn_of (calls := kX10_print) (by decide +kernel) oX10_print (hC_of (cidx := [(1, 215), (0, 253)]) (by decide +kernel) (fun p e s m args below meth c Q Y k kd x na mc tr h1 h2 => ?_)) (hT_no) (hL_of (by decide +kernel)) (fun _ _ => rfl) (fun _ _ _ _ h => h)
  match k, h1, h2 with
  | 0, h1, h2 => cases h1; cases h2; exact callS_of Y (mX10_working hl) wl_RX10_215 wt_X10_working wi_RX10 wc_X10_working (by decide +kernel) ⟨by decide, by decide⟩
  | 1, h1, h2 => cases h1; cases h2; exact callV_of Y (mX10_unitsIn hl) wl_RX10_253 wn_X10_unitsIn ws_X10_unitsIn wi_RX10 wc_X10_unitsIn (T := TX10) (N := _) rfl (by decide +kernel) ⟨by decide, by decide⟩
  | k + 2, h1, _ => simp at h1
def kX10_status : List (Nat × Nat × SP) := [(3, 0, sX10_in)]
def sX10_status : SP := RUN pX10_status kX10_status hd0 [] 2 (some .int) 0
theorem mX10_status {l : Launch} {b : Nat} {D : va_G} {cA sa adV : Nat → Nat} (hl : l.stackTraces = false) : Cn l b D cA sa adV yX10_status cX10_status 2 (some .int) 1 25 0 sX10_status := by
  refine Cn_of (calls := kX10_status) (by decide +kernel) oX10_status (hC_of (cidx := [(1, 109)]) (by decide +kernel) (fun p e s m args below meth c Q Y k kd x na mc tr h1 h2 => ?_)) (hT_no) (hL_of (by decide +kernel)) (fun _ _ => rfl) (fun _ _ _ _ h => h)
  match k, h1, h2 with
  | 0, h1, h2 => cases h1; cases h2; exact callS_of Y (mX10_in hl) wl_RX10_109 wt_X10_in wi_RX10 wc_X10_in (by decide +kernel) ⟨by decide, by decide⟩
  | k + 1, h1, _ => simp at h1
