def kX5_turn (N : Nat) : List (Nat × Nat × SP) := [(2, 0, vsp N 0 (sX0_passingOf N)), (2, 0, vsp N 0 (sX0_backOf N)), (2, 0, vsp N 5 (sX5_takeFresh N))]
def sX5_turn (N : Nat) : SP := RUN N pX5_turn (kX5_turn N) hd0 [] 5 (some .boolean) 0
theorem mX5_turn {l : Launch} {N b : Nat} {D : va_G} {cA sa adV : Nat → Nat} (hl : l.stackTraces = false) : Cn l N b D cA sa adV yX5_turn cX5_turn 5 (some .boolean) 2 44 0 (sX5_turn N) := by
  refine Cn_of (calls := kX5_turn N) (by decide +kernel) oX5_turn (hC_of (cidx := [(0, 46), (0, 57), (0, 60)]) (by decide +kernel) (fun p e s m args below meth c Q Y k kd x na mc tr h1 h2 => ?_)) (hT_no) (hL_of (by decide +kernel)) (fun _ _ => rfl) (fun _ _ _ _ h => h)
  match k, h1, h2 with
  | 0, h1, h2 => cases h1; cases h2; exact callV_of Y (mX0_passingOf hl) wl_RX5_46 wn_X0_passingOf ws_X0_passingOf wi_RX0 wc_X0_passingOf (T := TX0) (N1 := _) rfl (by decide +kernel) ⟨by decide, by decide⟩
  | 1, h1, h2 => cases h1; cases h2; exact callV_of Y (mX0_backOf hl) wl_RX5_57 wn_X0_backOf ws_X0_backOf wi_RX0 wc_X0_backOf (T := TX0) (N1 := _) rfl (by decide +kernel) ⟨by decide, by decide⟩
  | 2, h1, h2 => cases h1; cases h2; exact callV_of Y (mX5_takeFresh hl) wl_RX5_60 wn_X5_takeFresh ws_X5_takeFresh wi_RX5 wc_X5_takeFresh (T := TX5) (N1 := _) rfl (by decide +kernel) ⟨by decide, by decide⟩
  | k + 3, h1, _ => simp at h1
def kX5_settle (N : Nat) : List (Nat × Nat × SP) := [(1, 0, nsp (sX9_clearAll N)), (3, 0, vsp N 5 (sX5_turn N))]
def sX5_settle (N : Nat) : SP := RUN N pX5_settle (kX5_settle N) hd0 [] 3 none 0
theorem mX5_settle {l : Launch} {N b : Nat} {D : va_G} {cA sa adV : Nat → Nat} (hl : l.stackTraces = false) : Cn l N b D cA sa adV yX5_settle cX5_settle 3 none 3 68 0 (sX5_settle N) := by
  refine Cn_of (calls := kX5_settle N) (by decide +kernel) oX5_settle (hC_of (cidx := [(1, 18), (0, 27)]) (by decide +kernel) (fun p e s m args below meth c Q Y k kd x na mc tr h1 h2 => ?_)) (hT_no) (hL_of (by decide +kernel)) (fun _ _ => rfl) (fun _ _ _ _ h => h)
  match k, h1, h2 with
  | 0, h1, h2 => cases h1; cases h2; exact callSN_of Y (mX9_clearAll hl) wl_RX5_18 wt_X9_clearAll wi_RX9 wc_X9_clearAll (by decide +kernel) ⟨by decide, by decide⟩
  | 1, h1, h2 => cases h1; cases h2; exact callV_of Y (mX5_turn hl) wl_RX5_27 wn_X5_turn ws_X5_turn wi_RX5 wc_X5_turn (T := TX5) (N1 := _) rfl (by decide +kernel) ⟨by decide, by decide⟩
  | k + 2, h1, _ => simp at h1
def kX5_passing (N : Nat) : List (Nat × Nat × SP) := [(2, 0, spMaxI), (2, 0, vsp N 0 (sX0_passingOf N))]
def sX5_passing (N : Nat) : SP := RUN N pX5_passing (kX5_passing N) hd0 [] 3 (some .long) 0
theorem mX5_passing {l : Launch} {N b : Nat} {D : va_G} {cA sa adV : Nat → Nat} (hl : l.stackTraces = false) : Cn l N b D cA sa adV yX5_passing cX5_passing 3 (some .long) 2 44 0 (sX5_passing N) := by
  refine Cn_of (calls := kX5_passing N) (by decide +kernel) oX5_passing (hC_of (cidx := [(1, 36), (0, 46)]) (by decide +kernel) (fun p e s m args below meth c Q Y k kd x na mc tr h1 h2 => ?_)) (hT_no) (hL_of (by decide +kernel)) (fun _ _ => rfl) (fun _ _ _ _ h => h)
  match k, h1, h2 with
  | 0, h1, h2 => cases h1; cases h2; exact callMaxI_of Y (wG_at (w := .methodLink RX5 36 Lib.Math.max.name) 1235 (by decide +kernel) rfl) ⟨by decide, by decide⟩
  | 1, h1, h2 => cases h1; cases h2; exact callV_of Y (mX0_passingOf hl) wl_RX5_46 wn_X0_passingOf ws_X0_passingOf wi_RX0 wc_X0_passingOf (T := TX0) (N1 := _) rfl (by decide +kernel) ⟨by decide, by decide⟩
  | k + 2, h1, _ => simp at h1
def kX6_dropOldest (N : Nat) : List (Nat × Nat × SP) := []
def sX6_dropOldest (N : Nat) : SP := RUN N pX6_dropOldest (kX6_dropOldest N) hd0 [] 3 none 0
theorem mX6_dropOldest {l : Launch} {N b : Nat} {D : va_G} {cA sa adV : Nat → Nat} (hl : l.stackTraces = false) : Cn l N b D cA sa adV yX6_dropOldest cX6_dropOldest 3 none 0 0 0 (sX6_dropOldest N) := by
  refine Cn_of (calls := kX6_dropOldest N) (by decide +kernel) oX6_dropOldest (hC_of (cidx := []) (by decide +kernel) (fun p e s m args below meth c Q Y k kd x na mc tr h1 h2 => ?_)) (hT_no) (hL_of (by decide +kernel)) (fun _ _ => rfl) (fun _ _ _ _ h => h)
  match k, h1, h2 with
  | k, h1, _ => simp at h1
def kX6_takeOut (N : Nat) : List (Nat × Nat × SP) := [(3, 0, nsp (sX9_partOf N)), (2, 0, vsp N 6 (sX6_dropOldest N))]
def sX6_takeOut (N : Nat) : SP := RUN N pX6_takeOut (kX6_takeOut N) hd0 [] 9 (some .long) 0
theorem mX6_takeOut {l : Launch} {N b : Nat} {D : va_G} {cA sa adV : Nat → Nat} (hl : l.stackTraces = false) : Cn l N b D cA sa adV yX6_takeOut cX6_takeOut 9 (some .long) 1 25 0 (sX6_takeOut N) := by
  refine Cn_of (calls := kX6_takeOut N) (by decide +kernel) oX6_takeOut (hC_of (cidx := [(1, 54), (0, 58)]) (by decide +kernel) (fun p e s m args below meth c Q Y k kd x na mc tr h1 h2 => ?_)) (hT_no) (hL_of (by decide +kernel)) (fun _ _ => rfl) (fun _ _ _ _ h => h)
  match k, h1, h2 with
  | 0, h1, h2 => cases h1; cases h2; exact callSN_of Y (mX9_partOf hl) wl_RX6_54 wt_X9_partOf wi_RX9 wc_X9_partOf (by decide +kernel) ⟨by decide, by decide⟩
  | 1, h1, h2 => cases h1; cases h2; exact callV_of Y (mX6_dropOldest hl) wl_RX6_58 wn_X6_dropOldest ws_X6_dropOldest wi_RX6 wc_X6_dropOldest (T := TX6) (N1 := _) rfl (by decide +kernel) ⟨by decide, by decide⟩
  | k + 2, h1, _ => simp at h1
def kX8_putFour (N : Nat) : List (Nat × Nat × SP) := []
def sX8_putFour (N : Nat) : SP := RUN N pX8_putFour (kX8_putFour N) hd0 [] 3 none 0
theorem mX8_putFour {l : Launch} {N b : Nat} {D : va_G} {cA sa adV : Nat → Nat} (hl : l.stackTraces = false) : Cn l N b D cA sa adV yX8_putFour cX8_putFour 3 none 0 0 0 (sX8_putFour N) := by
  refine Cn_of (calls := kX8_putFour N) (by decide +kernel) oX8_putFour (hC_of (cidx := []) (by decide +kernel) (fun p e s m args below meth c Q Y k kd x na mc tr h1 h2 => ?_)) (hT_no) (hL_of (by decide +kernel)) (fun _ _ => rfl) (fun _ _ _ _ h => h)
  match k, h1, h2 with
  | k, h1, _ => simp at h1
def kX8_skipBlanks (N : Nat) : List (Nat × Nat × SP) := []
def sX8_skipBlanks (N : Nat) : SP := RUN N pX8_skipBlanks (kX8_skipBlanks N) hd0 [] 1 none 0
theorem mX8_skipBlanks {l : Launch} {N b : Nat} {D : va_G} {cA sa adV : Nat → Nat} (hl : l.stackTraces = false) : Cn l N b D cA sa adV yX8_skipBlanks cX8_skipBlanks 1 none 0 0 0 (sX8_skipBlanks N) := by
  refine Cn_of (calls := kX8_skipBlanks N) (by decide +kernel) oX8_skipBlanks (hC_of (cidx := []) (by decide +kernel) (fun p e s m args below meth c Q Y k kd x na mc tr h1 h2 => ?_)) (hT_no) (hL_of (by decide +kernel)) (fun _ _ => rfl) (fun _ _ _ _ h => h)
  match k, h1, h2 with
  | k, h1, _ => simp at h1
def kX8_atEnd (N : Nat) : List (Nat × Nat × SP) := [(1, 0, vsp N 8 (sX8_skipBlanks N))]
def sX8_atEnd (N : Nat) : SP := RUN N pX8_atEnd (kX8_atEnd N) hd0 [] 1 (some .boolean) 0
theorem mX8_atEnd {l : Launch} {N b : Nat} {D : va_G} {cA sa adV : Nat → Nat} (hl : l.stackTraces = false) : Cn l N b D cA sa adV yX8_atEnd cX8_atEnd 1 (some .boolean) 1 20 0 (sX8_atEnd N) := by
  refine Cn_of (calls := kX8_atEnd N) (by decide +kernel) oX8_atEnd (hC_of (cidx := [(0, 182)]) (by decide +kernel) (fun p e s m args below meth c Q Y k kd x na mc tr h1 h2 => ?_)) (hT_no) (hL_of (by decide +kernel)) (fun _ _ => rfl) (fun _ _ _ _ h => h)
  match k, h1, h2 with
  | 0, h1, h2 => cases h1; cases h2; exact callV_of Y (mX8_skipBlanks hl) wl_RX8_182 wn_X8_skipBlanks ws_X8_skipBlanks wi_RX8 wc_X8_skipBlanks (T := TX8) (N1 := _) rfl (by decide +kernel) ⟨by decide, by decide⟩
  | k + 1, h1, _ => simp at h1
def kX8_isLetter (N : Nat) : List (Nat × Nat × SP) := []
def sX8_isLetter (N : Nat) : SP := RUN N pX8_isLetter (kX8_isLetter N) hd0 [] 1 (some .boolean) 0
theorem mX8_isLetter {l : Launch} {N b : Nat} {D : va_G} {cA sa adV : Nat → Nat} (hl : l.stackTraces = false) : Cn l N b D cA sa adV yX8_isLetter cX8_isLetter 1 (some .boolean) 0 0 0 (sX8_isLetter N) := by
  refine Cn_of (calls := kX8_isLetter N) (by decide +kernel) oX8_isLetter (hC_of (cidx := []) (by decide +kernel) (fun p e s m args below meth c Q Y k kd x na mc tr h1 h2 => ?_)) (hT_no) (hL_of (by decide +kernel)) (fun _ _ => rfl) (fun _ _ _ _ h => h)
  match k, h1, h2 with
  | k, h1, _ => simp at h1
def kX8_readWord (N : Nat) : List (Nat × Nat × SP) := [(1, 0, vsp N 8 (sX8_skipBlanks N)), (1, 0, sX8_isLetter N)]
def sX8_readWord (N : Nat) : SP := RUN N pX8_readWord (kX8_readWord N) hd0 [] 1 none 0
theorem mX8_readWord {l : Launch} {N b : Nat} {D : va_G} {cA sa adV : Nat → Nat} (hl : l.stackTraces = false) : Cn l N b D cA sa adV yX8_readWord cX8_readWord 1 none 1 20 0 (sX8_readWord N) := by
  refine Cn_of (calls := kX8_readWord N) (by decide +kernel) oX8_readWord (hC_of (cidx := [(0, 182), (1, 185)]) (by decide +kernel) (fun p e s m args below meth c Q Y k kd x na mc tr h1 h2 => ?_)) (hT_no) (hL_of (by decide +kernel)) (fun _ _ => rfl) (fun _ _ _ _ h => h)
  match k, h1, h2 with
  | 0, h1, h2 => cases h1; cases h2; exact callV_of Y (mX8_skipBlanks hl) wl_RX8_182 wn_X8_skipBlanks ws_X8_skipBlanks wi_RX8 wc_X8_skipBlanks (T := TX8) (N1 := _) rfl (by decide +kernel) ⟨by decide, by decide⟩
  | 1, h1, h2 => cases h1; cases h2; exact callS_of Y (mX8_isLetter hl) wl_RX8_185 wt_X8_isLetter wi_RX8 wc_X8_isLetter (by decide +kernel) ⟨by decide, by decide⟩
  | k + 2, h1, _ => simp at h1
def kX8_isWord (N : Nat) : List (Nat × Nat × SP) := [(1, 0, spLen), (2, 0, spChar)]
def sX8_isWord (N : Nat) : SP := RUN N pX8_isWord (kX8_isWord N) hd0 [] 3 (some .boolean) 0
theorem mX8_isWord {l : Launch} {N b : Nat} {D : va_G} {cA sa adV : Nat → Nat} (hl : l.stackTraces = false) : Cn l N b D cA sa adV yX8_isWord cX8_isWord 3 (some .boolean) 4 141 0 (sX8_isWord N) := by
  refine Cn_of (calls := kX8_isWord N) (by decide +kernel) oX8_isWord (hC_of (cidx := [(0, 189), (0, 194)]) (by decide +kernel) (fun p e s m args below meth c Q Y k kd x na mc tr h1 h2 => ?_)) (hT_no) (hL_of (by decide +kernel)) (fun _ _ => rfl) (fun _ _ _ _ h => h)
  match k, h1, h2 with
  | 0, h1, h2 => cases h1; cases h2; exact callLen_of Y (wG_at 745 (by decide +kernel) rfl) ⟨by decide, by decide⟩
  | 1, h1, h2 => cases h1; cases h2; exact callChar_of Y (wG_at 755 (by decide +kernel) rfl) ⟨by decide, by decide⟩
  | k + 2, h1, _ => simp at h1
def kX8_refuse (N : Nat) : List (Nat × Nat × SP) := []
def sX8_refuse (N : Nat) : SP := RUN N pX8_refuse (kX8_refuse N) hd0 [] 3 (some .boolean) 0
theorem mX8_refuse {l : Launch} {N b : Nat} {D : va_G} {cA sa adV : Nat → Nat} (hl : l.stackTraces = false) : Cn l N b D cA sa adV yX8_refuse cX8_refuse 3 (some .boolean) 0 0 0 (sX8_refuse N) := by
  refine Cn_of (calls := kX8_refuse N) (by decide +kernel) oX8_refuse (hC_of (cidx := []) (by decide +kernel) (fun p e s m args below meth c Q Y k kd x na mc tr h1 h2 => ?_)) (hT_no) (hL_of (by decide +kernel)) (fun _ _ => rfl) (fun _ _ _ _ h => h)
  match k, h1, h2 with
  | k, h1, _ => simp at h1
def kX8_readWay (N : Nat) : List (Nat × Nat × SP) := [(1, 0, vsp N 8 (sX8_readWord N)), (2, 0, vsp N 8 (sX8_isWord N)), (3, 0, vsp N 8 (sX8_refuse N))]
def sX8_readWay (N : Nat) : SP := RUN N pX8_readWay (kX8_readWay N) hd0 [] 1 (some .boolean) 0
theorem mX8_readWay {l : Launch} {N b : Nat} {D : va_G} {cA sa adV : Nat → Nat} (hl : l.stackTraces = false) : Cn l N b D cA sa adV yX8_readWay cX8_readWay 1 (some .boolean) 5 163 0 (sX8_readWay N) := by
  refine Cn_of (calls := kX8_readWay N) (by decide +kernel) oX8_readWay (hC_of (cidx := [(0, 79), (0, 84), (0, 57)]) (by decide +kernel) (fun p e s m args below meth c Q Y k kd x na mc tr h1 h2 => ?_)) (hT_no) (hL_of (by decide +kernel)) (fun _ _ => rfl) (fun _ _ _ _ h => h)
  match k, h1, h2 with
  | 0, h1, h2 => cases h1; cases h2; exact callV_of Y (mX8_readWord hl) wl_RX8_79 wn_X8_readWord ws_X8_readWord wi_RX8 wc_X8_readWord (T := TX8) (N1 := _) rfl (by decide +kernel) ⟨by decide, by decide⟩
  | 1, h1, h2 => cases h1; cases h2; exact callV_of Y (mX8_isWord hl) wl_RX8_84 wn_X8_isWord ws_X8_isWord wi_RX8 wc_X8_isWord (T := TX8) (N1 := _) rfl (by decide +kernel) ⟨by decide, by decide⟩
  | 2, h1, h2 => cases h1; cases h2; exact callV_of Y (mX8_refuse hl) wl_RX8_57 wn_X8_refuse ws_X8_refuse wi_RX8 wc_X8_refuse (T := TX8) (N1 := _) rfl (by decide +kernel) ⟨by decide, by decide⟩
  | k + 3, h1, _ => simp at h1
def kX8_isDigit (N : Nat) : List (Nat × Nat × SP) := []
def sX8_isDigit (N : Nat) : SP := RUN N pX8_isDigit (kX8_isDigit N) hd0 [] 1 (some .boolean) 0
theorem mX8_isDigit {l : Launch} {N b : Nat} {D : va_G} {cA sa adV : Nat → Nat} (hl : l.stackTraces = false) : Cn l N b D cA sa adV yX8_isDigit cX8_isDigit 1 (some .boolean) 0 0 0 (sX8_isDigit N) := by
  refine Cn_of (calls := kX8_isDigit N) (by decide +kernel) oX8_isDigit (hC_of (cidx := []) (by decide +kernel) (fun p e s m args below meth c Q Y k kd x na mc tr h1 h2 => ?_)) (hT_no) (hL_of (by decide +kernel)) (fun _ _ => rfl) (fun _ _ _ _ h => h)
  match k, h1, h2 with
  | k, h1, _ => simp at h1
def kX8_readNumber (N : Nat) : List (Nat × Nat × SP) := [(1, 0, vsp N 8 (sX8_skipBlanks N)), (1, 0, sX8_isDigit N), (2, 0, spMinI), (3, 0, vsp N 8 (sX8_refuse N))]
def sX8_readNumber (N : Nat) : SP := RUN N pX8_readNumber (kX8_readNumber N) hd0 [] 4 (some .boolean) 0
theorem mX8_readNumber {l : Launch} {N b : Nat} {D : va_G} {cA sa adV : Nat → Nat} (hl : l.stackTraces = false) : Cn l N b D cA sa adV yX8_readNumber cX8_readNumber 4 (some .boolean) 1 23 0 (sX8_readNumber N) := by
  refine Cn_of (calls := kX8_readNumber N) (by decide +kernel) oX8_readNumber (hC_of (cidx := [(0, 182), (1, 198), (1, 24), (0, 57)]) (by decide +kernel) (fun p e s m args below meth c Q Y k kd x na mc tr h1 h2 => ?_)) (hT_no) (hL_of (by decide +kernel)) (fun _ _ => rfl) (fun _ _ _ _ h => h)
  match k, h1, h2 with
  | 0, h1, h2 => cases h1; cases h2; exact callV_of Y (mX8_skipBlanks hl) wl_RX8_182 wn_X8_skipBlanks ws_X8_skipBlanks wi_RX8 wc_X8_skipBlanks (T := TX8) (N1 := _) rfl (by decide +kernel) ⟨by decide, by decide⟩
  | 1, h1, h2 => cases h1; cases h2; exact callS_of Y (mX8_isDigit hl) wl_RX8_198 wt_X8_isDigit wi_RX8 wc_X8_isDigit (by decide +kernel) ⟨by decide, by decide⟩
  | 2, h1, h2 => cases h1; cases h2; exact callMinI_of Y (wG_at (w := .methodLink RX8 24 Lib.Math.min.name) 720 (by decide +kernel) rfl) ⟨by decide, by decide⟩
  | 3, h1, h2 => cases h1; cases h2; exact callV_of Y (mX8_refuse hl) wl_RX8_57 wn_X8_refuse ws_X8_refuse wi_RX8 wc_X8_refuse (T := TX8) (N1 := _) rfl (by decide +kernel) ⟨by decide, by decide⟩
  | k + 4, h1, _ => simp at h1
def kX8_atLetter (N : Nat) : List (Nat × Nat × SP) := [(1, 0, vsp N 8 (sX8_atEnd N)), (1, 0, sX8_isLetter N)]
def sX8_atLetter (N : Nat) : SP := RUN N pX8_atLetter (kX8_atLetter N) hd0 [] 1 (some .boolean) 0
theorem mX8_atLetter {l : Launch} {N b : Nat} {D : va_G} {cA sa adV : Nat → Nat} (hl : l.stackTraces = false) : Cn l N b D cA sa adV yX8_atLetter cX8_atLetter 1 (some .boolean) 2 40 0 (sX8_atLetter N) := by
  refine Cn_of (calls := kX8_atLetter N) (by decide +kernel) oX8_atLetter (hC_of (cidx := [(0, 46), (1, 185)]) (by decide +kernel) (fun p e s m args below meth c Q Y k kd x na mc tr h1 h2 => ?_)) (hT_no) (hL_of (by decide +kernel)) (fun _ _ => rfl) (fun _ _ _ _ h => h)
  match k, h1, h2 with
  | 0, h1, h2 => cases h1; cases h2; exact callV_of Y (mX8_atEnd hl) wl_RX8_46 wn_X8_atEnd ws_X8_atEnd wi_RX8 wc_X8_atEnd (T := TX8) (N1 := _) rfl (by decide +kernel) ⟨by decide, by decide⟩
  | 1, h1, h2 => cases h1; cases h2; exact callS_of Y (mX8_isLetter hl) wl_RX8_185 wt_X8_isLetter wi_RX8 wc_X8_isLetter (by decide +kernel) ⟨by decide, by decide⟩
  | k + 2, h1, _ => simp at h1
def kX8_readBack (N : Nat) : List (Nat × Nat × SP) := [(1, 0, vsp N 8 (sX8_readWord N)), (2, 0, vsp N 8 (sX8_isWord N)), (3, 0, vsp N 8 (sX8_refuse N)), (3, 0, vsp N 8 (sX8_readNumber N))]
def sX8_readBack (N : Nat) : SP := RUN N pX8_readBack (kX8_readBack N) hd0 [] 3 (some .boolean) 0
theorem mX8_readBack {l : Launch} {N b : Nat} {D : va_G} {cA sa adV : Nat → Nat} (hl : l.stackTraces = false) : Cn l N b D cA sa adV yX8_readBack cX8_readBack 3 (some .boolean) 5 163 0 (sX8_readBack N) := by
  refine Cn_of (calls := kX8_readBack N) (by decide +kernel) oX8_readBack (hC_of (cidx := [(0, 79), (0, 84), (0, 57), (0, 127)]) (by decide +kernel) (fun p e s m args below meth c Q Y k kd x na mc tr h1 h2 => ?_)) (hT_no) (hL_of (by decide +kernel)) (fun _ _ => rfl) (fun _ _ _ _ h => h)
  match k, h1, h2 with
  | 0, h1, h2 => cases h1; cases h2; exact callV_of Y (mX8_readWord hl) wl_RX8_79 wn_X8_readWord ws_X8_readWord wi_RX8 wc_X8_readWord (T := TX8) (N1 := _) rfl (by decide +kernel) ⟨by decide, by decide⟩
  | 1, h1, h2 => cases h1; cases h2; exact callV_of Y (mX8_isWord hl) wl_RX8_84 wn_X8_isWord ws_X8_isWord wi_RX8 wc_X8_isWord (T := TX8) (N1 := _) rfl (by decide +kernel) ⟨by decide, by decide⟩
  | 2, h1, h2 => cases h1; cases h2; exact callV_of Y (mX8_refuse hl) wl_RX8_57 wn_X8_refuse ws_X8_refuse wi_RX8 wc_X8_refuse (T := TX8) (N1 := _) rfl (by decide +kernel) ⟨by decide, by decide⟩
  | 3, h1, h2 => cases h1; cases h2; exact callV_of Y (mX8_readNumber hl) wl_RX8_127 wn_X8_readNumber ws_X8_readNumber wi_RX8 wc_X8_readNumber (T := TX8) (N1 := _) rfl (by decide +kernel) ⟨by decide, by decide⟩
  | k + 4, h1, _ => simp at h1
def kX8_readDepartment (N : Nat) : List (Nat × Nat × SP) := [(3, 0, vsp N 8 (sX8_refuse N)), (1, 0, vsp N 8 (sX8_readWay N)), (3, 0, vsp N 8 (sX8_readNumber N)), (1, 0, vsp N 8 (sX8_atLetter N)), (3, 0, vsp N 8 (sX8_readBack N))]
def sX8_readDepartment (N : Nat) : SP := RUN N pX8_readDepartment (kX8_readDepartment N) hd0 [] 4 (some .boolean) 0
theorem mX8_readDepartment {l : Launch} {N b : Nat} {D : va_G} {cA sa adV : Nat → Nat} (hl : l.stackTraces = false) : Cn l N b D cA sa adV yX8_readDepartment cX8_readDepartment 4 (some .boolean) 6 185 0 (sX8_readDepartment N) := by
  refine Cn_of (calls := kX8_readDepartment N) (by decide +kernel) oX8_readDepartment (hC_of (cidx := [(0, 57), (0, 116), (0, 127), (0, 139), (0, 142)]) (by decide +kernel) (fun p e s m args below meth c Q Y k kd x na mc tr h1 h2 => ?_)) (hT_no) (hL_of (by decide +kernel)) (fun _ _ => rfl) (fun _ _ _ _ h => h)
  match k, h1, h2 with
  | 0, h1, h2 => cases h1; cases h2; exact callV_of Y (mX8_refuse hl) wl_RX8_57 wn_X8_refuse ws_X8_refuse wi_RX8 wc_X8_refuse (T := TX8) (N1 := _) rfl (by decide +kernel) ⟨by decide, by decide⟩
  | 1, h1, h2 => cases h1; cases h2; exact callV_of Y (mX8_readWay hl) wl_RX8_116 wn_X8_readWay ws_X8_readWay wi_RX8 wc_X8_readWay (T := TX8) (N1 := _) rfl (by decide +kernel) ⟨by decide, by decide⟩
  | 2, h1, h2 => cases h1; cases h2; exact callV_of Y (mX8_readNumber hl) wl_RX8_127 wn_X8_readNumber ws_X8_readNumber wi_RX8 wc_X8_readNumber (T := TX8) (N1 := _) rfl (by decide +kernel) ⟨by decide, by decide⟩
  | 3, h1, h2 => cases h1; cases h2; exact callV_of Y (mX8_atLetter hl) wl_RX8_139 wn_X8_atLetter ws_X8_atLetter wi_RX8 wc_X8_atLetter (T := TX8) (N1 := _) rfl (by decide +kernel) ⟨by decide, by decide⟩
  | 4, h1, h2 => cases h1; cases h2; exact callV_of Y (mX8_readBack hl) wl_RX8_142 wn_X8_readBack ws_X8_readBack wi_RX8 wc_X8_readBack (T := TX8) (N1 := _) rfl (by decide +kernel) ⟨by decide, by decide⟩
  | k + 5, h1, _ => simp at h1
def kX8_readMaterial (N : Nat) : List (Nat × Nat × SP) := [(3, 0, vsp N 8 (sX8_readNumber N)), (3, 0, vsp N 8 (sX8_refuse N))]
def sX8_readMaterial (N : Nat) : SP := RUN N pX8_readMaterial (kX8_readMaterial N) hd0 [] 4 (some .boolean) 0
theorem mX8_readMaterial {l : Launch} {N b : Nat} {D : va_G} {cA sa adV : Nat → Nat} (hl : l.stackTraces = false) : Cn l N b D cA sa adV yX8_readMaterial cX8_readMaterial 4 (some .boolean) 2 46 0 (sX8_readMaterial N) := by
  refine Cn_of (calls := kX8_readMaterial N) (by decide +kernel) oX8_readMaterial (hC_of (cidx := [(0, 127), (0, 57)]) (by decide +kernel) (fun p e s m args below meth c Q Y k kd x na mc tr h1 h2 => ?_)) (hT_no) (hL_of (by decide +kernel)) (fun _ _ => rfl) (fun _ _ _ _ h => h)
  match k, h1, h2 with
  | 0, h1, h2 => cases h1; cases h2; exact callV_of Y (mX8_readNumber hl) wl_RX8_127 wn_X8_readNumber ws_X8_readNumber wi_RX8 wc_X8_readNumber (T := TX8) (N1 := _) rfl (by decide +kernel) ⟨by decide, by decide⟩
  | 1, h1, h2 => cases h1; cases h2; exact callV_of Y (mX8_refuse hl) wl_RX8_57 wn_X8_refuse ws_X8_refuse wi_RX8 wc_X8_refuse (T := TX8) (N1 := _) rfl (by decide +kernel) ⟨by decide, by decide⟩
  | k + 2, h1, _ => simp at h1
def kX8_readBy (N : Nat) : List (Nat × Nat × SP) := [(1, 0, vsp N 8 (sX8_readWord N)), (2, 0, vsp N 8 (sX8_isWord N)), (3, 0, vsp N 8 (sX8_refuse N))]
def sX8_readBy (N : Nat) : SP := RUN N pX8_readBy (kX8_readBy N) hd0 [] 2 (some .boolean) 0
theorem mX8_readBy {l : Launch} {N b : Nat} {D : va_G} {cA sa adV : Nat → Nat} (hl : l.stackTraces = false) : Cn l N b D cA sa adV yX8_readBy cX8_readBy 2 (some .boolean) 5 163 0 (sX8_readBy N) := by
  refine Cn_of (calls := kX8_readBy N) (by decide +kernel) oX8_readBy (hC_of (cidx := [(0, 79), (0, 84), (0, 57)]) (by decide +kernel) (fun p e s m args below meth c Q Y k kd x na mc tr h1 h2 => ?_)) (hT_no) (hL_of (by decide +kernel)) (fun _ _ => rfl) (fun _ _ _ _ h => h)
  match k, h1, h2 with
  | 0, h1, h2 => cases h1; cases h2; exact callV_of Y (mX8_readWord hl) wl_RX8_79 wn_X8_readWord ws_X8_readWord wi_RX8 wc_X8_readWord (T := TX8) (N1 := _) rfl (by decide +kernel) ⟨by decide, by decide⟩
  | 1, h1, h2 => cases h1; cases h2; exact callV_of Y (mX8_isWord hl) wl_RX8_84 wn_X8_isWord ws_X8_isWord wi_RX8 wc_X8_isWord (T := TX8) (N1 := _) rfl (by decide +kernel) ⟨by decide, by decide⟩
  | 2, h1, h2 => cases h1; cases h2; exact callV_of Y (mX8_refuse hl) wl_RX8_57 wn_X8_refuse ws_X8_refuse wi_RX8 wc_X8_refuse (T := TX8) (N1 := _) rfl (by decide +kernel) ⟨by decide, by decide⟩
  | k + 3, h1, _ => simp at h1
def kX8_readProduct (N : Nat) : List (Nat × Nat × SP) := [(3, 0, vsp N 8 (sX8_refuse N)), (3, 0, vsp N 8 (sX8_readNumber N)), (1, 0, vsp N 8 (sX8_atLetter N)), (2, 0, vsp N 8 (sX8_readBy N))]
def sX8_readProduct (N : Nat) : SP := RUN N pX8_readProduct (kX8_readProduct N) hd0 [] 3 (some .boolean) 0
theorem mX8_readProduct {l : Launch} {N b : Nat} {D : va_G} {cA sa adV : Nat → Nat} (hl : l.stackTraces = false) : Cn l N b D cA sa adV yX8_readProduct cX8_readProduct 3 (some .boolean) 6 184 0 (sX8_readProduct N) := by
  refine Cn_of (calls := kX8_readProduct N) (by decide +kernel) oX8_readProduct (hC_of (cidx := [(0, 57), (0, 127), (0, 139), (0, 167)]) (by decide +kernel) (fun p e s m args below meth c Q Y k kd x na mc tr h1 h2 => ?_)) (hT_no) (hL_of (by decide +kernel)) (fun _ _ => rfl) (fun _ _ _ _ h => h)
  match k, h1, h2 with
  | 0, h1, h2 => cases h1; cases h2; exact callV_of Y (mX8_refuse hl) wl_RX8_57 wn_X8_refuse ws_X8_refuse wi_RX8 wc_X8_refuse (T := TX8) (N1 := _) rfl (by decide +kernel) ⟨by decide, by decide⟩
  | 1, h1, h2 => cases h1; cases h2; exact callV_of Y (mX8_readNumber hl) wl_RX8_127 wn_X8_readNumber ws_X8_readNumber wi_RX8 wc_X8_readNumber (T := TX8) (N1 := _) rfl (by decide +kernel) ⟨by decide, by decide⟩
  | 2, h1, h2 => cases h1; cases h2; exact callV_of Y (mX8_atLetter hl) wl_RX8_139 wn_X8_atLetter ws_X8_atLetter wi_RX8 wc_X8_atLetter (T := TX8) (N1 := _) rfl (by decide +kernel) ⟨by decide, by decide⟩
  | 3, h1, h2 => cases h1; cases h2; exact callV_of Y (mX8_readBy hl) wl_RX8_167 wn_X8_readBy ws_X8_readBy wi_RX8 wc_X8_readBy (T := TX8) (N1 := _) rfl (by decide +kernel) ⟨by decide, by decide⟩
  | k + 4, h1, _ => simp at h1
def kX8_readStore (N : Nat) : List (Nat × Nat × SP) := [(1, 0, vsp N 8 (sX8_readWay N))]
def sX8_readStore (N : Nat) : SP := RUN N pX8_readStore (kX8_readStore N) hd0 [] 2 (some .boolean) 0
theorem mX8_readStore {l : Launch} {N b : Nat} {D : va_G} {cA sa adV : Nat → Nat} (hl : l.stackTraces = false) : Cn l N b D cA sa adV yX8_readStore cX8_readStore 2 (some .boolean) 6 183 0 (sX8_readStore N) := by
  refine Cn_of (calls := kX8_readStore N) (by decide +kernel) oX8_readStore (hC_of (cidx := [(0, 116)]) (by decide +kernel) (fun p e s m args below meth c Q Y k kd x na mc tr h1 h2 => ?_)) (hT_no) (hL_of (by decide +kernel)) (fun _ _ => rfl) (fun _ _ _ _ h => h)
  match k, h1, h2 with
  | 0, h1, h2 => cases h1; cases h2; exact callV_of Y (mX8_readWay hl) wl_RX8_116 wn_X8_readWay ws_X8_readWay wi_RX8 wc_X8_readWay (T := TX8) (N1 := _) rfl (by decide +kernel) ⟨by decide, by decide⟩
  | k + 1, h1, _ => simp at h1
def kX8_readEnd (N : Nat) : List (Nat × Nat × SP) := [(1, 0, vsp N 8 (sX8_atEnd N)), (3, 0, vsp N 8 (sX8_refuse N))]
def sX8_readEnd (N : Nat) : SP := RUN N pX8_readEnd (kX8_readEnd N) hd0 [] 1 (some .boolean) 0
theorem mX8_readEnd {l : Launch} {N b : Nat} {D : va_G} {cA sa adV : Nat → Nat} (hl : l.stackTraces = false) : Cn l N b D cA sa adV yX8_readEnd cX8_readEnd 1 (some .boolean) 2 40 0 (sX8_readEnd N) := by
  refine Cn_of (calls := kX8_readEnd N) (by decide +kernel) oX8_readEnd (hC_of (cidx := [(0, 46), (0, 57)]) (by decide +kernel) (fun p e s m args below meth c Q Y k kd x na mc tr h1 h2 => ?_)) (hT_no) (hL_of (by decide +kernel)) (fun _ _ => rfl) (fun _ _ _ _ h => h)
  match k, h1, h2 with
  | 0, h1, h2 => cases h1; cases h2; exact callV_of Y (mX8_atEnd hl) wl_RX8_46 wn_X8_atEnd ws_X8_atEnd wi_RX8 wc_X8_atEnd (T := TX8) (N1 := _) rfl (by decide +kernel) ⟨by decide, by decide⟩
  | 1, h1, h2 => cases h1; cases h2; exact callV_of Y (mX8_refuse hl) wl_RX8_57 wn_X8_refuse ws_X8_refuse wi_RX8 wc_X8_refuse (T := TX8) (N1 := _) rfl (by decide +kernel) ⟨by decide, by decide⟩
  | k + 2, h1, _ => simp at h1
def kX8_readLine (N : Nat) : List (Nat × Nat × SP) := [(1, 0, vsp N 8 (sX8_readWord N)), (2, 0, vsp N 8 (sX8_isWord N)), (2, 0, vsp N 8 (sX8_readDepartment N)), (2, 0, vsp N 8 (sX8_readMaterial N)), (2, 0, vsp N 8 (sX8_readProduct N)), (2, 0, vsp N 8 (sX8_readStore N)), (3, 0, vsp N 8 (sX8_refuse N)), (1, 0, vsp N 8 (sX8_readEnd N))]
def sX8_readLine (N : Nat) : SP := RUN N pX8_readLine (kX8_readLine N) hd0 [] 3 (some .boolean) 0
theorem mX8_readLine {l : Launch} {N b : Nat} {D : va_G} {cA sa adV : Nat → Nat} (hl : l.stackTraces = false) : Cn l N b D cA sa adV yX8_readLine cX8_readLine 3 (some .boolean) 7 208 0 (sX8_readLine N) := by
  refine Cn_of (calls := kX8_readLine N) (by decide +kernel) oX8_readLine (hC_of (cidx := [(0, 79), (0, 84), (0, 88), (0, 93), (0, 98), (0, 103), (0, 57), (0, 109)]) (by decide +kernel) (fun p e s m args below meth c Q Y k kd x na mc tr h1 h2 => ?_)) (hT_no) (hL_of (by decide +kernel)) (fun _ _ => rfl) (fun _ _ _ _ h => h)
  match k, h1, h2 with
  | 0, h1, h2 => cases h1; cases h2; exact callV_of Y (mX8_readWord hl) wl_RX8_79 wn_X8_readWord ws_X8_readWord wi_RX8 wc_X8_readWord (T := TX8) (N1 := _) rfl (by decide +kernel) ⟨by decide, by decide⟩
  | 1, h1, h2 => cases h1; cases h2; exact callV_of Y (mX8_isWord hl) wl_RX8_84 wn_X8_isWord ws_X8_isWord wi_RX8 wc_X8_isWord (T := TX8) (N1 := _) rfl (by decide +kernel) ⟨by decide, by decide⟩
  | 2, h1, h2 => cases h1; cases h2; exact callV_of Y (mX8_readDepartment hl) wl_RX8_88 wn_X8_readDepartment ws_X8_readDepartment wi_RX8 wc_X8_readDepartment (T := TX8) (N1 := _) rfl (by decide +kernel) ⟨by decide, by decide⟩
  | 3, h1, h2 => cases h1; cases h2; exact callV_of Y (mX8_readMaterial hl) wl_RX8_93 wn_X8_readMaterial ws_X8_readMaterial wi_RX8 wc_X8_readMaterial (T := TX8) (N1 := _) rfl (by decide +kernel) ⟨by decide, by decide⟩
  | 4, h1, h2 => cases h1; cases h2; exact callV_of Y (mX8_readProduct hl) wl_RX8_98 wn_X8_readProduct ws_X8_readProduct wi_RX8 wc_X8_readProduct (T := TX8) (N1 := _) rfl (by decide +kernel) ⟨by decide, by decide⟩
  | 5, h1, h2 => cases h1; cases h2; exact callV_of Y (mX8_readStore hl) wl_RX8_103 wn_X8_readStore ws_X8_readStore wi_RX8 wc_X8_readStore (T := TX8) (N1 := _) rfl (by decide +kernel) ⟨by decide, by decide⟩
  | 6, h1, h2 => cases h1; cases h2; exact callV_of Y (mX8_refuse hl) wl_RX8_57 wn_X8_refuse ws_X8_refuse wi_RX8 wc_X8_refuse (T := TX8) (N1 := _) rfl (by decide +kernel) ⟨by decide, by decide⟩
  | 7, h1, h2 => cases h1; cases h2; exact callV_of Y (mX8_readEnd hl) wl_RX8_109 wn_X8_readEnd ws_X8_readEnd wi_RX8 wc_X8_readEnd (T := TX8) (N1 := _) rfl (by decide +kernel) ⟨by decide, by decide⟩
  | k + 8, h1, _ => simp at h1
def kX8_isWhole (N : Nat) : List (Nat × Nat × SP) := [(1, 0, vsp N 6 (sX6_isMain N))]
def sX8_isWhole (N : Nat) : SP := RUN N pX8_isWhole (kX8_isWhole N) hd0 [] 4 (some .boolean) 0
theorem mX8_isWhole {l : Launch} {N b : Nat} {D : va_G} {cA sa adV : Nat → Nat} (hl : l.stackTraces = false) : Cn l N b D cA sa adV yX8_isWhole cX8_isWhole 4 (some .boolean) 1 20 0 (sX8_isWhole N) := by
  refine Cn_of (calls := kX8_isWhole N) (by decide +kernel) oX8_isWhole (hC_of (cidx := [(0, 73)]) (by decide +kernel) (fun p e s m args below meth c Q Y k kd x na mc tr h1 h2 => ?_)) (hT_no) (hL_of (by decide +kernel)) (fun _ _ => rfl) (fun _ _ _ _ h => h)
  match k, h1, h2 with
  | 0, h1, h2 => cases h1; cases h2; exact callV_of Y (mX6_isMain hl) wl_RX8_73 wn_X6_isMain ws_X6_isMain wi_RX6 wc_X6_isMain (T := TX6) (N1 := _) rfl (by decide +kernel) ⟨by decide, by decide⟩
  | k + 1, h1, _ => simp at h1
def kX8_readInto (N : Nat) : List (Nat × Nat × SP) := [(1, 0, vsp N 1 (sX1_clear N)), (2, 0, spMinI), (1, 0, vsp N 8 (sX8_atEnd N)), (2, 0, vsp N 8 (sX8_readLine N)), (1, 0, sX8_isWhole N), (3, 0, vsp N 8 (sX8_refuse N))]
def sX8_readInto (N : Nat) : SP := RUN N pX8_readInto (kX8_readInto N) hd0 [] 5 none 0
theorem mX8_readInto {l : Launch} {N b : Nat} {D : va_G} {cA sa adV : Nat → Nat} (hl : l.stackTraces = false) : Cn l N b D cA sa adV yX8_readInto cX8_readInto 5 none 8 230 0 (sX8_readInto N) := by
  refine Cn_of (calls := kX8_readInto N) (by decide +kernel) oX8_readInto (hC_of (cidx := [(0, 19), (1, 24), (0, 46), (0, 50), (1, 54), (0, 57)]) (by decide +kernel) (fun p e s m args below meth c Q Y k kd x na mc tr h1 h2 => ?_)) (hT_no) (hL_of (by decide +kernel)) (fun _ _ => rfl) (fun _ _ _ _ h => h)
  match k, h1, h2 with
  | 0, h1, h2 => cases h1; cases h2; exact callV_of Y (mX1_clear hl) wl_RX8_19 wn_X1_clear ws_X1_clear wi_RX1 wc_X1_clear (T := TX1) (N1 := _) rfl (by decide +kernel) ⟨by decide, by decide⟩
  | 1, h1, h2 => cases h1; cases h2; exact callMinI_of Y (wG_at (w := .methodLink RX8 24 Lib.Math.min.name) 720 (by decide +kernel) rfl) ⟨by decide, by decide⟩
  | 2, h1, h2 => cases h1; cases h2; exact callV_of Y (mX8_atEnd hl) wl_RX8_46 wn_X8_atEnd ws_X8_atEnd wi_RX8 wc_X8_atEnd (T := TX8) (N1 := _) rfl (by decide +kernel) ⟨by decide, by decide⟩
  | 3, h1, h2 => cases h1; cases h2; exact callV_of Y (mX8_readLine hl) wl_RX8_50 wn_X8_readLine ws_X8_readLine wi_RX8 wc_X8_readLine (T := TX8) (N1 := _) rfl (by decide +kernel) ⟨by decide, by decide⟩
  | 4, h1, h2 => cases h1; cases h2; exact callS_of Y (mX8_isWhole hl) wl_RX8_54 wt_X8_isWhole wi_RX8 wc_X8_isWhole (by decide +kernel) ⟨by decide, by decide⟩
  | 5, h1, h2 => cases h1; cases h2; exact callV_of Y (mX8_refuse hl) wl_RX8_57 wn_X8_refuse ws_X8_refuse wi_RX8 wc_X8_refuse (T := TX8) (N1 := _) rfl (by decide +kernel) ⟨by decide, by decide⟩
  | k + 6, h1, _ => simp at h1
def kX9_feed (N : Nat) : List (Nat × Nat × SP) := [(2, 0, vsp N 8 (sX8_putFour N))]
def sX9_feed (N : Nat) : SP := RUN N pX9_feed (kX9_feed N) hd0 [] 6 (some .int) 0
theorem mX9_feed {l : Launch} {N b : Nat} {D : va_G} {cA sa adV : Nat → Nat} (hl : l.stackTraces = false) : Cn l N b D cA sa adV yX9_feed cX9_feed 6 (some .int) 1 22 0 (sX9_feed N) := by
  refine Cn_of (calls := kX9_feed N) (by decide +kernel) oX9_feed (hC_of (cidx := [(0, 54)]) (by decide +kernel) (fun p e s m args below meth c Q Y k kd x na mc tr h1 h2 => ?_)) (hT_no) (hL_of (by decide +kernel)) (fun _ _ => rfl) (fun _ _ _ _ h => h)
  match k, h1, h2 with
  | 0, h1, h2 => cases h1; cases h2; exact callV_of Y (mX8_putFour hl) wl_RX9_54 wn_X8_putFour ws_X8_putFour wi_RX8 wc_X8_putFour (T := TX8) (N1 := _) rfl (by decide +kernel) ⟨by decide, by decide⟩
  | k + 1, h1, _ => simp at h1
def kX9_needWithin (N : Nat) : List (Nat × Nat × SP) := []
def sX9_needWithin (N : Nat) : SP := RUN N pX9_needWithin (kX9_needWithin N) hd0 ["java/lang/IllegalArgumentException"] 4 none 1
theorem mX9_needWithin {l : Launch} {N b : Nat} {D : va_G} {cA sa adV : Nat → Nat} (hl : l.stackTraces = false) : Cn l N b D cA sa adV yX9_needWithin cX9_needWithin 4 none 6 90 1 (sX9_needWithin N) := by
  refine Cn_of (calls := kX9_needWithin N) (by decide +kernel) oX9_needWithin (hC_of (cidx := []) (by decide +kernel) (fun p e s m args below meth c Q Y k kd x na mc tr h1 h2 => ?_)) (tX9_needWithin hl) (hL_of (by decide +kernel)) (fun _ _ => rfl) (fun _ _ _ _ h => h)
  match k, h1, h2 with
  | k, h1, _ => simp at h1
def kX9_text (N : Nat) : List (Nat × Nat × SP) := [(4, 1, vsp N 9 (sX9_needWithin N)), (1, 0, vsp N 2 (sX2_row N)), (2, 0, vsp N 1 (sX1_save N)), (3, 0, vsp N 8 (sX8_readInto N)), (2, 0, vsp N 1 (sX1_load N)), (1, 0, vsp N 2 (sX2_keep N))]
def sX9_text (N : Nat) : SP := RUN N pX9_text (kX9_text N) hd0 [] 2 (some .int) 1
theorem mX9_text {l : Launch} {N b : Nat} {D : va_G} {cA sa adV : Nat → Nat} (hl : l.stackTraces = false) : Cn l N b D cA sa adV yX9_text cX9_text 2 (some .int) 9 254 1 (sX9_text N) := by
  refine Cn_of (calls := kX9_text N) (by decide +kernel) oX9_text (hC_of (cidx := [(0, 58), (0, 62), (0, 66), (0, 70), (0, 80), (0, 83)]) (by decide +kernel) (fun p e s m args below meth c Q Y k kd x na mc tr h1 h2 => ?_)) (hT_no) (hL_of (by decide +kernel)) (fun _ _ => rfl) (fun _ _ _ _ h => h)
  match k, h1, h2 with
  | 0, h1, h2 => cases h1; cases h2; exact callV_of Y (mX9_needWithin hl) wl_RX9_58 wn_X9_needWithin ws_X9_needWithin wi_RX9 wc_X9_needWithin (T := TX9) (N1 := _) rfl (by decide +kernel) ⟨by decide, by decide⟩
  | 1, h1, h2 => cases h1; cases h2; exact callV_of Y (mX2_row hl) wl_RX9_62 wn_X2_row ws_X2_row wi_RX2 wc_X2_row (T := TX2) (N1 := _) rfl (by decide +kernel) ⟨by decide, by decide⟩
  | 2, h1, h2 => cases h1; cases h2; exact callV_of Y (mX1_save hl) wl_RX9_66 wn_X1_save ws_X1_save wi_RX1 wc_X1_save (T := TX1) (N1 := _) rfl (by decide +kernel) ⟨by decide, by decide⟩
  | 3, h1, h2 => cases h1; cases h2; exact callV_of Y (mX8_readInto hl) wl_RX9_70 wn_X8_readInto ws_X8_readInto wi_RX8 wc_X8_readInto (T := TX8) (N1 := _) rfl (by decide +kernel) ⟨by decide, by decide⟩
  | 4, h1, h2 => cases h1; cases h2; exact callV_of Y (mX1_load hl) wl_RX9_80 wn_X1_load ws_X1_load wi_RX1 wc_X1_load (T := TX1) (N1 := _) rfl (by decide +kernel) ⟨by decide, by decide⟩
  | 5, h1, h2 => cases h1; cases h2; exact callV_of Y (mX2_keep hl) wl_RX9_83 wn_X2_keep ws_X2_keep wi_RX2 wc_X2_keep (T := TX2) (N1 := _) rfl (by decide +kernel) ⟨by decide, by decide⟩
  | k + 6, h1, _ => simp at h1
def kX9_fault (N : Nat) : List (Nat × Nat × SP) := []
def sX9_fault (N : Nat) : SP := RUN N pX9_fault (kX9_fault N) hd0 [] 1 (some .int) 0
theorem mX9_fault {l : Launch} {N b : Nat} {D : va_G} {cA sa adV : Nat → Nat} (hl : l.stackTraces = false) : Cn l N b D cA sa adV yX9_fault cX9_fault 1 (some .int) 0 0 0 (sX9_fault N) := by
  refine Cn_of (calls := kX9_fault N) (by decide +kernel) oX9_fault (hC_of (cidx := []) (by decide +kernel) (fun p e s m args below meth c Q Y k kd x na mc tr h1 h2 => ?_)) (hT_no) (hL_of (by decide +kernel)) (fun _ _ => rfl) (fun _ _ _ _ h => h)
  match k, h1, h2 with
  | k, h1, _ => simp at h1
def kX9_needState (N : Nat) : List (Nat × Nat × SP) := []
def sX9_needState (N : Nat) : SP := RUN N pX9_needState (kX9_needState N) hd0 ["java/lang/IllegalStateException"] 2 none 1
theorem mX9_needState {l : Launch} {N b : Nat} {D : va_G} {cA sa adV : Nat → Nat} (hl : l.stackTraces = false) : Cn l N b D cA sa adV yX9_needState cX9_needState 2 none 6 90 1 (sX9_needState N) := by
  refine Cn_of (calls := kX9_needState N) (by decide +kernel) oX9_needState (hC_of (cidx := []) (by decide +kernel) (fun p e s m args below meth c Q Y k kd x na mc tr h1 h2 => ?_)) (tX9_needState hl) (hL_of (by decide +kernel)) (fun _ _ => rfl) (fun _ _ _ _ h => h)
  match k, h1, h2 with
  | k, h1, _ => simp at h1
def kX9_start (N : Nat) : List (Nat × Nat × SP) := [(4, 1, vsp N 9 (sX9_needWithin N)), (2, 1, vsp N 9 (sX9_needState N)), (1, 0, vsp N 2 (sX2_row N)), (2, 0, vsp N 1 (sX1_save N)), (1, 0, vsp N 2 (sX2_keep N))]
def sX9_start (N : Nat) : SP := RUN N pX9_start (kX9_start N) hd0 [] 2 (some .int) 2
theorem mX9_start {l : Launch} {N b : Nat} {D : va_G} {cA sa adV : Nat → Nat} (hl : l.stackTraces = false) : Cn l N b D cA sa adV yX9_start cX9_start 2 (some .int) 7 133 2 (sX9_start N) := by
  refine Cn_of (calls := kX9_start N) (by decide +kernel) oX9_start (hC_of (cidx := [(0, 58), (0, 92), (0, 62), (0, 66), (0, 83)]) (by decide +kernel) (fun p e s m args below meth c Q Y k kd x na mc tr h1 h2 => ?_)) (hT_no) (hL_of (by decide +kernel)) (fun _ _ => rfl) (fun _ _ _ _ h => h)
  match k, h1, h2 with
  | 0, h1, h2 => cases h1; cases h2; exact callV_of Y (mX9_needWithin hl) wl_RX9_58 wn_X9_needWithin ws_X9_needWithin wi_RX9 wc_X9_needWithin (T := TX9) (N1 := _) rfl (by decide +kernel) ⟨by decide, by decide⟩
  | 1, h1, h2 => cases h1; cases h2; exact callV_of Y (mX9_needState hl) wl_RX9_92 wn_X9_needState ws_X9_needState wi_RX9 wc_X9_needState (T := TX9) (N1 := _) rfl (by decide +kernel) ⟨by decide, by decide⟩
  | 2, h1, h2 => cases h1; cases h2; exact callV_of Y (mX2_row hl) wl_RX9_62 wn_X2_row ws_X2_row wi_RX2 wc_X2_row (T := TX2) (N1 := _) rfl (by decide +kernel) ⟨by decide, by decide⟩
  | 3, h1, h2 => cases h1; cases h2; exact callV_of Y (mX1_save hl) wl_RX9_66 wn_X1_save ws_X1_save wi_RX1 wc_X1_save (T := TX1) (N1 := _) rfl (by decide +kernel) ⟨by decide, by decide⟩
  | 4, h1, h2 => cases h1; cases h2; exact callV_of Y (mX2_keep hl) wl_RX9_83 wn_X2_keep ws_X2_keep wi_RX2 wc_X2_keep (T := TX2) (N1 := _) rfl (by decide +kernel) ⟨by decide, by decide⟩
  | k + 5, h1, _ => simp at h1
def kX9_needDepartment (N : Nat) : List (Nat × Nat × SP) := []
def sX9_needDepartment (N : Nat) : SP := RUN N pX9_needDepartment (kX9_needDepartment N) hd0 ["java/util/NoSuchElementException"] 2 (some (.object "ProcessDesk$Department")) 1
theorem mX9_needDepartment {l : Launch} {N b : Nat} {D : va_G} {cA sa adV : Nat → Nat} (hl : l.stackTraces = false) : Cn l N b D cA sa adV yX9_needDepartment cX9_needDepartment 2 (some (.object "ProcessDesk$Department")) 6 90 1 (sX9_needDepartment N) := by
  refine Cn_of (calls := kX9_needDepartment N) (by decide +kernel) oX9_needDepartment (hC_of (cidx := []) (by decide +kernel) (fun p e s m args below meth c Q Y k kd x na mc tr h1 h2 => ?_)) (tX9_needDepartment hl) (hL_of (by decide +kernel)) (fun _ _ => rfl) (fun _ _ _ _ h => h)
  match k, h1, h2 with
  | k, h1, _ => simp at h1
def kX9_needKind (N : Nat) : List (Nat × Nat × SP) := [(2, 0, vsp N 0 (sX0_hasKind N))]
def sX9_needKind (N : Nat) : SP := RUN N pX9_needKind (kX9_needKind N) hd0 ["java/util/NoSuchElementException"] 4 none 1
theorem mX9_needKind {l : Launch} {N b : Nat} {D : va_G} {cA sa adV : Nat → Nat} (hl : l.stackTraces = false) : Cn l N b D cA sa adV yX9_needKind cX9_needKind 4 none 6 90 1 (sX9_needKind N) := by
  refine Cn_of (calls := kX9_needKind N) (by decide +kernel) oX9_needKind (hC_of (cidx := [(0, 357)]) (by decide +kernel) (fun p e s m args below meth c Q Y k kd x na mc tr h1 h2 => ?_)) (tX9_needKind hl) (hL_of (by decide +kernel)) (fun _ _ => rfl) (fun _ _ _ _ h => h)
  match k, h1, h2 with
  | 0, h1, h2 => cases h1; cases h2; exact callV_of Y (mX0_hasKind hl) wl_RX9_357 wn_X0_hasKind ws_X0_hasKind wi_RX0 wc_X0_hasKind (T := TX0) (N1 := _) rfl (by decide +kernel) ⟨by decide, by decide⟩
  | k + 1, h1, _ => simp at h1
def kX9_spend (N : Nat) : List (Nat × Nat × SP) := [(2, 1, vsp N 9 (sX9_needDepartment N)), (4, 1, vsp N 9 (sX9_needKind N)), (4, 1, vsp N 9 (sX9_needWithin N)), (2, 1, vsp N 9 (sX9_needState N)), (1, 0, vsp N 2 (sX2_row N)), (2, 0, vsp N 1 (sX1_save N)), (1, 0, vsp N 2 (sX2_keep N))]
def sX9_spend (N : Nat) : SP := RUN N pX9_spend (kX9_spend N) hd0 [] 5 (some .int) 4
theorem mX9_spend {l : Launch} {N b : Nat} {D : va_G} {cA sa adV : Nat → Nat} (hl : l.stackTraces = false) : Cn l N b D cA sa adV yX9_spend cX9_spend 5 (some .int) 7 133 4 (sX9_spend N) := by
  refine Cn_of (calls := kX9_spend N) (by decide +kernel) oX9_spend (hC_of (cidx := [(0, 96), (0, 100), (0, 58), (0, 92), (0, 62), (0, 66), (0, 83)]) (by decide +kernel) (fun p e s m args below meth c Q Y k kd x na mc tr h1 h2 => ?_)) (hT_no) (hL_of (by decide +kernel)) (fun _ _ => rfl) (fun _ _ _ _ h => h)
  match k, h1, h2 with
  | 0, h1, h2 => cases h1; cases h2; exact callV_of Y (mX9_needDepartment hl) wl_RX9_96 wn_X9_needDepartment ws_X9_needDepartment wi_RX9 wc_X9_needDepartment (T := TX9) (N1 := _) rfl (by decide +kernel) ⟨by decide, by decide⟩
  | 1, h1, h2 => cases h1; cases h2; exact callV_of Y (mX9_needKind hl) wl_RX9_100 wn_X9_needKind ws_X9_needKind wi_RX9 wc_X9_needKind (T := TX9) (N1 := _) rfl (by decide +kernel) ⟨by decide, by decide⟩
  | 2, h1, h2 => cases h1; cases h2; exact callV_of Y (mX9_needWithin hl) wl_RX9_58 wn_X9_needWithin ws_X9_needWithin wi_RX9 wc_X9_needWithin (T := TX9) (N1 := _) rfl (by decide +kernel) ⟨by decide, by decide⟩
  | 3, h1, h2 => cases h1; cases h2; exact callV_of Y (mX9_needState hl) wl_RX9_92 wn_X9_needState ws_X9_needState wi_RX9 wc_X9_needState (T := TX9) (N1 := _) rfl (by decide +kernel) ⟨by decide, by decide⟩
  | 4, h1, h2 => cases h1; cases h2; exact callV_of Y (mX2_row hl) wl_RX9_62 wn_X2_row ws_X2_row wi_RX2 wc_X2_row (T := TX2) (N1 := _) rfl (by decide +kernel) ⟨by decide, by decide⟩
  | 5, h1, h2 => cases h1; cases h2; exact callV_of Y (mX1_save hl) wl_RX9_66 wn_X1_save ws_X1_save wi_RX1 wc_X1_save (T := TX1) (N1 := _) rfl (by decide +kernel) ⟨by decide, by decide⟩
  | 6, h1, h2 => cases h1; cases h2; exact callV_of Y (mX2_keep hl) wl_RX9_83 wn_X2_keep ws_X2_keep wi_RX2 wc_X2_keep (T := TX2) (N1 := _) rfl (by decide +kernel) ⟨by decide, by decide⟩
  | k + 7, h1, _ => simp at h1
def kX9_lost (N : Nat) : List (Nat × Nat × SP) := [(2, 1, vsp N 9 (sX9_needDepartment N)), (4, 1, vsp N 9 (sX9_needWithin N)), (1, 0, vsp N 2 (sX2_row N)), (2, 0, vsp N 1 (sX1_save N)), (1, 0, vsp N 2 (sX2_keep N))]
def sX9_lost (N : Nat) : SP := RUN N pX9_lost (kX9_lost N) hd0 [] 5 (some .int) 2
theorem mX9_lost {l : Launch} {N b : Nat} {D : va_G} {cA sa adV : Nat → Nat} (hl : l.stackTraces = false) : Cn l N b D cA sa adV yX9_lost cX9_lost 5 (some .int) 7 133 2 (sX9_lost N) := by
  refine Cn_of (calls := kX9_lost N) (by decide +kernel) oX9_lost (hC_of (cidx := [(0, 96), (0, 58), (0, 62), (0, 66), (0, 83)]) (by decide +kernel) (fun p e s m args below meth c Q Y k kd x na mc tr h1 h2 => ?_)) (hT_no) (hL_of (by decide +kernel)) (fun _ _ => rfl) (fun _ _ _ _ h => h)
  match k, h1, h2 with
  | 0, h1, h2 => cases h1; cases h2; exact callV_of Y (mX9_needDepartment hl) wl_RX9_96 wn_X9_needDepartment ws_X9_needDepartment wi_RX9 wc_X9_needDepartment (T := TX9) (N1 := _) rfl (by decide +kernel) ⟨by decide, by decide⟩
  | 1, h1, h2 => cases h1; cases h2; exact callV_of Y (mX9_needWithin hl) wl_RX9_58 wn_X9_needWithin ws_X9_needWithin wi_RX9 wc_X9_needWithin (T := TX9) (N1 := _) rfl (by decide +kernel) ⟨by decide, by decide⟩
  | 2, h1, h2 => cases h1; cases h2; exact callV_of Y (mX2_row hl) wl_RX9_62 wn_X2_row ws_X2_row wi_RX2 wc_X2_row (T := TX2) (N1 := _) rfl (by decide +kernel) ⟨by decide, by decide⟩
  | 3, h1, h2 => cases h1; cases h2; exact callV_of Y (mX1_save hl) wl_RX9_66 wn_X1_save ws_X1_save wi_RX1 wc_X1_save (T := TX1) (N1 := _) rfl (by decide +kernel) ⟨by decide, by decide⟩
  | 4, h1, h2 => cases h1; cases h2; exact callV_of Y (mX2_keep hl) wl_RX9_83 wn_X2_keep ws_X2_keep wi_RX2 wc_X2_keep (T := TX2) (N1 := _) rfl (by decide +kernel) ⟨by decide, by decide⟩
  | k + 5, h1, _ => simp at h1
def kX9_left (N : Nat) : List (Nat × Nat × SP) := [(2, 1, vsp N 9 (sX9_needDepartment N)), (4, 1, vsp N 9 (sX9_needWithin N)), (1, 0, vsp N 2 (sX2_row N)), (2, 0, vsp N 1 (sX1_save N)), (1, 0, vsp N 2 (sX2_keep N))]
def sX9_left (N : Nat) : SP := RUN N pX9_left (kX9_left N) hd0 [] 6 (some .int) 3
theorem mX9_left {l : Launch} {N b : Nat} {D : va_G} {cA sa adV : Nat → Nat} (hl : l.stackTraces = false) : Cn l N b D cA sa adV yX9_left cX9_left 6 (some .int) 7 133 3 (sX9_left N) := by
  refine Cn_of (calls := kX9_left N) (by decide +kernel) oX9_left (hC_of (cidx := [(0, 96), (0, 58), (0, 62), (0, 66), (0, 83)]) (by decide +kernel) (fun p e s m args below meth c Q Y k kd x na mc tr h1 h2 => ?_)) (hT_no) (hL_of (by decide +kernel)) (fun _ _ => rfl) (fun _ _ _ _ h => h)
  match k, h1, h2 with
  | 0, h1, h2 => cases h1; cases h2; exact callV_of Y (mX9_needDepartment hl) wl_RX9_96 wn_X9_needDepartment ws_X9_needDepartment wi_RX9 wc_X9_needDepartment (T := TX9) (N1 := _) rfl (by decide +kernel) ⟨by decide, by decide⟩
  | 1, h1, h2 => cases h1; cases h2; exact callV_of Y (mX9_needWithin hl) wl_RX9_58 wn_X9_needWithin ws_X9_needWithin wi_RX9 wc_X9_needWithin (T := TX9) (N1 := _) rfl (by decide +kernel) ⟨by decide, by decide⟩
  | 2, h1, h2 => cases h1; cases h2; exact callV_of Y (mX2_row hl) wl_RX9_62 wn_X2_row ws_X2_row wi_RX2 wc_X2_row (T := TX2) (N1 := _) rfl (by decide +kernel) ⟨by decide, by decide⟩
  | 3, h1, h2 => cases h1; cases h2; exact callV_of Y (mX1_save hl) wl_RX9_66 wn_X1_save ws_X1_save wi_RX1 wc_X1_save (T := TX1) (N1 := _) rfl (by decide +kernel) ⟨by decide, by decide⟩
  | 4, h1, h2 => cases h1; cases h2; exact callV_of Y (mX2_keep hl) wl_RX9_83 wn_X2_keep ws_X2_keep wi_RX2 wc_X2_keep (T := TX2) (N1 := _) rfl (by decide +kernel) ⟨by decide, by decide⟩
  | k + 5, h1, _ => simp at h1
def kX9_close (N : Nat) : List (Nat × Nat × SP) := [(1, 0, vsp N 2 (sX2_row N)), (2, 0, vsp N 1 (sX1_save N)), (1, 0, vsp N 1 (sX1_closeMonth N)), (2, 0, vsp N 1 (sX1_load N)), (2, 1, vsp N 9 (sX9_needState N)), (1, 0, vsp N 2 (sX2_keep N)), (1, 0, vsp N 1 (sX1_lastDepartment N))]
def sX9_close (N : Nat) : SP := RUN N pX9_close (kX9_close N) hd0 [] 2 (some .long) 1
theorem mX9_close {l : Launch} {N b : Nat} {D : va_G} {cA sa adV : Nat → Nat} (hl : l.stackTraces = false) : Cn l N b D cA sa adV yX9_close cX9_close 2 (some .long) 7 133 1 (sX9_close N) := by
  refine Cn_of (calls := kX9_close N) (by decide +kernel) oX9_close (hC_of (cidx := [(0, 62), (0, 66), (0, 123), (0, 80), (0, 92), (0, 83), (0, 127)]) (by decide +kernel) (fun p e s m args below meth c Q Y k kd x na mc tr h1 h2 => ?_)) (hT_no) (hL_of (by decide +kernel)) (fun _ _ => rfl) (fun _ _ _ _ h => h)
  match k, h1, h2 with
  | 0, h1, h2 => cases h1; cases h2; exact callV_of Y (mX2_row hl) wl_RX9_62 wn_X2_row ws_X2_row wi_RX2 wc_X2_row (T := TX2) (N1 := _) rfl (by decide +kernel) ⟨by decide, by decide⟩
  | 1, h1, h2 => cases h1; cases h2; exact callV_of Y (mX1_save hl) wl_RX9_66 wn_X1_save ws_X1_save wi_RX1 wc_X1_save (T := TX1) (N1 := _) rfl (by decide +kernel) ⟨by decide, by decide⟩
  | 2, h1, h2 => cases h1; cases h2; exact callV_of Y (mX1_closeMonth hl) wl_RX9_123 wn_X1_closeMonth ws_X1_closeMonth wi_RX1 wc_X1_closeMonth (T := TX1) (N1 := _) rfl (by decide +kernel) ⟨by decide, by decide⟩
  | 3, h1, h2 => cases h1; cases h2; exact callV_of Y (mX1_load hl) wl_RX9_80 wn_X1_load ws_X1_load wi_RX1 wc_X1_load (T := TX1) (N1 := _) rfl (by decide +kernel) ⟨by decide, by decide⟩
  | 4, h1, h2 => cases h1; cases h2; exact callV_of Y (mX9_needState hl) wl_RX9_92 wn_X9_needState ws_X9_needState wi_RX9 wc_X9_needState (T := TX9) (N1 := _) rfl (by decide +kernel) ⟨by decide, by decide⟩
  | 5, h1, h2 => cases h1; cases h2; exact callV_of Y (mX2_keep hl) wl_RX9_83 wn_X2_keep ws_X2_keep wi_RX2 wc_X2_keep (T := TX2) (N1 := _) rfl (by decide +kernel) ⟨by decide, by decide⟩
  | 6, h1, h2 => cases h1; cases h2; exact callV_of Y (mX1_lastDepartment hl) wl_RX9_127 wn_X1_lastDepartment ws_X1_lastDepartment wi_RX1 wc_X1_lastDepartment (T := TX1) (N1 := _) rfl (by decide +kernel) ⟨by decide, by decide⟩
  | k + 7, h1, _ => simp at h1
def kX9_needProduct (N : Nat) : List (Nat × Nat × SP) := []
def sX9_needProduct (N : Nat) : SP := RUN N pX9_needProduct (kX9_needProduct N) hd0 ["java/util/NoSuchElementException"] 2 (some (.object "ProcessDesk$Product")) 1
theorem mX9_needProduct {l : Launch} {N b : Nat} {D : va_G} {cA sa adV : Nat → Nat} (hl : l.stackTraces = false) : Cn l N b D cA sa adV yX9_needProduct cX9_needProduct 2 (some (.object "ProcessDesk$Product")) 6 90 1 (sX9_needProduct N) := by
  refine Cn_of (calls := kX9_needProduct N) (by decide +kernel) oX9_needProduct (hC_of (cidx := []) (by decide +kernel) (fun p e s m args below meth c Q Y k kd x na mc tr h1 h2 => ?_)) (tX9_needProduct hl) (hL_of (by decide +kernel)) (fun _ _ => rfl) (fun _ _ _ _ h => h)
  match k, h1, h2 with
  | k, h1, _ => simp at h1
def kX9_sell (N : Nat) : List (Nat × Nat × SP) := [(2, 1, vsp N 9 (sX9_needProduct N)), (4, 1, vsp N 9 (sX9_needWithin N)), (1, 0, vsp N 6 (sX6_unitsInStore N)), (2, 1, vsp N 9 (sX9_needState N)), (1, 0, vsp N 2 (sX2_row N)), (2, 0, vsp N 1 (sX1_save N)), (2, 0, vsp N 6 (sX6_takeOut N)), (1, 0, vsp N 2 (sX2_keep N))]
def sX9_sell (N : Nat) : SP := RUN N pX9_sell (kX9_sell N) hd0 [] 6 (some .long) 3
theorem mX9_sell {l : Launch} {N b : Nat} {D : va_G} {cA sa adV : Nat → Nat} (hl : l.stackTraces = false) : Cn l N b D cA sa adV yX9_sell cX9_sell 6 (some .long) 7 133 3 (sX9_sell N) := by
  refine Cn_of (calls := kX9_sell N) (by decide +kernel) oX9_sell (hC_of (cidx := [(0, 138), (0, 58), (0, 142), (0, 92), (0, 62), (0, 66), (0, 148), (0, 83)]) (by decide +kernel) (fun p e s m args below meth c Q Y k kd x na mc tr h1 h2 => ?_)) (hT_no) (hL_of (by decide +kernel)) (fun _ _ => rfl) (fun _ _ _ _ h => h)
  match k, h1, h2 with
  | 0, h1, h2 => cases h1; cases h2; exact callV_of Y (mX9_needProduct hl) wl_RX9_138 wn_X9_needProduct ws_X9_needProduct wi_RX9 wc_X9_needProduct (T := TX9) (N1 := _) rfl (by decide +kernel) ⟨by decide, by decide⟩
  | 1, h1, h2 => cases h1; cases h2; exact callV_of Y (mX9_needWithin hl) wl_RX9_58 wn_X9_needWithin ws_X9_needWithin wi_RX9 wc_X9_needWithin (T := TX9) (N1 := _) rfl (by decide +kernel) ⟨by decide, by decide⟩
  | 2, h1, h2 => cases h1; cases h2; exact callV_of Y (mX6_unitsInStore hl) wl_RX9_142 wn_X6_unitsInStore ws_X6_unitsInStore wi_RX6 wc_X6_unitsInStore (T := TX6) (N1 := _) rfl (by decide +kernel) ⟨by decide, by decide⟩
  | 3, h1, h2 => cases h1; cases h2; exact callV_of Y (mX9_needState hl) wl_RX9_92 wn_X9_needState ws_X9_needState wi_RX9 wc_X9_needState (T := TX9) (N1 := _) rfl (by decide +kernel) ⟨by decide, by decide⟩
  | 4, h1, h2 => cases h1; cases h2; exact callV_of Y (mX2_row hl) wl_RX9_62 wn_X2_row ws_X2_row wi_RX2 wc_X2_row (T := TX2) (N1 := _) rfl (by decide +kernel) ⟨by decide, by decide⟩
  | 5, h1, h2 => cases h1; cases h2; exact callV_of Y (mX1_save hl) wl_RX9_66 wn_X1_save ws_X1_save wi_RX1 wc_X1_save (T := TX1) (N1 := _) rfl (by decide +kernel) ⟨by decide, by decide⟩
  | 6, h1, h2 => cases h1; cases h2; exact callV_of Y (mX6_takeOut hl) wl_RX9_148 wn_X6_takeOut ws_X6_takeOut wi_RX6 wc_X6_takeOut (T := TX6) (N1 := _) rfl (by decide +kernel) ⟨by decide, by decide⟩
  | 7, h1, h2 => cases h1; cases h2; exact callV_of Y (mX2_keep hl) wl_RX9_83 wn_X2_keep ws_X2_keep wi_RX2 wc_X2_keep (T := TX2) (N1 := _) rfl (by decide +kernel) ⟨by decide, by decide⟩
  | k + 8, h1, _ => simp at h1
def kX9_undo (N : Nat) : List (Nat × Nat × SP) := [(1, 0, vsp N 2 (sX2_stepBack N)), (1, 0, vsp N 2 (sX2_row N)), (2, 0, vsp N 1 (sX1_load N))]
def sX9_undo (N : Nat) : SP := RUN N pX9_undo (kX9_undo N) hd0 [] 1 (some .int) 0
theorem mX9_undo {l : Launch} {N b : Nat} {D : va_G} {cA sa adV : Nat → Nat} (hl : l.stackTraces = false) : Cn l N b D cA sa adV yX9_undo cX9_undo 1 (some .int) 6 129 0 (sX9_undo N) := by
  refine Cn_of (calls := kX9_undo N) (by decide +kernel) oX9_undo (hC_of (cidx := [(0, 155), (0, 62), (0, 80)]) (by decide +kernel) (fun p e s m args below meth c Q Y k kd x na mc tr h1 h2 => ?_)) (hT_no) (hL_of (by decide +kernel)) (fun _ _ => rfl) (fun _ _ _ _ h => h)
  match k, h1, h2 with
  | 0, h1, h2 => cases h1; cases h2; exact callV_of Y (mX2_stepBack hl) wl_RX9_155 wn_X2_stepBack ws_X2_stepBack wi_RX2 wc_X2_stepBack (T := TX2) (N1 := _) rfl (by decide +kernel) ⟨by decide, by decide⟩
  | 1, h1, h2 => cases h1; cases h2; exact callV_of Y (mX2_row hl) wl_RX9_62 wn_X2_row ws_X2_row wi_RX2 wc_X2_row (T := TX2) (N1 := _) rfl (by decide +kernel) ⟨by decide, by decide⟩
  | 2, h1, h2 => cases h1; cases h2; exact callV_of Y (mX1_load hl) wl_RX9_80 wn_X1_load ws_X1_load wi_RX1 wc_X1_load (T := TX1) (N1 := _) rfl (by decide +kernel) ⟨by decide, by decide⟩
  | k + 3, h1, _ => simp at h1
def kX9_told (N : Nat) : List (Nat × Nat × SP) := [(4, 1, vsp N 9 (sX9_needWithin N))]
def sX9_told (N : Nat) : SP := RUN N pX9_told (kX9_told N) hd0 [] 2 (some .int) 1
theorem mX9_told {l : Launch} {N b : Nat} {D : va_G} {cA sa adV : Nat → Nat} (hl : l.stackTraces = false) : Cn l N b D cA sa adV yX9_told cX9_told 2 (some .int) 7 113 1 (sX9_told N) := by
  refine Cn_of (calls := kX9_told N) (by decide +kernel) oX9_told (hC_of (cidx := [(0, 58)]) (by decide +kernel) (fun p e s m args below meth c Q Y k kd x na mc tr h1 h2 => ?_)) (hT_no) (hL_of (by decide +kernel)) (fun _ _ => rfl) (fun _ _ _ _ h => h)
  match k, h1, h2 with
  | 0, h1, h2 => cases h1; cases h2; exact callV_of Y (mX9_needWithin hl) wl_RX9_58 wn_X9_needWithin ws_X9_needWithin wi_RX9 wc_X9_needWithin (T := TX9) (N1 := _) rfl (by decide +kernel) ⟨by decide, by decide⟩
  | k + 1, h1, _ => simp at h1
def kX9_department (N : Nat) : List (Nat × Nat × SP) := [(2, 1, vsp N 9 (sX9_needDepartment N)), (4, 1, vsp N 9 (sX9_needWithin N))]
def sX9_department (N : Nat) : SP := RUN N pX9_department (kX9_department N) hd0 [] 4 (some .int) 2
theorem mX9_department {l : Launch} {N b : Nat} {D : va_G} {cA sa adV : Nat → Nat} (hl : l.stackTraces = false) : Cn l N b D cA sa adV yX9_department cX9_department 4 (some .int) 7 113 2 (sX9_department N) := by
  refine Cn_of (calls := kX9_department N) (by decide +kernel) oX9_department (hC_of (cidx := [(0, 96), (0, 58)]) (by decide +kernel) (fun p e s m args below meth c Q Y k kd x na mc tr h1 h2 => ?_)) (hT_no) (hL_of (by decide +kernel)) (fun _ _ => rfl) (fun _ _ _ _ h => h)
  match k, h1, h2 with
  | 0, h1, h2 => cases h1; cases h2; exact callV_of Y (mX9_needDepartment hl) wl_RX9_96 wn_X9_needDepartment ws_X9_needDepartment wi_RX9 wc_X9_needDepartment (T := TX9) (N1 := _) rfl (by decide +kernel) ⟨by decide, by decide⟩
  | 1, h1, h2 => cases h1; cases h2; exact callV_of Y (mX9_needWithin hl) wl_RX9_58 wn_X9_needWithin ws_X9_needWithin wi_RX9 wc_X9_needWithin (T := TX9) (N1 := _) rfl (by decide +kernel) ⟨by decide, by decide⟩
  | k + 2, h1, _ => simp at h1
def kX9_product (N : Nat) : List (Nat × Nat × SP) := [(2, 1, vsp N 9 (sX9_needProduct N)), (4, 1, vsp N 9 (sX9_needWithin N))]
def sX9_product (N : Nat) : SP := RUN N pX9_product (kX9_product N) hd0 [] 4 (some .int) 2
theorem mX9_product {l : Launch} {N b : Nat} {D : va_G} {cA sa adV : Nat → Nat} (hl : l.stackTraces = false) : Cn l N b D cA sa adV yX9_product cX9_product 4 (some .int) 7 113 2 (sX9_product N) := by
  refine Cn_of (calls := kX9_product N) (by decide +kernel) oX9_product (hC_of (cidx := [(0, 138), (0, 58)]) (by decide +kernel) (fun p e s m args below meth c Q Y k kd x na mc tr h1 h2 => ?_)) (hT_no) (hL_of (by decide +kernel)) (fun _ _ => rfl) (fun _ _ _ _ h => h)
  match k, h1, h2 with
  | 0, h1, h2 => cases h1; cases h2; exact callV_of Y (mX9_needProduct hl) wl_RX9_138 wn_X9_needProduct ws_X9_needProduct wi_RX9 wc_X9_needProduct (T := TX9) (N1 := _) rfl (by decide +kernel) ⟨by decide, by decide⟩
  | 1, h1, h2 => cases h1; cases h2; exact callV_of Y (mX9_needWithin hl) wl_RX9_58 wn_X9_needWithin ws_X9_needWithin wi_RX9 wc_X9_needWithin (T := TX9) (N1 := _) rfl (by decide +kernel) ⟨by decide, by decide⟩
  | k + 2, h1, _ => simp at h1
def kX9_work (N : Nat) : List (Nat × Nat × SP) := [(2, 1, vsp N 9 (sX9_needDepartment N)), (4, 1, vsp N 9 (sX9_needWithin N))]
def sX9_work (N : Nat) : SP := RUN N pX9_work (kX9_work N) hd0 [] 4 (some .long) 2
theorem mX9_work {l : Launch} {N b : Nat} {D : va_G} {cA sa adV : Nat → Nat} (hl : l.stackTraces = false) : Cn l N b D cA sa adV yX9_work cX9_work 4 (some .long) 7 113 2 (sX9_work N) := by
  refine Cn_of (calls := kX9_work N) (by decide +kernel) oX9_work (hC_of (cidx := [(0, 96), (0, 58)]) (by decide +kernel) (fun p e s m args below meth c Q Y k kd x na mc tr h1 h2 => ?_)) (hT_no) (hL_of (by decide +kernel)) (fun _ _ => rfl) (fun _ _ _ _ h => h)
  match k, h1, h2 with
  | 0, h1, h2 => cases h1; cases h2; exact callV_of Y (mX9_needDepartment hl) wl_RX9_96 wn_X9_needDepartment ws_X9_needDepartment wi_RX9 wc_X9_needDepartment (T := TX9) (N1 := _) rfl (by decide +kernel) ⟨by decide, by decide⟩
  | 1, h1, h2 => cases h1; cases h2; exact callV_of Y (mX9_needWithin hl) wl_RX9_58 wn_X9_needWithin ws_X9_needWithin wi_RX9 wc_X9_needWithin (T := TX9) (N1 := _) rfl (by decide +kernel) ⟨by decide, by decide⟩
  | k + 2, h1, _ => simp at h1
def kX9_units (N : Nat) : List (Nat × Nat × SP) := [(2, 1, vsp N 9 (sX9_needDepartment N)), (4, 1, vsp N 9 (sX9_needWithin N))]
def sX9_units (N : Nat) : SP := RUN N pX9_units (kX9_units N) hd0 [] 4 (some .int) 2
theorem mX9_units {l : Launch} {N b : Nat} {D : va_G} {cA sa adV : Nat → Nat} (hl : l.stackTraces = false) : Cn l N b D cA sa adV yX9_units cX9_units 4 (some .int) 7 113 2 (sX9_units N) := by
  refine Cn_of (calls := kX9_units N) (by decide +kernel) oX9_units (hC_of (cidx := [(0, 96), (0, 58)]) (by decide +kernel) (fun p e s m args below meth c Q Y k kd x na mc tr h1 h2 => ?_)) (hT_no) (hL_of (by decide +kernel)) (fun _ _ => rfl) (fun _ _ _ _ h => h)
  match k, h1, h2 with
  | 0, h1, h2 => cases h1; cases h2; exact callV_of Y (mX9_needDepartment hl) wl_RX9_96 wn_X9_needDepartment ws_X9_needDepartment wi_RX9 wc_X9_needDepartment (T := TX9) (N1 := _) rfl (by decide +kernel) ⟨by decide, by decide⟩
  | 1, h1, h2 => cases h1; cases h2; exact callV_of Y (mX9_needWithin hl) wl_RX9_58 wn_X9_needWithin ws_X9_needWithin wi_RX9 wc_X9_needWithin (T := TX9) (N1 := _) rfl (by decide +kernel) ⟨by decide, by decide⟩
  | k + 2, h1, _ => simp at h1
def kX9_asDone (N : Nat) : List (Nat × Nat × SP) := [(2, 1, vsp N 9 (sX9_needDepartment N)), (4, 1, vsp N 9 (sX9_needKind N)), (4, 1, vsp N 9 (sX9_needWithin N)), (2, 0, vsp N 4 (sX4_allDone N))]
def sX9_asDone (N : Nat) : SP := RUN N pX9_asDone (kX9_asDone N) hd0 [] 6 (some .int) 3
theorem mX9_asDone {l : Launch} {N b : Nat} {D : va_G} {cA sa adV : Nat → Nat} (hl : l.stackTraces = false) : Cn l N b D cA sa adV yX9_asDone cX9_asDone 6 (some .int) 7 113 3 (sX9_asDone N) := by
  refine Cn_of (calls := kX9_asDone N) (by decide +kernel) oX9_asDone (hC_of (cidx := [(0, 96), (0, 100), (0, 58), (0, 242)]) (by decide +kernel) (fun p e s m args below meth c Q Y k kd x na mc tr h1 h2 => ?_)) (hT_no) (hL_of (by decide +kernel)) (fun _ _ => rfl) (fun _ _ _ _ h => h)
  match k, h1, h2 with
  | 0, h1, h2 => cases h1; cases h2; exact callV_of Y (mX9_needDepartment hl) wl_RX9_96 wn_X9_needDepartment ws_X9_needDepartment wi_RX9 wc_X9_needDepartment (T := TX9) (N1 := _) rfl (by decide +kernel) ⟨by decide, by decide⟩
  | 1, h1, h2 => cases h1; cases h2; exact callV_of Y (mX9_needKind hl) wl_RX9_100 wn_X9_needKind ws_X9_needKind wi_RX9 wc_X9_needKind (T := TX9) (N1 := _) rfl (by decide +kernel) ⟨by decide, by decide⟩
  | 2, h1, h2 => cases h1; cases h2; exact callV_of Y (mX9_needWithin hl) wl_RX9_58 wn_X9_needWithin ws_X9_needWithin wi_RX9 wc_X9_needWithin (T := TX9) (N1 := _) rfl (by decide +kernel) ⟨by decide, by decide⟩
  | 3, h1, h2 => cases h1; cases h2; exact callV_of Y (mX4_allDone hl) wl_RX9_242 wn_X4_allDone ws_X4_allDone wi_RX4 wc_X4_allDone (T := TX4) (N1 := _) rfl (by decide +kernel) ⟨by decide, by decide⟩
  | k + 4, h1, _ => simp at h1
def kX9_cents (N : Nat) : List (Nat × Nat × SP) := [(2, 1, vsp N 9 (sX9_needDepartment N)), (4, 1, vsp N 9 (sX9_needKind N)), (4, 1, vsp N 9 (sX9_needWithin N))]
def sX9_cents (N : Nat) : SP := RUN N pX9_cents (kX9_cents N) hd0 [] 6 (some .long) 3
theorem mX9_cents {l : Launch} {N b : Nat} {D : va_G} {cA sa adV : Nat → Nat} (hl : l.stackTraces = false) : Cn l N b D cA sa adV yX9_cents cX9_cents 6 (some .long) 7 113 3 (sX9_cents N) := by
  refine Cn_of (calls := kX9_cents N) (by decide +kernel) oX9_cents (hC_of (cidx := [(0, 96), (0, 100), (0, 58)]) (by decide +kernel) (fun p e s m args below meth c Q Y k kd x na mc tr h1 h2 => ?_)) (hT_no) (hL_of (by decide +kernel)) (fun _ _ => rfl) (fun _ _ _ _ h => h)
  match k, h1, h2 with
  | 0, h1, h2 => cases h1; cases h2; exact callV_of Y (mX9_needDepartment hl) wl_RX9_96 wn_X9_needDepartment ws_X9_needDepartment wi_RX9 wc_X9_needDepartment (T := TX9) (N1 := _) rfl (by decide +kernel) ⟨by decide, by decide⟩
  | 1, h1, h2 => cases h1; cases h2; exact callV_of Y (mX9_needKind hl) wl_RX9_100 wn_X9_needKind ws_X9_needKind wi_RX9 wc_X9_needKind (T := TX9) (N1 := _) rfl (by decide +kernel) ⟨by decide, by decide⟩
  | 2, h1, h2 => cases h1; cases h2; exact callV_of Y (mX9_needWithin hl) wl_RX9_58 wn_X9_needWithin ws_X9_needWithin wi_RX9 wc_X9_needWithin (T := TX9) (N1 := _) rfl (by decide +kernel) ⟨by decide, by decide⟩
  | k + 3, h1, _ => simp at h1
def kX9_loss (N : Nat) : List (Nat × Nat × SP) := [(2, 1, vsp N 9 (sX9_needDepartment N)), (4, 1, vsp N 9 (sX9_needWithin N)), (1, 0, vsp N 0 (sX0_scrapOfMonth N))]
def sX9_loss (N : Nat) : SP := RUN N pX9_loss (kX9_loss N) hd0 [] 5 (some .long) 2
theorem mX9_loss {l : Launch} {N b : Nat} {D : va_G} {cA sa adV : Nat → Nat} (hl : l.stackTraces = false) : Cn l N b D cA sa adV yX9_loss cX9_loss 5 (some .long) 7 113 2 (sX9_loss N) := by
  refine Cn_of (calls := kX9_loss N) (by decide +kernel) oX9_loss (hC_of (cidx := [(0, 96), (0, 58), (0, 272)]) (by decide +kernel) (fun p e s m args below meth c Q Y k kd x na mc tr h1 h2 => ?_)) (hT_no) (hL_of (by decide +kernel)) (fun _ _ => rfl) (fun _ _ _ _ h => h)
  match k, h1, h2 with
  | 0, h1, h2 => cases h1; cases h2; exact callV_of Y (mX9_needDepartment hl) wl_RX9_96 wn_X9_needDepartment ws_X9_needDepartment wi_RX9 wc_X9_needDepartment (T := TX9) (N1 := _) rfl (by decide +kernel) ⟨by decide, by decide⟩
  | 1, h1, h2 => cases h1; cases h2; exact callV_of Y (mX9_needWithin hl) wl_RX9_58 wn_X9_needWithin ws_X9_needWithin wi_RX9 wc_X9_needWithin (T := TX9) (N1 := _) rfl (by decide +kernel) ⟨by decide, by decide⟩
  | 2, h1, h2 => cases h1; cases h2; exact callV_of Y (mX0_scrapOfMonth hl) wl_RX9_272 wn_X0_scrapOfMonth ws_X0_scrapOfMonth wi_RX0 wc_X0_scrapOfMonth (T := TX0) (N1 := _) rfl (by decide +kernel) ⟨by decide, by decide⟩
  | k + 3, h1, _ => simp at h1
def kX9_other (N : Nat) : List (Nat × Nat × SP) := [(2, 1, vsp N 9 (sX9_needDepartment N)), (2, 0, vsp N 4 (sX4_copyGiven N)), (3, 0, vsp N 4 (sX4_reckon N))]
def sX9_other (N : Nat) : SP := RUN N pX9_other (kX9_other N) hd0 [] 4 (some .long) 1
theorem mX9_other {l : Launch} {N b : Nat} {D : va_G} {cA sa adV : Nat → Nat} (hl : l.stackTraces = false) : Cn l N b D cA sa adV yX9_other cX9_other 4 (some .long) 7 111 1 (sX9_other N) := by
  refine Cn_of (calls := kX9_other N) (by decide +kernel) oX9_other (hC_of (cidx := [(0, 96), (0, 277), (0, 281)]) (by decide +kernel) (fun p e s m args below meth c Q Y k kd x na mc tr h1 h2 => ?_)) (hT_no) (hL_of (by decide +kernel)) (fun _ _ => rfl) (fun _ _ _ _ h => h)
  match k, h1, h2 with
  | 0, h1, h2 => cases h1; cases h2; exact callV_of Y (mX9_needDepartment hl) wl_RX9_96 wn_X9_needDepartment ws_X9_needDepartment wi_RX9 wc_X9_needDepartment (T := TX9) (N1 := _) rfl (by decide +kernel) ⟨by decide, by decide⟩
  | 1, h1, h2 => cases h1; cases h2; exact callV_of Y (mX4_copyGiven hl) wl_RX9_277 wn_X4_copyGiven ws_X4_copyGiven wi_RX4 wc_X4_copyGiven (T := TX4) (N1 := _) rfl (by decide +kernel) ⟨by decide, by decide⟩
  | 2, h1, h2 => cases h1; cases h2; exact callV_of Y (mX4_reckon hl) wl_RX9_281 wn_X4_reckon ws_X4_reckon wi_RX4 wc_X4_reckon (T := TX4) (N1 := _) rfl (by decide +kernel) ⟨by decide, by decide⟩
  | k + 3, h1, _ => simp at h1
def kX9_parted (N : Nat) : List (Nat × Nat × SP) := [(2, 1, vsp N 9 (sX9_needProduct N)), (4, 1, vsp N 9 (sX9_needWithin N))]
def sX9_parted (N : Nat) : SP := RUN N pX9_parted (kX9_parted N) hd0 [] 4 (some .long) 2
theorem mX9_parted {l : Launch} {N b : Nat} {D : va_G} {cA sa adV : Nat → Nat} (hl : l.stackTraces = false) : Cn l N b D cA sa adV yX9_parted cX9_parted 4 (some .long) 7 113 2 (sX9_parted N) := by
  refine Cn_of (calls := kX9_parted N) (by decide +kernel) oX9_parted (hC_of (cidx := [(0, 138), (0, 58)]) (by decide +kernel) (fun p e s m args below meth c Q Y k kd x na mc tr h1 h2 => ?_)) (hT_no) (hL_of (by decide +kernel)) (fun _ _ => rfl) (fun _ _ _ _ h => h)
  match k, h1, h2 with
  | 0, h1, h2 => cases h1; cases h2; exact callV_of Y (mX9_needProduct hl) wl_RX9_138 wn_X9_needProduct ws_X9_needProduct wi_RX9 wc_X9_needProduct (T := TX9) (N1 := _) rfl (by decide +kernel) ⟨by decide, by decide⟩
  | 1, h1, h2 => cases h1; cases h2; exact callV_of Y (mX9_needWithin hl) wl_RX9_58 wn_X9_needWithin ws_X9_needWithin wi_RX9 wc_X9_needWithin (T := TX9) (N1 := _) rfl (by decide +kernel) ⟨by decide, by decide⟩
  | k + 2, h1, _ => simp at h1
def kX9_store (N : Nat) : List (Nat × Nat × SP) := [(2, 1, vsp N 9 (sX9_needProduct N)), (4, 1, vsp N 9 (sX9_needWithin N)), (1, 0, vsp N 6 (sX6_unitsInStore N)), (1, 0, vsp N 6 (sX6_centsInStore N))]
def sX9_store (N : Nat) : SP := RUN N pX9_store (kX9_store N) hd0 [] 4 (some .long) 2
theorem mX9_store {l : Launch} {N b : Nat} {D : va_G} {cA sa adV : Nat → Nat} (hl : l.stackTraces = false) : Cn l N b D cA sa adV yX9_store cX9_store 4 (some .long) 7 113 2 (sX9_store N) := by
  refine Cn_of (calls := kX9_store N) (by decide +kernel) oX9_store (hC_of (cidx := [(0, 138), (0, 58), (0, 142), (0, 292)]) (by decide +kernel) (fun p e s m args below meth c Q Y k kd x na mc tr h1 h2 => ?_)) (hT_no) (hL_of (by decide +kernel)) (fun _ _ => rfl) (fun _ _ _ _ h => h)
  match k, h1, h2 with
  | 0, h1, h2 => cases h1; cases h2; exact callV_of Y (mX9_needProduct hl) wl_RX9_138 wn_X9_needProduct ws_X9_needProduct wi_RX9 wc_X9_needProduct (T := TX9) (N1 := _) rfl (by decide +kernel) ⟨by decide, by decide⟩
  | 1, h1, h2 => cases h1; cases h2; exact callV_of Y (mX9_needWithin hl) wl_RX9_58 wn_X9_needWithin ws_X9_needWithin wi_RX9 wc_X9_needWithin (T := TX9) (N1 := _) rfl (by decide +kernel) ⟨by decide, by decide⟩
  | 2, h1, h2 => cases h1; cases h2; exact callV_of Y (mX6_unitsInStore hl) wl_RX9_142 wn_X6_unitsInStore ws_X6_unitsInStore wi_RX6 wc_X6_unitsInStore (T := TX6) (N1 := _) rfl (by decide +kernel) ⟨by decide, by decide⟩
  | 3, h1, h2 => cases h1; cases h2; exact callV_of Y (mX6_centsInStore hl) wl_RX9_292 wn_X6_centsInStore ws_X6_centsInStore wi_RX6 wc_X6_centsInStore (T := TX6) (N1 := _) rfl (by decide +kernel) ⟨by decide, by decide⟩
  | k + 4, h1, _ => simp at h1
def kX9_needLayer (N : Nat) : List (Nat × Nat × SP) := []
def sX9_needLayer (N : Nat) : SP := RUN N pX9_needLayer (kX9_needLayer N) hd0 ["java/util/NoSuchElementException"] 3 none 1
theorem mX9_needLayer {l : Launch} {N b : Nat} {D : va_G} {cA sa adV : Nat → Nat} (hl : l.stackTraces = false) : Cn l N b D cA sa adV yX9_needLayer cX9_needLayer 3 none 6 90 1 (sX9_needLayer N) := by
  refine Cn_of (calls := kX9_needLayer N) (by decide +kernel) oX9_needLayer (hC_of (cidx := []) (by decide +kernel) (fun p e s m args below meth c Q Y k kd x na mc tr h1 h2 => ?_)) (tX9_needLayer hl) (hL_of (by decide +kernel)) (fun _ _ => rfl) (fun _ _ _ _ h => h)
  match k, h1, h2 with
  | k, h1, _ => simp at h1
def kX9_layer (N : Nat) : List (Nat × Nat × SP) := [(2, 1, vsp N 9 (sX9_needProduct N)), (3, 1, vsp N 9 (sX9_needLayer N)), (4, 1, vsp N 9 (sX9_needWithin N))]
def sX9_layer (N : Nat) : SP := RUN N pX9_layer (kX9_layer N) hd0 [] 5 (some .long) 3
theorem mX9_layer {l : Launch} {N b : Nat} {D : va_G} {cA sa adV : Nat → Nat} (hl : l.stackTraces = false) : Cn l N b D cA sa adV yX9_layer cX9_layer 5 (some .long) 7 113 3 (sX9_layer N) := by
  refine Cn_of (calls := kX9_layer N) (by decide +kernel) oX9_layer (hC_of (cidx := [(0, 138), (0, 298), (0, 58)]) (by decide +kernel) (fun p e s m args below meth c Q Y k kd x na mc tr h1 h2 => ?_)) (hT_no) (hL_of (by decide +kernel)) (fun _ _ => rfl) (fun _ _ _ _ h => h)
  match k, h1, h2 with
  | 0, h1, h2 => cases h1; cases h2; exact callV_of Y (mX9_needProduct hl) wl_RX9_138 wn_X9_needProduct ws_X9_needProduct wi_RX9 wc_X9_needProduct (T := TX9) (N1 := _) rfl (by decide +kernel) ⟨by decide, by decide⟩
  | 1, h1, h2 => cases h1; cases h2; exact callV_of Y (mX9_needLayer hl) wl_RX9_298 wn_X9_needLayer ws_X9_needLayer wi_RX9 wc_X9_needLayer (T := TX9) (N1 := _) rfl (by decide +kernel) ⟨by decide, by decide⟩
  | 2, h1, h2 => cases h1; cases h2; exact callV_of Y (mX9_needWithin hl) wl_RX9_58 wn_X9_needWithin ws_X9_needWithin wi_RX9 wc_X9_needWithin (T := TX9) (N1 := _) rfl (by decide +kernel) ⟨by decide, by decide⟩
  | k + 3, h1, _ => simp at h1
def kX9_account (N : Nat) : List (Nat × Nat × SP) := [(4, 1, vsp N 9 (sX9_needWithin N)), (1, 0, vsp N 1 (sX1_centsInWork N)), (1, 0, vsp N 1 (sX1_centsInStore N))]
def sX9_account (N : Nat) : SP := RUN N pX9_account (kX9_account N) hd0 [] 2 (some .long) 1
theorem mX9_account {l : Launch} {N b : Nat} {D : va_G} {cA sa adV : Nat → Nat} (hl : l.stackTraces = false) : Cn l N b D cA sa adV yX9_account cX9_account 2 (some .long) 7 113 1 (sX9_account N) := by
  refine Cn_of (calls := kX9_account N) (by decide +kernel) oX9_account (hC_of (cidx := [(0, 58), (0, 317), (0, 320)]) (by decide +kernel) (fun p e s m args below meth c Q Y k kd x na mc tr h1 h2 => ?_)) (hT_no) (hL_of (by decide +kernel)) (fun _ _ => rfl) (fun _ _ _ _ h => h)
  match k, h1, h2 with
  | 0, h1, h2 => cases h1; cases h2; exact callV_of Y (mX9_needWithin hl) wl_RX9_58 wn_X9_needWithin ws_X9_needWithin wi_RX9 wc_X9_needWithin (T := TX9) (N1 := _) rfl (by decide +kernel) ⟨by decide, by decide⟩
  | 1, h1, h2 => cases h1; cases h2; exact callV_of Y (mX1_centsInWork hl) wl_RX9_317 wn_X1_centsInWork ws_X1_centsInWork wi_RX1 wc_X1_centsInWork (T := TX1) (N1 := _) rfl (by decide +kernel) ⟨by decide, by decide⟩
  | 2, h1, h2 => cases h1; cases h2; exact callV_of Y (mX1_centsInStore hl) wl_RX9_320 wn_X1_centsInStore ws_X1_centsInStore wi_RX1 wc_X1_centsInStore (T := TX1) (N1 := _) rfl (by decide +kernel) ⟨by decide, by decide⟩
  | k + 3, h1, _ => simp at h1
def kX9_plan (N : Nat) : List (Nat × Nat × SP) := [(4, 1, vsp N 9 (sX9_needWithin N)), (2, 1, vsp N 9 (sX9_needDepartment N)), (3, 0, vsp N 5 (sX5_settle N)), (2, 0, vsp N 5 (sX5_passing N))]
def sX9_plan (N : Nat) : SP := RUN N pX9_plan (kX9_plan N) hd0 [] 3 (some .long) 3
theorem mX9_plan {l : Launch} {N b : Nat} {D : va_G} {cA sa adV : Nat → Nat} (hl : l.stackTraces = false) : Cn l N b D cA sa adV yX9_plan cX9_plan 3 (some .long) 7 113 3 (sX9_plan N) := by
  refine Cn_of (calls := kX9_plan N) (by decide +kernel) oX9_plan (hC_of (cidx := [(0, 58), (0, 96), (0, 321), (0, 324)]) (by decide +kernel) (fun p e s m args below meth c Q Y k kd x na mc tr h1 h2 => ?_)) (hT_no) (hL_of (by decide +kernel)) (fun _ _ => rfl) (fun _ _ _ _ h => h)
  match k, h1, h2 with
  | 0, h1, h2 => cases h1; cases h2; exact callV_of Y (mX9_needWithin hl) wl_RX9_58 wn_X9_needWithin ws_X9_needWithin wi_RX9 wc_X9_needWithin (T := TX9) (N1 := _) rfl (by decide +kernel) ⟨by decide, by decide⟩
  | 1, h1, h2 => cases h1; cases h2; exact callV_of Y (mX9_needDepartment hl) wl_RX9_96 wn_X9_needDepartment ws_X9_needDepartment wi_RX9 wc_X9_needDepartment (T := TX9) (N1 := _) rfl (by decide +kernel) ⟨by decide, by decide⟩
  | 2, h1, h2 => cases h1; cases h2; exact callV_of Y (mX5_settle hl) wl_RX9_321 wn_X5_settle ws_X5_settle wi_RX5 wc_X5_settle (T := TX5) (N1 := _) rfl (by decide +kernel) ⟨by decide, by decide⟩
  | 3, h1, h2 => cases h1; cases h2; exact callV_of Y (mX5_passing hl) wl_RX9_324 wn_X5_passing ws_X5_passing wi_RX5 wc_X5_passing (T := TX5) (N1 := _) rfl (by decide +kernel) ⟨by decide, by decide⟩
  | k + 4, h1, _ => simp at h1
def kX9_print (N : Nat) : List (Nat × Nat × SP) := [(1, 0, vsp N 1 (sX1_printed N))]
def sX9_print (N : Nat) : SP := RUN N pX9_print (kX9_print N) hd0 [] 1 (some .long) 0
theorem mX9_print {l : Launch} {N b : Nat} {D : va_G} {cA sa adV : Nat → Nat} (hl : l.stackTraces = false) : Cn l N b D cA sa adV yX9_print cX9_print 1 (some .long) 2 51 0 (sX9_print N) := by
  refine Cn_of (calls := kX9_print N) (by decide +kernel) oX9_print (hC_of (cidx := [(0, 334)]) (by decide +kernel) (fun p e s m args below meth c Q Y k kd x na mc tr h1 h2 => ?_)) (hT_no) (hL_of (by decide +kernel)) (fun _ _ => rfl) (fun _ _ _ _ h => h)
  match k, h1, h2 with
  | 0, h1, h2 => cases h1; cases h2; exact callV_of Y (mX1_printed hl) wl_RX9_334 wn_X1_printed ws_X1_printed wi_RX1 wc_X1_printed (T := TX1) (N1 := _) rfl (by decide +kernel) ⟨by decide, by decide⟩
  | k + 1, h1, _ => simp at h1
def kX9_status (N : Nat) : List (Nat × Nat × SP) := []
def sX9_status (N : Nat) : SP := RUN N pX9_status (kX9_status N) hd0 [] 2 (some .int) 0
theorem mX9_status {l : Launch} {N b : Nat} {D : va_G} {cA sa adV : Nat → Nat} (hl : l.stackTraces = false) : Cn l N b D cA sa adV yX9_status cX9_status 2 (some .int) 0 0 0 (sX9_status N) := by
  refine Cn_of (calls := kX9_status N) (by decide +kernel) oX9_status (hC_of (cidx := []) (by decide +kernel) (fun p e s m args below meth c Q Y k kd x na mc tr h1 h2 => ?_)) (hT_no) (hL_of (by decide +kernel)) (fun _ _ => rfl) (fun _ _ _ _ h => h)
  match k, h1, h2 with
  | k, h1, _ => simp at h1
def kX10_begins (N : Nat) : List (Nat × Nat × SP) := []
def sX10_begins (N : Nat) : SP := RUN N pX10_begins (kX10_begins N) hd0 [] 2 none 0
theorem mX10_begins {l : Launch} {N b : Nat} {D : va_G} {cA sa adV : Nat → Nat} (hl : l.stackTraces = false) : Cn l N b D cA sa adV yX10_begins cX10_begins 2 none 0 0 0 (sX10_begins N) := by
  refine Cn_of (calls := kX10_begins N) (by decide +kernel) oX10_begins (hC_of (cidx := []) (by decide +kernel) (fun p e s m args below meth c Q Y k kd x na mc tr h1 h2 => ?_)) (hT_no) (hL_of (by decide +kernel)) (fun _ _ => rfl) (fun _ _ _ _ h => h)
  match k, h1, h2 with
  | k, h1, _ => simp at h1
def kX10_dept (N : Nat) : List (Nat × Nat × SP) := []
def sX10_dept (N : Nat) : SP := RUN N pX10_dept (kX10_dept N) hd0 [] 7 none 0
theorem mX10_dept {l : Launch} {N b : Nat} {D : va_G} {cA sa adV : Nat → Nat} (hl : l.stackTraces = false) : Cn l N b D cA sa adV yX10_dept cX10_dept 7 none 0 0 0 (sX10_dept N) := by
  refine Cn_of (calls := kX10_dept N) (by decide +kernel) oX10_dept (hC_of (cidx := []) (by decide +kernel) (fun p e s m args below meth c Q Y k kd x na mc tr h1 h2 => ?_)) (hT_no) (hL_of (by decide +kernel)) (fun _ _ => rfl) (fun _ _ _ _ h => h)
  match k, h1, h2 with
  | k, h1, _ => simp at h1
def kX10_thrown (N : Nat) : List (Nat × Nat × SP) := []
def sX10_thrown (N : Nat) : SP := RUN N pX10_thrown (kX10_thrown N) hd0 [] 1 (some .int) 0
theorem mX10_thrown {l : Launch} {N b : Nat} {D : va_G} {cA sa adV : Nat → Nat} (hl : l.stackTraces = false) : Cn l N b D cA sa adV yX10_thrown cX10_thrown 1 (some .int) 0 0 0 (sX10_thrown N) := by
  refine Cn_of (calls := kX10_thrown N) (by decide +kernel) oX10_thrown (hC_of (cidx := []) (by decide +kernel) (fun p e s m args below meth c Q Y k kd x na mc tr h1 h2 => ?_)) (hT_no) (hL_of (by decide +kernel)) (fun _ _ => rfl) (fun _ _ _ _ h => h)
  match k, h1, h2 with
  | k, h1, _ => simp at h1
def kX10_bad (N : Nat) : List (Nat × Nat × SP) := []
def sX10_bad (N : Nat) : SP := RUN N pX10_bad (kX10_bad N) hd0 [] 4 (some .boolean) 0
theorem mX10_bad {l : Launch} {N b : Nat} {D : va_G} {cA sa adV : Nat → Nat} (hl : l.stackTraces = false) : Cn l N b D cA sa adV yX10_bad cX10_bad 4 (some .boolean) 0 0 0 (sX10_bad N) := by
  refine Cn_of (calls := kX10_bad N) (by decide +kernel) oX10_bad (hC_of (cidx := []) (by decide +kernel) (fun p e s m args below meth c Q Y k kd x na mc tr h1 h2 => ?_)) (hT_no) (hL_of (by decide +kernel)) (fun _ _ => rfl) (fun _ _ _ _ h => h)
  match k, h1, h2 with
  | k, h1, _ => simp at h1
def kX10_in (N : Nat) : List (Nat × Nat × SP) := []
def sX10_in (N : Nat) : SP := RUN N pX10_in (kX10_in N) hd0 [] 6 (some .boolean) 0
theorem mX10_in {l : Launch} {N b : Nat} {D : va_G} {cA sa adV : Nat → Nat} (hl : l.stackTraces = false) : Cn l N b D cA sa adV yX10_in cX10_in 6 (some .boolean) 0 0 0 (sX10_in N) := by
  refine Cn_of (calls := kX10_in N) (by decide +kernel) oX10_in (hC_of (cidx := []) (by decide +kernel) (fun p e s m args below meth c Q Y k kd x na mc tr h1 h2 => ?_)) (hT_no) (hL_of (by decide +kernel)) (fun _ _ => rfl) (fun _ _ _ _ h => h)
  match k, h1, h2 with
  | k, h1, _ => simp at h1
def kX10_less (N : Nat) : List (Nat × Nat × SP) := []
def sX10_less (N : Nat) : SP := RUN N pX10_less (kX10_less N) hd0 [] 4 (some .long) 0
theorem mX10_less {l : Launch} {N b : Nat} {D : va_G} {cA sa adV : Nat → Nat} (hl : l.stackTraces = false) : Cn l N b D cA sa adV yX10_less cX10_less 4 (some .long) 0 0 0 (sX10_less N) := by
  refine Cn_of (calls := kX10_less N) (by decide +kernel) oX10_less (hC_of (cidx := []) (by decide +kernel) (fun p e s m args below meth c Q Y k kd x na mc tr h1 h2 => ?_)) (hT_no) (hL_of (by decide +kernel)) (fun _ _ => rfl) (fun _ _ _ _ h => h)
  match k, h1, h2 with
  | k, h1, _ => simp at h1
def kX10_more (N : Nat) : List (Nat × Nat × SP) := []
def sX10_more (N : Nat) : SP := RUN N pX10_more (kX10_more N) hd0 [] 4 (some .long) 0
theorem mX10_more {l : Launch} {N b : Nat} {D : va_G} {cA sa adV : Nat → Nat} (hl : l.stackTraces = false) : Cn l N b D cA sa adV yX10_more cX10_more 4 (some .long) 0 0 0 (sX10_more N) := by
  refine Cn_of (calls := kX10_more N) (by decide +kernel) oX10_more (hC_of (cidx := []) (by decide +kernel) (fun p e s m args below meth c Q Y k kd x na mc tr h1 h2 => ?_)) (hT_no) (hL_of (by decide +kernel)) (fun _ _ => rfl) (fun _ _ _ _ h => h)
  match k, h1, h2 with
  | k, h1, _ => simp at h1
