def kX5_turn : List (Nat × Nat × SP) := [(2, 0, vsp 0 sX0_passingOf), (2, 0, vsp 0 sX0_backOf), (2, 0, vsp 5 sX5_takeFresh)]
def sX5_turn : SP := RUN pX5_turn kX5_turn hd0 [] 5 (some .boolean) 0
theorem mX5_turn {l : Launch} {b : Nat} {D : va_G} {cA sa adV : Nat → Nat} (hl : l.stackTraces = false) : Cn l b D cA sa adV yX5_turn cX5_turn 5 (some .boolean) 2 44 0 sX5_turn := by
  refine Cn_of (calls := kX5_turn) (by decide +kernel) oX5_turn (hC_of (cidx := [(0, 46), (0, 57), (0, 60)]) (by decide +kernel) (fun p e s m args below meth c Q Y k kd x na mc tr h1 h2 => ?_)) (hT_no) (hL_of (by decide +kernel)) (fun _ _ => rfl) (fun _ _ _ _ h => h)
  match k, h1, h2 with
  | 0, h1, h2 => cases h1; cases h2; exact callV_of Y (mX0_passingOf hl) wl_RX5_46 wn_X0_passingOf ws_X0_passingOf wi_RX0 wc_X0_passingOf (T := TX0) (N := _) rfl (by decide +kernel) ⟨by decide, by decide⟩
  | 1, h1, h2 => cases h1; cases h2; exact callV_of Y (mX0_backOf hl) wl_RX5_57 wn_X0_backOf ws_X0_backOf wi_RX0 wc_X0_backOf (T := TX0) (N := _) rfl (by decide +kernel) ⟨by decide, by decide⟩
  | 2, h1, h2 => cases h1; cases h2; exact callV_of Y (mX5_takeFresh hl) wl_RX5_60 wn_X5_takeFresh ws_X5_takeFresh wi_RX5 wc_X5_takeFresh (T := TX5) (N := _) rfl (by decide +kernel) ⟨by decide, by decide⟩
  | k + 3, h1, _ => simp at h1
def kX5_settle : List (Nat × Nat × SP) := [(1, 0, nsp sX9_clearAll), (3, 0, vsp 5 sX5_turn)]
def sX5_settle : SP := RUN pX5_settle kX5_settle hd0 [] 3 none 0
theorem mX5_settle {l : Launch} {b : Nat} {D : va_G} {cA sa adV : Nat → Nat} (hl : l.stackTraces = false) : Cn l b D cA sa adV yX5_settle cX5_settle 3 none 3 68 0 sX5_settle := by
  refine Cn_of (calls := kX5_settle) (by decide +kernel) oX5_settle (hC_of (cidx := [(1, 18), (0, 27)]) (by decide +kernel) (fun p e s m args below meth c Q Y k kd x na mc tr h1 h2 => ?_)) (hT_no) (hL_of (by decide +kernel)) (fun _ _ => rfl) (fun _ _ _ _ h => h)
  match k, h1, h2 with
  | 0, h1, h2 => cases h1; cases h2; exact callSN_of Y (mX9_clearAll hl) wl_RX5_18 wt_X9_clearAll wi_RX9 wc_X9_clearAll (by decide +kernel) ⟨by decide, by decide⟩
  | 1, h1, h2 => cases h1; cases h2; exact callV_of Y (mX5_turn hl) wl_RX5_27 wn_X5_turn ws_X5_turn wi_RX5 wc_X5_turn (T := TX5) (N := _) rfl (by decide +kernel) ⟨by decide, by decide⟩
  | k + 2, h1, _ => simp at h1
def kX5_passing : List (Nat × Nat × SP) := [(2, 0, spMaxI), (2, 0, vsp 0 sX0_passingOf)]
def sX5_passing : SP := RUN pX5_passing kX5_passing hd0 [] 3 (some .long) 0
theorem mX5_passing {l : Launch} {b : Nat} {D : va_G} {cA sa adV : Nat → Nat} (hl : l.stackTraces = false) : Cn l b D cA sa adV yX5_passing cX5_passing 3 (some .long) 2 44 0 sX5_passing := by
  refine Cn_of (calls := kX5_passing) (by decide +kernel) oX5_passing (hC_of (cidx := [(1, 36), (0, 46)]) (by decide +kernel) (fun p e s m args below meth c Q Y k kd x na mc tr h1 h2 => ?_)) (hT_no) (hL_of (by decide +kernel)) (fun _ _ => rfl) (fun _ _ _ _ h => h)
  match k, h1, h2 with
  | 0, h1, h2 => cases h1; cases h2; exact callMaxI_of Y (wG_at (w := .methodLink RX5 36 Lib.Math.max.name) 1234 (by decide +kernel) rfl) ⟨by decide, by decide⟩
  | 1, h1, h2 => cases h1; cases h2; exact callV_of Y (mX0_passingOf hl) wl_RX5_46 wn_X0_passingOf ws_X0_passingOf wi_RX0 wc_X0_passingOf (T := TX0) (N := _) rfl (by decide +kernel) ⟨by decide, by decide⟩
  | k + 2, h1, _ => simp at h1
def kX6_dropOldest : List (Nat × Nat × SP) := []
def sX6_dropOldest : SP := RUN pX6_dropOldest kX6_dropOldest hd0 [] 3 none 0
theorem mX6_dropOldest {l : Launch} {b : Nat} {D : va_G} {cA sa adV : Nat → Nat} (hl : l.stackTraces = false) : Cn l b D cA sa adV yX6_dropOldest cX6_dropOldest 3 none 0 0 0 sX6_dropOldest := by
  refine Cn_of (calls := kX6_dropOldest) (by decide +kernel) oX6_dropOldest (hC_of (cidx := []) (by decide +kernel) (fun p e s m args below meth c Q Y k kd x na mc tr h1 h2 => ?_)) (hT_no) (hL_of (by decide +kernel)) (fun _ _ => rfl) (fun _ _ _ _ h => h)
  match k, h1, h2 with
  | k, h1, _ => simp at h1
def kX6_takeOut : List (Nat × Nat × SP) := [(3, 0, nsp sX9_partOf), (2, 0, vsp 6 sX6_dropOldest)]
def sX6_takeOut : SP := RUN pX6_takeOut kX6_takeOut hd0 [] 9 (some .long) 0
theorem mX6_takeOut {l : Launch} {b : Nat} {D : va_G} {cA sa adV : Nat → Nat} (hl : l.stackTraces = false) : Cn l b D cA sa adV yX6_takeOut cX6_takeOut 9 (some .long) 1 25 0 sX6_takeOut := by
  refine Cn_of (calls := kX6_takeOut) (by decide +kernel) oX6_takeOut (hC_of (cidx := [(1, 54), (0, 58)]) (by decide +kernel) (fun p e s m args below meth c Q Y k kd x na mc tr h1 h2 => ?_)) (hT_no) (hL_of (by decide +kernel)) (fun _ _ => rfl) (fun _ _ _ _ h => h)
  match k, h1, h2 with
  | 0, h1, h2 => cases h1; cases h2; exact callSN_of Y (mX9_partOf hl) wl_RX6_54 wt_X9_partOf wi_RX9 wc_X9_partOf (by decide +kernel) ⟨by decide, by decide⟩
  | 1, h1, h2 => cases h1; cases h2; exact callV_of Y (mX6_dropOldest hl) wl_RX6_58 wn_X6_dropOldest ws_X6_dropOldest wi_RX6 wc_X6_dropOldest (T := TX6) (N := _) rfl (by decide +kernel) ⟨by decide, by decide⟩
  | k + 2, h1, _ => simp at h1
def kX8_putFour : List (Nat × Nat × SP) := []
def sX8_putFour : SP := RUN pX8_putFour kX8_putFour hd0 [] 3 none 0
theorem mX8_putFour {l : Launch} {b : Nat} {D : va_G} {cA sa adV : Nat → Nat} (hl : l.stackTraces = false) : Cn l b D cA sa adV yX8_putFour cX8_putFour 3 none 0 0 0 sX8_putFour := by
  refine Cn_of (calls := kX8_putFour) (by decide +kernel) oX8_putFour (hC_of (cidx := []) (by decide +kernel) (fun p e s m args below meth c Q Y k kd x na mc tr h1 h2 => ?_)) (hT_no) (hL_of (by decide +kernel)) (fun _ _ => rfl) (fun _ _ _ _ h => h)
  match k, h1, h2 with
  | k, h1, _ => simp at h1
def kX8_skipBlanks : List (Nat × Nat × SP) := []
def sX8_skipBlanks : SP := RUN pX8_skipBlanks kX8_skipBlanks hd0 [] 1 none 0
theorem mX8_skipBlanks {l : Launch} {b : Nat} {D : va_G} {cA sa adV : Nat → Nat} (hl : l.stackTraces = false) : Cn l b D cA sa adV yX8_skipBlanks cX8_skipBlanks 1 none 0 0 0 sX8_skipBlanks := by
  refine Cn_of (calls := kX8_skipBlanks) (by decide +kernel) oX8_skipBlanks (hC_of (cidx := []) (by decide +kernel) (fun p e s m args below meth c Q Y k kd x na mc tr h1 h2 => ?_)) (hT_no) (hL_of (by decide +kernel)) (fun _ _ => rfl) (fun _ _ _ _ h => h)
  match k, h1, h2 with
  | k, h1, _ => simp at h1
def kX8_atEnd : List (Nat × Nat × SP) := [(1, 0, vsp 8 sX8_skipBlanks)]
def sX8_atEnd : SP := RUN pX8_atEnd kX8_atEnd hd0 [] 1 (some .boolean) 0
theorem mX8_atEnd {l : Launch} {b : Nat} {D : va_G} {cA sa adV : Nat → Nat} (hl : l.stackTraces = false) : Cn l b D cA sa adV yX8_atEnd cX8_atEnd 1 (some .boolean) 1 20 0 sX8_atEnd := by
  refine Cn_of (calls := kX8_atEnd) (by decide +kernel) oX8_atEnd (hC_of (cidx := [(0, 182)]) (by decide +kernel) (fun p e s m args below meth c Q Y k kd x na mc tr h1 h2 => ?_)) (hT_no) (hL_of (by decide +kernel)) (fun _ _ => rfl) (fun _ _ _ _ h => h)
  match k, h1, h2 with
  | 0, h1, h2 => cases h1; cases h2; exact callV_of Y (mX8_skipBlanks hl) wl_RX8_182 wn_X8_skipBlanks ws_X8_skipBlanks wi_RX8 wc_X8_skipBlanks (T := TX8) (N := _) rfl (by decide +kernel) ⟨by decide, by decide⟩
  | k + 1, h1, _ => simp at h1
def kX8_isLetter : List (Nat × Nat × SP) := []
def sX8_isLetter : SP := RUN pX8_isLetter kX8_isLetter hd0 [] 1 (some .boolean) 0
theorem mX8_isLetter {l : Launch} {b : Nat} {D : va_G} {cA sa adV : Nat → Nat} (hl : l.stackTraces = false) : Cn l b D cA sa adV yX8_isLetter cX8_isLetter 1 (some .boolean) 0 0 0 sX8_isLetter := by
  refine Cn_of (calls := kX8_isLetter) (by decide +kernel) oX8_isLetter (hC_of (cidx := []) (by decide +kernel) (fun p e s m args below meth c Q Y k kd x na mc tr h1 h2 => ?_)) (hT_no) (hL_of (by decide +kernel)) (fun _ _ => rfl) (fun _ _ _ _ h => h)
  match k, h1, h2 with
  | k, h1, _ => simp at h1
def kX8_readWord : List (Nat × Nat × SP) := [(1, 0, vsp 8 sX8_skipBlanks), (1, 0, sX8_isLetter)]
def sX8_readWord : SP := RUN pX8_readWord kX8_readWord hd0 [] 1 none 0
theorem mX8_readWord {l : Launch} {b : Nat} {D : va_G} {cA sa adV : Nat → Nat} (hl : l.stackTraces = false) : Cn l b D cA sa adV yX8_readWord cX8_readWord 1 none 1 20 0 sX8_readWord := by
  refine Cn_of (calls := kX8_readWord) (by decide +kernel) oX8_readWord (hC_of (cidx := [(0, 182), (1, 185)]) (by decide +kernel) (fun p e s m args below meth c Q Y k kd x na mc tr h1 h2 => ?_)) (hT_no) (hL_of (by decide +kernel)) (fun _ _ => rfl) (fun _ _ _ _ h => h)
  match k, h1, h2 with
  | 0, h1, h2 => cases h1; cases h2; exact callV_of Y (mX8_skipBlanks hl) wl_RX8_182 wn_X8_skipBlanks ws_X8_skipBlanks wi_RX8 wc_X8_skipBlanks (T := TX8) (N := _) rfl (by decide +kernel) ⟨by decide, by decide⟩
  | 1, h1, h2 => cases h1; cases h2; exact callS_of Y (mX8_isLetter hl) wl_RX8_185 wt_X8_isLetter wi_RX8 wc_X8_isLetter (by decide +kernel) ⟨by decide, by decide⟩
  | k + 2, h1, _ => simp at h1
def kX8_isWord : List (Nat × Nat × SP) := [(1, 0, spLen), (2, 0, spChar)]
def sX8_isWord : SP := RUN pX8_isWord kX8_isWord hd0 [] 3 (some .boolean) 0
theorem mX8_isWord {l : Launch} {b : Nat} {D : va_G} {cA sa adV : Nat → Nat} (hl : l.stackTraces = false) : Cn l b D cA sa adV yX8_isWord cX8_isWord 3 (some .boolean) 4 141 0 sX8_isWord := by
  refine Cn_of (calls := kX8_isWord) (by decide +kernel) oX8_isWord (hC_of (cidx := [(0, 189), (0, 194)]) (by decide +kernel) (fun p e s m args below meth c Q Y k kd x na mc tr h1 h2 => ?_)) (hT_no) (hL_of (by decide +kernel)) (fun _ _ => rfl) (fun _ _ _ _ h => h)
  match k, h1, h2 with
  | 0, h1, h2 => cases h1; cases h2; exact callLen_of Y (wG_at 744 (by decide +kernel) rfl) ⟨by decide, by decide⟩
  | 1, h1, h2 => cases h1; cases h2; exact callChar_of Y (wG_at 754 (by decide +kernel) rfl) ⟨by decide, by decide⟩
  | k + 2, h1, _ => simp at h1
def kX8_refuse : List (Nat × Nat × SP) := []
def sX8_refuse : SP := RUN pX8_refuse kX8_refuse hd0 [] 3 (some .boolean) 0
theorem mX8_refuse {l : Launch} {b : Nat} {D : va_G} {cA sa adV : Nat → Nat} (hl : l.stackTraces = false) : Cn l b D cA sa adV yX8_refuse cX8_refuse 3 (some .boolean) 0 0 0 sX8_refuse := by
  refine Cn_of (calls := kX8_refuse) (by decide +kernel) oX8_refuse (hC_of (cidx := []) (by decide +kernel) (fun p e s m args below meth c Q Y k kd x na mc tr h1 h2 => ?_)) (hT_no) (hL_of (by decide +kernel)) (fun _ _ => rfl) (fun _ _ _ _ h => h)
  match k, h1, h2 with
  | k, h1, _ => simp at h1
def kX8_readWay : List (Nat × Nat × SP) := [(1, 0, vsp 8 sX8_readWord), (2, 0, vsp 8 sX8_isWord), (3, 0, vsp 8 sX8_refuse)]
def sX8_readWay : SP := RUN pX8_readWay kX8_readWay hd0 [] 1 (some .boolean) 0
theorem mX8_readWay {l : Launch} {b : Nat} {D : va_G} {cA sa adV : Nat → Nat} (hl : l.stackTraces = false) : Cn l b D cA sa adV yX8_readWay cX8_readWay 1 (some .boolean) 5 163 0 sX8_readWay := by
  refine Cn_of (calls := kX8_readWay) (by decide +kernel) oX8_readWay (hC_of (cidx := [(0, 79), (0, 84), (0, 57)]) (by decide +kernel) (fun p e s m args below meth c Q Y k kd x na mc tr h1 h2 => ?_)) (hT_no) (hL_of (by decide +kernel)) (fun _ _ => rfl) (fun _ _ _ _ h => h)
  match k, h1, h2 with
  | 0, h1, h2 => cases h1; cases h2; exact callV_of Y (mX8_readWord hl) wl_RX8_79 wn_X8_readWord ws_X8_readWord wi_RX8 wc_X8_readWord (T := TX8) (N := _) rfl (by decide +kernel) ⟨by decide, by decide⟩
  | 1, h1, h2 => cases h1; cases h2; exact callV_of Y (mX8_isWord hl) wl_RX8_84 wn_X8_isWord ws_X8_isWord wi_RX8 wc_X8_isWord (T := TX8) (N := _) rfl (by decide +kernel) ⟨by decide, by decide⟩
  | 2, h1, h2 => cases h1; cases h2; exact callV_of Y (mX8_refuse hl) wl_RX8_57 wn_X8_refuse ws_X8_refuse wi_RX8 wc_X8_refuse (T := TX8) (N := _) rfl (by decide +kernel) ⟨by decide, by decide⟩
  | k + 3, h1, _ => simp at h1
def kX8_isDigit : List (Nat × Nat × SP) := []
def sX8_isDigit : SP := RUN pX8_isDigit kX8_isDigit hd0 [] 1 (some .boolean) 0
theorem mX8_isDigit {l : Launch} {b : Nat} {D : va_G} {cA sa adV : Nat → Nat} (hl : l.stackTraces = false) : Cn l b D cA sa adV yX8_isDigit cX8_isDigit 1 (some .boolean) 0 0 0 sX8_isDigit := by
  refine Cn_of (calls := kX8_isDigit) (by decide +kernel) oX8_isDigit (hC_of (cidx := []) (by decide +kernel) (fun p e s m args below meth c Q Y k kd x na mc tr h1 h2 => ?_)) (hT_no) (hL_of (by decide +kernel)) (fun _ _ => rfl) (fun _ _ _ _ h => h)
  match k, h1, h2 with
  | k, h1, _ => simp at h1
def kX8_readNumber : List (Nat × Nat × SP) := [(1, 0, vsp 8 sX8_skipBlanks), (1, 0, sX8_isDigit), (2, 0, spMinI), (3, 0, vsp 8 sX8_refuse)]
def sX8_readNumber : SP := RUN pX8_readNumber kX8_readNumber hd0 [] 4 (some .boolean) 0
theorem mX8_readNumber {l : Launch} {b : Nat} {D : va_G} {cA sa adV : Nat → Nat} (hl : l.stackTraces = false) : Cn l b D cA sa adV yX8_readNumber cX8_readNumber 4 (some .boolean) 1 23 0 sX8_readNumber := by
  refine Cn_of (calls := kX8_readNumber) (by decide +kernel) oX8_readNumber (hC_of (cidx := [(0, 182), (1, 198), (1, 24), (0, 57)]) (by decide +kernel) (fun p e s m args below meth c Q Y k kd x na mc tr h1 h2 => ?_)) (hT_no) (hL_of (by decide +kernel)) (fun _ _ => rfl) (fun _ _ _ _ h => h)
  match k, h1, h2 with
  | 0, h1, h2 => cases h1; cases h2; exact callV_of Y (mX8_skipBlanks hl) wl_RX8_182 wn_X8_skipBlanks ws_X8_skipBlanks wi_RX8 wc_X8_skipBlanks (T := TX8) (N := _) rfl (by decide +kernel) ⟨by decide, by decide⟩
  | 1, h1, h2 => cases h1; cases h2; exact callS_of Y (mX8_isDigit hl) wl_RX8_198 wt_X8_isDigit wi_RX8 wc_X8_isDigit (by decide +kernel) ⟨by decide, by decide⟩
  | 2, h1, h2 => cases h1; cases h2; exact callMinI_of Y (wG_at (w := .methodLink RX8 24 Lib.Math.min.name) 719 (by decide +kernel) rfl) ⟨by decide, by decide⟩
  | 3, h1, h2 => cases h1; cases h2; exact callV_of Y (mX8_refuse hl) wl_RX8_57 wn_X8_refuse ws_X8_refuse wi_RX8 wc_X8_refuse (T := TX8) (N := _) rfl (by decide +kernel) ⟨by decide, by decide⟩
  | k + 4, h1, _ => simp at h1
def kX8_atLetter : List (Nat × Nat × SP) := [(1, 0, vsp 8 sX8_atEnd), (1, 0, sX8_isLetter)]
def sX8_atLetter : SP := RUN pX8_atLetter kX8_atLetter hd0 [] 1 (some .boolean) 0
theorem mX8_atLetter {l : Launch} {b : Nat} {D : va_G} {cA sa adV : Nat → Nat} (hl : l.stackTraces = false) : Cn l b D cA sa adV yX8_atLetter cX8_atLetter 1 (some .boolean) 2 40 0 sX8_atLetter := by
  refine Cn_of (calls := kX8_atLetter) (by decide +kernel) oX8_atLetter (hC_of (cidx := [(0, 46), (1, 185)]) (by decide +kernel) (fun p e s m args below meth c Q Y k kd x na mc tr h1 h2 => ?_)) (hT_no) (hL_of (by decide +kernel)) (fun _ _ => rfl) (fun _ _ _ _ h => h)
  match k, h1, h2 with
  | 0, h1, h2 => cases h1; cases h2; exact callV_of Y (mX8_atEnd hl) wl_RX8_46 wn_X8_atEnd ws_X8_atEnd wi_RX8 wc_X8_atEnd (T := TX8) (N := _) rfl (by decide +kernel) ⟨by decide, by decide⟩
  | 1, h1, h2 => cases h1; cases h2; exact callS_of Y (mX8_isLetter hl) wl_RX8_185 wt_X8_isLetter wi_RX8 wc_X8_isLetter (by decide +kernel) ⟨by decide, by decide⟩
  | k + 2, h1, _ => simp at h1
def kX8_readBack : List (Nat × Nat × SP) := [(1, 0, vsp 8 sX8_readWord), (2, 0, vsp 8 sX8_isWord), (3, 0, vsp 8 sX8_refuse), (3, 0, vsp 8 sX8_readNumber)]
def sX8_readBack : SP := RUN pX8_readBack kX8_readBack hd0 [] 3 (some .boolean) 0
theorem mX8_readBack {l : Launch} {b : Nat} {D : va_G} {cA sa adV : Nat → Nat} (hl : l.stackTraces = false) : Cn l b D cA sa adV yX8_readBack cX8_readBack 3 (some .boolean) 5 163 0 sX8_readBack := by
  refine Cn_of (calls := kX8_readBack) (by decide +kernel) oX8_readBack (hC_of (cidx := [(0, 79), (0, 84), (0, 57), (0, 127)]) (by decide +kernel) (fun p e s m args below meth c Q Y k kd x na mc tr h1 h2 => ?_)) (hT_no) (hL_of (by decide +kernel)) (fun _ _ => rfl) (fun _ _ _ _ h => h)
  match k, h1, h2 with
  | 0, h1, h2 => cases h1; cases h2; exact callV_of Y (mX8_readWord hl) wl_RX8_79 wn_X8_readWord ws_X8_readWord wi_RX8 wc_X8_readWord (T := TX8) (N := _) rfl (by decide +kernel) ⟨by decide, by decide⟩
  | 1, h1, h2 => cases h1; cases h2; exact callV_of Y (mX8_isWord hl) wl_RX8_84 wn_X8_isWord ws_X8_isWord wi_RX8 wc_X8_isWord (T := TX8) (N := _) rfl (by decide +kernel) ⟨by decide, by decide⟩
  | 2, h1, h2 => cases h1; cases h2; exact callV_of Y (mX8_refuse hl) wl_RX8_57 wn_X8_refuse ws_X8_refuse wi_RX8 wc_X8_refuse (T := TX8) (N := _) rfl (by decide +kernel) ⟨by decide, by decide⟩
  | 3, h1, h2 => cases h1; cases h2; exact callV_of Y (mX8_readNumber hl) wl_RX8_127 wn_X8_readNumber ws_X8_readNumber wi_RX8 wc_X8_readNumber (T := TX8) (N := _) rfl (by decide +kernel) ⟨by decide, by decide⟩
  | k + 4, h1, _ => simp at h1
def kX8_readDepartment : List (Nat × Nat × SP) := [(3, 0, vsp 8 sX8_refuse), (1, 0, vsp 8 sX8_readWay), (3, 0, vsp 8 sX8_readNumber), (1, 0, vsp 8 sX8_atLetter), (3, 0, vsp 8 sX8_readBack)]
def sX8_readDepartment : SP := RUN pX8_readDepartment kX8_readDepartment hd0 [] 4 (some .boolean) 0
theorem mX8_readDepartment {l : Launch} {b : Nat} {D : va_G} {cA sa adV : Nat → Nat} (hl : l.stackTraces = false) : Cn l b D cA sa adV yX8_readDepartment cX8_readDepartment 4 (some .boolean) 6 185 0 sX8_readDepartment := by
  refine Cn_of (calls := kX8_readDepartment) (by decide +kernel) oX8_readDepartment (hC_of (cidx := [(0, 57), (0, 116), (0, 127), (0, 139), (0, 142)]) (by decide +kernel) (fun p e s m args below meth c Q Y k kd x na mc tr h1 h2 => ?_)) (hT_no) (hL_of (by decide +kernel)) (fun _ _ => rfl) (fun _ _ _ _ h => h)
  match k, h1, h2 with
  | 0, h1, h2 => cases h1; cases h2; exact callV_of Y (mX8_refuse hl) wl_RX8_57 wn_X8_refuse ws_X8_refuse wi_RX8 wc_X8_refuse (T := TX8) (N := _) rfl (by decide +kernel) ⟨by decide, by decide⟩
  | 1, h1, h2 => cases h1; cases h2; exact callV_of Y (mX8_readWay hl) wl_RX8_116 wn_X8_readWay ws_X8_readWay wi_RX8 wc_X8_readWay (T := TX8) (N := _) rfl (by decide +kernel) ⟨by decide, by decide⟩
  | 2, h1, h2 => cases h1; cases h2; exact callV_of Y (mX8_readNumber hl) wl_RX8_127 wn_X8_readNumber ws_X8_readNumber wi_RX8 wc_X8_readNumber (T := TX8) (N := _) rfl (by decide +kernel) ⟨by decide, by decide⟩
  | 3, h1, h2 => cases h1; cases h2; exact callV_of Y (mX8_atLetter hl) wl_RX8_139 wn_X8_atLetter ws_X8_atLetter wi_RX8 wc_X8_atLetter (T := TX8) (N := _) rfl (by decide +kernel) ⟨by decide, by decide⟩
  | 4, h1, h2 => cases h1; cases h2; exact callV_of Y (mX8_readBack hl) wl_RX8_142 wn_X8_readBack ws_X8_readBack wi_RX8 wc_X8_readBack (T := TX8) (N := _) rfl (by decide +kernel) ⟨by decide, by decide⟩
  | k + 5, h1, _ => simp at h1
def kX8_readMaterial : List (Nat × Nat × SP) := [(3, 0, vsp 8 sX8_readNumber), (3, 0, vsp 8 sX8_refuse)]
def sX8_readMaterial : SP := RUN pX8_readMaterial kX8_readMaterial hd0 [] 4 (some .boolean) 0
theorem mX8_readMaterial {l : Launch} {b : Nat} {D : va_G} {cA sa adV : Nat → Nat} (hl : l.stackTraces = false) : Cn l b D cA sa adV yX8_readMaterial cX8_readMaterial 4 (some .boolean) 2 46 0 sX8_readMaterial := by
  refine Cn_of (calls := kX8_readMaterial) (by decide +kernel) oX8_readMaterial (hC_of (cidx := [(0, 127), (0, 57)]) (by decide +kernel) (fun p e s m args below meth c Q Y k kd x na mc tr h1 h2 => ?_)) (hT_no) (hL_of (by decide +kernel)) (fun _ _ => rfl) (fun _ _ _ _ h => h)
  match k, h1, h2 with
  | 0, h1, h2 => cases h1; cases h2; exact callV_of Y (mX8_readNumber hl) wl_RX8_127 wn_X8_readNumber ws_X8_readNumber wi_RX8 wc_X8_readNumber (T := TX8) (N := _) rfl (by decide +kernel) ⟨by decide, by decide⟩
  | 1, h1, h2 => cases h1; cases h2; exact callV_of Y (mX8_refuse hl) wl_RX8_57 wn_X8_refuse ws_X8_refuse wi_RX8 wc_X8_refuse (T := TX8) (N := _) rfl (by decide +kernel) ⟨by decide, by decide⟩
  | k + 2, h1, _ => simp at h1
def kX8_readBy : List (Nat × Nat × SP) := [(1, 0, vsp 8 sX8_readWord), (2, 0, vsp 8 sX8_isWord), (3, 0, vsp 8 sX8_refuse)]
def sX8_readBy : SP := RUN pX8_readBy kX8_readBy hd0 [] 2 (some .boolean) 0
theorem mX8_readBy {l : Launch} {b : Nat} {D : va_G} {cA sa adV : Nat → Nat} (hl : l.stackTraces = false) : Cn l b D cA sa adV yX8_readBy cX8_readBy 2 (some .boolean) 5 163 0 sX8_readBy := by
  refine Cn_of (calls := kX8_readBy) (by decide +kernel) oX8_readBy (hC_of (cidx := [(0, 79), (0, 84), (0, 57)]) (by decide +kernel) (fun p e s m args below meth c Q Y k kd x na mc tr h1 h2 => ?_)) (hT_no) (hL_of (by decide +kernel)) (fun _ _ => rfl) (fun _ _ _ _ h => h)
  match k, h1, h2 with
  | 0, h1, h2 => cases h1; cases h2; exact callV_of Y (mX8_readWord hl) wl_RX8_79 wn_X8_readWord ws_X8_readWord wi_RX8 wc_X8_readWord (T := TX8) (N := _) rfl (by decide +kernel) ⟨by decide, by decide⟩
  | 1, h1, h2 => cases h1; cases h2; exact callV_of Y (mX8_isWord hl) wl_RX8_84 wn_X8_isWord ws_X8_isWord wi_RX8 wc_X8_isWord (T := TX8) (N := _) rfl (by decide +kernel) ⟨by decide, by decide⟩
  | 2, h1, h2 => cases h1; cases h2; exact callV_of Y (mX8_refuse hl) wl_RX8_57 wn_X8_refuse ws_X8_refuse wi_RX8 wc_X8_refuse (T := TX8) (N := _) rfl (by decide +kernel) ⟨by decide, by decide⟩
  | k + 3, h1, _ => simp at h1
def kX8_readProduct : List (Nat × Nat × SP) := [(3, 0, vsp 8 sX8_refuse), (3, 0, vsp 8 sX8_readNumber), (1, 0, vsp 8 sX8_atLetter), (2, 0, vsp 8 sX8_readBy)]
def sX8_readProduct : SP := RUN pX8_readProduct kX8_readProduct hd0 [] 3 (some .boolean) 0
theorem mX8_readProduct {l : Launch} {b : Nat} {D : va_G} {cA sa adV : Nat → Nat} (hl : l.stackTraces = false) : Cn l b D cA sa adV yX8_readProduct cX8_readProduct 3 (some .boolean) 6 184 0 sX8_readProduct := by
  refine Cn_of (calls := kX8_readProduct) (by decide +kernel) oX8_readProduct (hC_of (cidx := [(0, 57), (0, 127), (0, 139), (0, 167)]) (by decide +kernel) (fun p e s m args below meth c Q Y k kd x na mc tr h1 h2 => ?_)) (hT_no) (hL_of (by decide +kernel)) (fun _ _ => rfl) (fun _ _ _ _ h => h)
  match k, h1, h2 with
  | 0, h1, h2 => cases h1; cases h2; exact callV_of Y (mX8_refuse hl) wl_RX8_57 wn_X8_refuse ws_X8_refuse wi_RX8 wc_X8_refuse (T := TX8) (N := _) rfl (by decide +kernel) ⟨by decide, by decide⟩
  | 1, h1, h2 => cases h1; cases h2; exact callV_of Y (mX8_readNumber hl) wl_RX8_127 wn_X8_readNumber ws_X8_readNumber wi_RX8 wc_X8_readNumber (T := TX8) (N := _) rfl (by decide +kernel) ⟨by decide, by decide⟩
  | 2, h1, h2 => cases h1; cases h2; exact callV_of Y (mX8_atLetter hl) wl_RX8_139 wn_X8_atLetter ws_X8_atLetter wi_RX8 wc_X8_atLetter (T := TX8) (N := _) rfl (by decide +kernel) ⟨by decide, by decide⟩
  | 3, h1, h2 => cases h1; cases h2; exact callV_of Y (mX8_readBy hl) wl_RX8_167 wn_X8_readBy ws_X8_readBy wi_RX8 wc_X8_readBy (T := TX8) (N := _) rfl (by decide +kernel) ⟨by decide, by decide⟩
  | k + 4, h1, _ => simp at h1
def kX8_readStore : List (Nat × Nat × SP) := [(1, 0, vsp 8 sX8_readWay)]
def sX8_readStore : SP := RUN pX8_readStore kX8_readStore hd0 [] 2 (some .boolean) 0
theorem mX8_readStore {l : Launch} {b : Nat} {D : va_G} {cA sa adV : Nat → Nat} (hl : l.stackTraces = false) : Cn l b D cA sa adV yX8_readStore cX8_readStore 2 (some .boolean) 6 183 0 sX8_readStore := by
  refine Cn_of (calls := kX8_readStore) (by decide +kernel) oX8_readStore (hC_of (cidx := [(0, 116)]) (by decide +kernel) (fun p e s m args below meth c Q Y k kd x na mc tr h1 h2 => ?_)) (hT_no) (hL_of (by decide +kernel)) (fun _ _ => rfl) (fun _ _ _ _ h => h)
  match k, h1, h2 with
  | 0, h1, h2 => cases h1; cases h2; exact callV_of Y (mX8_readWay hl) wl_RX8_116 wn_X8_readWay ws_X8_readWay wi_RX8 wc_X8_readWay (T := TX8) (N := _) rfl (by decide +kernel) ⟨by decide, by decide⟩
  | k + 1, h1, _ => simp at h1
def kX8_readEnd : List (Nat × Nat × SP) := [(1, 0, vsp 8 sX8_atEnd), (3, 0, vsp 8 sX8_refuse)]
def sX8_readEnd : SP := RUN pX8_readEnd kX8_readEnd hd0 [] 1 (some .boolean) 0
theorem mX8_readEnd {l : Launch} {b : Nat} {D : va_G} {cA sa adV : Nat → Nat} (hl : l.stackTraces = false) : Cn l b D cA sa adV yX8_readEnd cX8_readEnd 1 (some .boolean) 2 40 0 sX8_readEnd := by
  refine Cn_of (calls := kX8_readEnd) (by decide +kernel) oX8_readEnd (hC_of (cidx := [(0, 46), (0, 57)]) (by decide +kernel) (fun p e s m args below meth c Q Y k kd x na mc tr h1 h2 => ?_)) (hT_no) (hL_of (by decide +kernel)) (fun _ _ => rfl) (fun _ _ _ _ h => h)
  match k, h1, h2 with
  | 0, h1, h2 => cases h1; cases h2; exact callV_of Y (mX8_atEnd hl) wl_RX8_46 wn_X8_atEnd ws_X8_atEnd wi_RX8 wc_X8_atEnd (T := TX8) (N := _) rfl (by decide +kernel) ⟨by decide, by decide⟩
  | 1, h1, h2 => cases h1; cases h2; exact callV_of Y (mX8_refuse hl) wl_RX8_57 wn_X8_refuse ws_X8_refuse wi_RX8 wc_X8_refuse (T := TX8) (N := _) rfl (by decide +kernel) ⟨by decide, by decide⟩
  | k + 2, h1, _ => simp at h1
def kX8_readLine : List (Nat × Nat × SP) := [(1, 0, vsp 8 sX8_readWord), (2, 0, vsp 8 sX8_isWord), (2, 0, vsp 8 sX8_readDepartment), (2, 0, vsp 8 sX8_readMaterial), (2, 0, vsp 8 sX8_readProduct), (2, 0, vsp 8 sX8_readStore), (3, 0, vsp 8 sX8_refuse), (1, 0, vsp 8 sX8_readEnd)]
def sX8_readLine : SP := RUN pX8_readLine kX8_readLine hd0 [] 3 (some .boolean) 0
theorem mX8_readLine {l : Launch} {b : Nat} {D : va_G} {cA sa adV : Nat → Nat} (hl : l.stackTraces = false) : Cn l b D cA sa adV yX8_readLine cX8_readLine 3 (some .boolean) 7 208 0 sX8_readLine := by
  refine Cn_of (calls := kX8_readLine) (by decide +kernel) oX8_readLine (hC_of (cidx := [(0, 79), (0, 84), (0, 88), (0, 93), (0, 98), (0, 103), (0, 57), (0, 109)]) (by decide +kernel) (fun p e s m args below meth c Q Y k kd x na mc tr h1 h2 => ?_)) (hT_no) (hL_of (by decide +kernel)) (fun _ _ => rfl) (fun _ _ _ _ h => h)
  match k, h1, h2 with
  | 0, h1, h2 => cases h1; cases h2; exact callV_of Y (mX8_readWord hl) wl_RX8_79 wn_X8_readWord ws_X8_readWord wi_RX8 wc_X8_readWord (T := TX8) (N := _) rfl (by decide +kernel) ⟨by decide, by decide⟩
  | 1, h1, h2 => cases h1; cases h2; exact callV_of Y (mX8_isWord hl) wl_RX8_84 wn_X8_isWord ws_X8_isWord wi_RX8 wc_X8_isWord (T := TX8) (N := _) rfl (by decide +kernel) ⟨by decide, by decide⟩
  | 2, h1, h2 => cases h1; cases h2; exact callV_of Y (mX8_readDepartment hl) wl_RX8_88 wn_X8_readDepartment ws_X8_readDepartment wi_RX8 wc_X8_readDepartment (T := TX8) (N := _) rfl (by decide +kernel) ⟨by decide, by decide⟩
  | 3, h1, h2 => cases h1; cases h2; exact callV_of Y (mX8_readMaterial hl) wl_RX8_93 wn_X8_readMaterial ws_X8_readMaterial wi_RX8 wc_X8_readMaterial (T := TX8) (N := _) rfl (by decide +kernel) ⟨by decide, by decide⟩
  | 4, h1, h2 => cases h1; cases h2; exact callV_of Y (mX8_readProduct hl) wl_RX8_98 wn_X8_readProduct ws_X8_readProduct wi_RX8 wc_X8_readProduct (T := TX8) (N := _) rfl (by decide +kernel) ⟨by decide, by decide⟩
  | 5, h1, h2 => cases h1; cases h2; exact callV_of Y (mX8_readStore hl) wl_RX8_103 wn_X8_readStore ws_X8_readStore wi_RX8 wc_X8_readStore (T := TX8) (N := _) rfl (by decide +kernel) ⟨by decide, by decide⟩
  | 6, h1, h2 => cases h1; cases h2; exact callV_of Y (mX8_refuse hl) wl_RX8_57 wn_X8_refuse ws_X8_refuse wi_RX8 wc_X8_refuse (T := TX8) (N := _) rfl (by decide +kernel) ⟨by decide, by decide⟩
  | 7, h1, h2 => cases h1; cases h2; exact callV_of Y (mX8_readEnd hl) wl_RX8_109 wn_X8_readEnd ws_X8_readEnd wi_RX8 wc_X8_readEnd (T := TX8) (N := _) rfl (by decide +kernel) ⟨by decide, by decide⟩
  | k + 8, h1, _ => simp at h1
def kX8_isWhole : List (Nat × Nat × SP) := [(1, 0, vsp 6 sX6_isMain)]
def sX8_isWhole : SP := RUN pX8_isWhole kX8_isWhole hd0 [] 4 (some .boolean) 0
theorem mX8_isWhole {l : Launch} {b : Nat} {D : va_G} {cA sa adV : Nat → Nat} (hl : l.stackTraces = false) : Cn l b D cA sa adV yX8_isWhole cX8_isWhole 4 (some .boolean) 1 20 0 sX8_isWhole := by
  refine Cn_of (calls := kX8_isWhole) (by decide +kernel) oX8_isWhole (hC_of (cidx := [(0, 73)]) (by decide +kernel) (fun p e s m args below meth c Q Y k kd x na mc tr h1 h2 => ?_)) (hT_no) (hL_of (by decide +kernel)) (fun _ _ => rfl) (fun _ _ _ _ h => h)
  match k, h1, h2 with
  | 0, h1, h2 => cases h1; cases h2; exact callV_of Y (mX6_isMain hl) wl_RX8_73 wn_X6_isMain ws_X6_isMain wi_RX6 wc_X6_isMain (T := TX6) (N := _) rfl (by decide +kernel) ⟨by decide, by decide⟩
  | k + 1, h1, _ => simp at h1
def kX8_readInto : List (Nat × Nat × SP) := [(1, 0, vsp 1 sX1_clear), (2, 0, spMinI), (1, 0, vsp 8 sX8_atEnd), (2, 0, vsp 8 sX8_readLine), (1, 0, sX8_isWhole), (3, 0, vsp 8 sX8_refuse)]
def sX8_readInto : SP := RUN pX8_readInto kX8_readInto hd0 [] 5 none 0
theorem mX8_readInto {l : Launch} {b : Nat} {D : va_G} {cA sa adV : Nat → Nat} (hl : l.stackTraces = false) : Cn l b D cA sa adV yX8_readInto cX8_readInto 5 none 8 230 0 sX8_readInto := by
  refine Cn_of (calls := kX8_readInto) (by decide +kernel) oX8_readInto (hC_of (cidx := [(0, 19), (1, 24), (0, 46), (0, 50), (1, 54), (0, 57)]) (by decide +kernel) (fun p e s m args below meth c Q Y k kd x na mc tr h1 h2 => ?_)) (hT_no) (hL_of (by decide +kernel)) (fun _ _ => rfl) (fun _ _ _ _ h => h)
  match k, h1, h2 with
  | 0, h1, h2 => cases h1; cases h2; exact callV_of Y (mX1_clear hl) wl_RX8_19 wn_X1_clear ws_X1_clear wi_RX1 wc_X1_clear (T := TX1) (N := _) rfl (by decide +kernel) ⟨by decide, by decide⟩
  | 1, h1, h2 => cases h1; cases h2; exact callMinI_of Y (wG_at (w := .methodLink RX8 24 Lib.Math.min.name) 719 (by decide +kernel) rfl) ⟨by decide, by decide⟩
  | 2, h1, h2 => cases h1; cases h2; exact callV_of Y (mX8_atEnd hl) wl_RX8_46 wn_X8_atEnd ws_X8_atEnd wi_RX8 wc_X8_atEnd (T := TX8) (N := _) rfl (by decide +kernel) ⟨by decide, by decide⟩
  | 3, h1, h2 => cases h1; cases h2; exact callV_of Y (mX8_readLine hl) wl_RX8_50 wn_X8_readLine ws_X8_readLine wi_RX8 wc_X8_readLine (T := TX8) (N := _) rfl (by decide +kernel) ⟨by decide, by decide⟩
  | 4, h1, h2 => cases h1; cases h2; exact callS_of Y (mX8_isWhole hl) wl_RX8_54 wt_X8_isWhole wi_RX8 wc_X8_isWhole (by decide +kernel) ⟨by decide, by decide⟩
  | 5, h1, h2 => cases h1; cases h2; exact callV_of Y (mX8_refuse hl) wl_RX8_57 wn_X8_refuse ws_X8_refuse wi_RX8 wc_X8_refuse (T := TX8) (N := _) rfl (by decide +kernel) ⟨by decide, by decide⟩
  | k + 6, h1, _ => simp at h1
def kX9_feed : List (Nat × Nat × SP) := [(2, 0, vsp 8 sX8_putFour)]
def sX9_feed : SP := RUN pX9_feed kX9_feed hd0 [] 6 (some .int) 0
theorem mX9_feed {l : Launch} {b : Nat} {D : va_G} {cA sa adV : Nat → Nat} (hl : l.stackTraces = false) : Cn l b D cA sa adV yX9_feed cX9_feed 6 (some .int) 1 22 0 sX9_feed := by
  refine Cn_of (calls := kX9_feed) (by decide +kernel) oX9_feed (hC_of (cidx := [(0, 54)]) (by decide +kernel) (fun p e s m args below meth c Q Y k kd x na mc tr h1 h2 => ?_)) (hT_no) (hL_of (by decide +kernel)) (fun _ _ => rfl) (fun _ _ _ _ h => h)
  match k, h1, h2 with
  | 0, h1, h2 => cases h1; cases h2; exact callV_of Y (mX8_putFour hl) wl_RX9_54 wn_X8_putFour ws_X8_putFour wi_RX8 wc_X8_putFour (T := TX8) (N := _) rfl (by decide +kernel) ⟨by decide, by decide⟩
  | k + 1, h1, _ => simp at h1
def kX9_needWithin : List (Nat × Nat × SP) := []
def sX9_needWithin : SP := RUN pX9_needWithin kX9_needWithin hd0 ["java/lang/IllegalArgumentException"] 4 none 1
theorem mX9_needWithin {l : Launch} {b : Nat} {D : va_G} {cA sa adV : Nat → Nat} (hl : l.stackTraces = false) : Cn l b D cA sa adV yX9_needWithin cX9_needWithin 4 none 6 90 1 sX9_needWithin := by
  refine Cn_of (calls := kX9_needWithin) (by decide +kernel) oX9_needWithin (hC_of (cidx := []) (by decide +kernel) (fun p e s m args below meth c Q Y k kd x na mc tr h1 h2 => ?_)) (tX9_needWithin hl) (hL_of (by decide +kernel)) (fun _ _ => rfl) (fun _ _ _ _ h => h)
  match k, h1, h2 with
  | k, h1, _ => simp at h1
def kX9_text : List (Nat × Nat × SP) := [(4, 1, vsp 9 sX9_needWithin), (1, 0, vsp 2 sX2_row), (2, 0, vsp 1 sX1_save), (3, 0, vsp 8 sX8_readInto), (2, 0, vsp 1 sX1_load), (1, 0, vsp 2 sX2_keep)]
def sX9_text : SP := RUN pX9_text kX9_text hd0 [] 2 (some .int) 1
theorem mX9_text {l : Launch} {b : Nat} {D : va_G} {cA sa adV : Nat → Nat} (hl : l.stackTraces = false) : Cn l b D cA sa adV yX9_text cX9_text 2 (some .int) 9 254 1 sX9_text := by
  refine Cn_of (calls := kX9_text) (by decide +kernel) oX9_text (hC_of (cidx := [(0, 58), (0, 62), (0, 66), (0, 70), (0, 80), (0, 83)]) (by decide +kernel) (fun p e s m args below meth c Q Y k kd x na mc tr h1 h2 => ?_)) (hT_no) (hL_of (by decide +kernel)) (fun _ _ => rfl) (fun _ _ _ _ h => h)
  match k, h1, h2 with
  | 0, h1, h2 => cases h1; cases h2; exact callV_of Y (mX9_needWithin hl) wl_RX9_58 wn_X9_needWithin ws_X9_needWithin wi_RX9 wc_X9_needWithin (T := TX9) (N := _) rfl (by decide +kernel) ⟨by decide, by decide⟩
  | 1, h1, h2 => cases h1; cases h2; exact callV_of Y (mX2_row hl) wl_RX9_62 wn_X2_row ws_X2_row wi_RX2 wc_X2_row (T := TX2) (N := _) rfl (by decide +kernel) ⟨by decide, by decide⟩
  | 2, h1, h2 => cases h1; cases h2; exact callV_of Y (mX1_save hl) wl_RX9_66 wn_X1_save ws_X1_save wi_RX1 wc_X1_save (T := TX1) (N := _) rfl (by decide +kernel) ⟨by decide, by decide⟩
  | 3, h1, h2 => cases h1; cases h2; exact callV_of Y (mX8_readInto hl) wl_RX9_70 wn_X8_readInto ws_X8_readInto wi_RX8 wc_X8_readInto (T := TX8) (N := _) rfl (by decide +kernel) ⟨by decide, by decide⟩
  | 4, h1, h2 => cases h1; cases h2; exact callV_of Y (mX1_load hl) wl_RX9_80 wn_X1_load ws_X1_load wi_RX1 wc_X1_load (T := TX1) (N := _) rfl (by decide +kernel) ⟨by decide, by decide⟩
  | 5, h1, h2 => cases h1; cases h2; exact callV_of Y (mX2_keep hl) wl_RX9_83 wn_X2_keep ws_X2_keep wi_RX2 wc_X2_keep (T := TX2) (N := _) rfl (by decide +kernel) ⟨by decide, by decide⟩
  | k + 6, h1, _ => simp at h1
def kX9_fault : List (Nat × Nat × SP) := []
def sX9_fault : SP := RUN pX9_fault kX9_fault hd0 [] 1 (some .int) 0
theorem mX9_fault {l : Launch} {b : Nat} {D : va_G} {cA sa adV : Nat → Nat} (hl : l.stackTraces = false) : Cn l b D cA sa adV yX9_fault cX9_fault 1 (some .int) 0 0 0 sX9_fault := by
  refine Cn_of (calls := kX9_fault) (by decide +kernel) oX9_fault (hC_of (cidx := []) (by decide +kernel) (fun p e s m args below meth c Q Y k kd x na mc tr h1 h2 => ?_)) (hT_no) (hL_of (by decide +kernel)) (fun _ _ => rfl) (fun _ _ _ _ h => h)
  match k, h1, h2 with
  | k, h1, _ => simp at h1
def kX9_needState : List (Nat × Nat × SP) := []
def sX9_needState : SP := RUN pX9_needState kX9_needState hd0 ["java/lang/IllegalStateException"] 2 none 1
theorem mX9_needState {l : Launch} {b : Nat} {D : va_G} {cA sa adV : Nat → Nat} (hl : l.stackTraces = false) : Cn l b D cA sa adV yX9_needState cX9_needState 2 none 6 90 1 sX9_needState := by
  refine Cn_of (calls := kX9_needState) (by decide +kernel) oX9_needState (hC_of (cidx := []) (by decide +kernel) (fun p e s m args below meth c Q Y k kd x na mc tr h1 h2 => ?_)) (tX9_needState hl) (hL_of (by decide +kernel)) (fun _ _ => rfl) (fun _ _ _ _ h => h)
  match k, h1, h2 with
  | k, h1, _ => simp at h1
def kX9_start : List (Nat × Nat × SP) := [(4, 1, vsp 9 sX9_needWithin), (2, 1, vsp 9 sX9_needState), (1, 0, vsp 2 sX2_row), (2, 0, vsp 1 sX1_save), (1, 0, vsp 2 sX2_keep)]
def sX9_start : SP := RUN pX9_start kX9_start hd0 [] 2 (some .int) 2
theorem mX9_start {l : Launch} {b : Nat} {D : va_G} {cA sa adV : Nat → Nat} (hl : l.stackTraces = false) : Cn l b D cA sa adV yX9_start cX9_start 2 (some .int) 7 133 2 sX9_start := by
  refine Cn_of (calls := kX9_start) (by decide +kernel) oX9_start (hC_of (cidx := [(0, 58), (0, 92), (0, 62), (0, 66), (0, 83)]) (by decide +kernel) (fun p e s m args below meth c Q Y k kd x na mc tr h1 h2 => ?_)) (hT_no) (hL_of (by decide +kernel)) (fun _ _ => rfl) (fun _ _ _ _ h => h)
  match k, h1, h2 with
  | 0, h1, h2 => cases h1; cases h2; exact callV_of Y (mX9_needWithin hl) wl_RX9_58 wn_X9_needWithin ws_X9_needWithin wi_RX9 wc_X9_needWithin (T := TX9) (N := _) rfl (by decide +kernel) ⟨by decide, by decide⟩
  | 1, h1, h2 => cases h1; cases h2; exact callV_of Y (mX9_needState hl) wl_RX9_92 wn_X9_needState ws_X9_needState wi_RX9 wc_X9_needState (T := TX9) (N := _) rfl (by decide +kernel) ⟨by decide, by decide⟩
  | 2, h1, h2 => cases h1; cases h2; exact callV_of Y (mX2_row hl) wl_RX9_62 wn_X2_row ws_X2_row wi_RX2 wc_X2_row (T := TX2) (N := _) rfl (by decide +kernel) ⟨by decide, by decide⟩
  | 3, h1, h2 => cases h1; cases h2; exact callV_of Y (mX1_save hl) wl_RX9_66 wn_X1_save ws_X1_save wi_RX1 wc_X1_save (T := TX1) (N := _) rfl (by decide +kernel) ⟨by decide, by decide⟩
  | 4, h1, h2 => cases h1; cases h2; exact callV_of Y (mX2_keep hl) wl_RX9_83 wn_X2_keep ws_X2_keep wi_RX2 wc_X2_keep (T := TX2) (N := _) rfl (by decide +kernel) ⟨by decide, by decide⟩
  | k + 5, h1, _ => simp at h1
def kX9_needDepartment : List (Nat × Nat × SP) := []
def sX9_needDepartment : SP := RUN pX9_needDepartment kX9_needDepartment hd0 ["java/util/NoSuchElementException"] 2 (some (.object "ProcessDesk$Department")) 1
theorem mX9_needDepartment {l : Launch} {b : Nat} {D : va_G} {cA sa adV : Nat → Nat} (hl : l.stackTraces = false) : Cn l b D cA sa adV yX9_needDepartment cX9_needDepartment 2 (some (.object "ProcessDesk$Department")) 6 90 1 sX9_needDepartment := by
  refine Cn_of (calls := kX9_needDepartment) (by decide +kernel) oX9_needDepartment (hC_of (cidx := []) (by decide +kernel) (fun p e s m args below meth c Q Y k kd x na mc tr h1 h2 => ?_)) (tX9_needDepartment hl) (hL_of (by decide +kernel)) (fun _ _ => rfl) (fun _ _ _ _ h => h)
  match k, h1, h2 with
  | k, h1, _ => simp at h1
def kX9_needKind : List (Nat × Nat × SP) := [(2, 0, vsp 0 sX0_hasKind)]
def sX9_needKind : SP := RUN pX9_needKind kX9_needKind hd0 ["java/util/NoSuchElementException"] 4 none 1
theorem mX9_needKind {l : Launch} {b : Nat} {D : va_G} {cA sa adV : Nat → Nat} (hl : l.stackTraces = false) : Cn l b D cA sa adV yX9_needKind cX9_needKind 4 none 6 90 1 sX9_needKind := by
  refine Cn_of (calls := kX9_needKind) (by decide +kernel) oX9_needKind (hC_of (cidx := [(0, 357)]) (by decide +kernel) (fun p e s m args below meth c Q Y k kd x na mc tr h1 h2 => ?_)) (tX9_needKind hl) (hL_of (by decide +kernel)) (fun _ _ => rfl) (fun _ _ _ _ h => h)
  match k, h1, h2 with
  | 0, h1, h2 => cases h1; cases h2; exact callV_of Y (mX0_hasKind hl) wl_RX9_357 wn_X0_hasKind ws_X0_hasKind wi_RX0 wc_X0_hasKind (T := TX0) (N := _) rfl (by decide +kernel) ⟨by decide, by decide⟩
  | k + 1, h1, _ => simp at h1
def kX9_spend : List (Nat × Nat × SP) := [(2, 1, vsp 9 sX9_needDepartment), (4, 1, vsp 9 sX9_needKind), (4, 1, vsp 9 sX9_needWithin), (2, 1, vsp 9 sX9_needState), (1, 0, vsp 2 sX2_row), (2, 0, vsp 1 sX1_save), (1, 0, vsp 2 sX2_keep)]
def sX9_spend : SP := RUN pX9_spend kX9_spend hd0 [] 5 (some .int) 4
theorem mX9_spend {l : Launch} {b : Nat} {D : va_G} {cA sa adV : Nat → Nat} (hl : l.stackTraces = false) : Cn l b D cA sa adV yX9_spend cX9_spend 5 (some .int) 7 133 4 sX9_spend := by
  refine Cn_of (calls := kX9_spend) (by decide +kernel) oX9_spend (hC_of (cidx := [(0, 96), (0, 100), (0, 58), (0, 92), (0, 62), (0, 66), (0, 83)]) (by decide +kernel) (fun p e s m args below meth c Q Y k kd x na mc tr h1 h2 => ?_)) (hT_no) (hL_of (by decide +kernel)) (fun _ _ => rfl) (fun _ _ _ _ h => h)
  match k, h1, h2 with
  | 0, h1, h2 => cases h1; cases h2; exact callV_of Y (mX9_needDepartment hl) wl_RX9_96 wn_X9_needDepartment ws_X9_needDepartment wi_RX9 wc_X9_needDepartment (T := TX9) (N := _) rfl (by decide +kernel) ⟨by decide, by decide⟩
  | 1, h1, h2 => cases h1; cases h2; exact callV_of Y (mX9_needKind hl) wl_RX9_100 wn_X9_needKind ws_X9_needKind wi_RX9 wc_X9_needKind (T := TX9) (N := _) rfl (by decide +kernel) ⟨by decide, by decide⟩
  | 2, h1, h2 => cases h1; cases h2; exact callV_of Y (mX9_needWithin hl) wl_RX9_58 wn_X9_needWithin ws_X9_needWithin wi_RX9 wc_X9_needWithin (T := TX9) (N := _) rfl (by decide +kernel) ⟨by decide, by decide⟩
  | 3, h1, h2 => cases h1; cases h2; exact callV_of Y (mX9_needState hl) wl_RX9_92 wn_X9_needState ws_X9_needState wi_RX9 wc_X9_needState (T := TX9) (N := _) rfl (by decide +kernel) ⟨by decide, by decide⟩
  | 4, h1, h2 => cases h1; cases h2; exact callV_of Y (mX2_row hl) wl_RX9_62 wn_X2_row ws_X2_row wi_RX2 wc_X2_row (T := TX2) (N := _) rfl (by decide +kernel) ⟨by decide, by decide⟩
  | 5, h1, h2 => cases h1; cases h2; exact callV_of Y (mX1_save hl) wl_RX9_66 wn_X1_save ws_X1_save wi_RX1 wc_X1_save (T := TX1) (N := _) rfl (by decide +kernel) ⟨by decide, by decide⟩
  | 6, h1, h2 => cases h1; cases h2; exact callV_of Y (mX2_keep hl) wl_RX9_83 wn_X2_keep ws_X2_keep wi_RX2 wc_X2_keep (T := TX2) (N := _) rfl (by decide +kernel) ⟨by decide, by decide⟩
  | k + 7, h1, _ => simp at h1
def kX9_lost : List (Nat × Nat × SP) := [(2, 1, vsp 9 sX9_needDepartment), (4, 1, vsp 9 sX9_needWithin), (1, 0, vsp 2 sX2_row), (2, 0, vsp 1 sX1_save), (1, 0, vsp 2 sX2_keep)]
def sX9_lost : SP := RUN pX9_lost kX9_lost hd0 [] 5 (some .int) 2
theorem mX9_lost {l : Launch} {b : Nat} {D : va_G} {cA sa adV : Nat → Nat} (hl : l.stackTraces = false) : Cn l b D cA sa adV yX9_lost cX9_lost 5 (some .int) 7 133 2 sX9_lost := by
  refine Cn_of (calls := kX9_lost) (by decide +kernel) oX9_lost (hC_of (cidx := [(0, 96), (0, 58), (0, 62), (0, 66), (0, 83)]) (by decide +kernel) (fun p e s m args below meth c Q Y k kd x na mc tr h1 h2 => ?_)) (hT_no) (hL_of (by decide +kernel)) (fun _ _ => rfl) (fun _ _ _ _ h => h)
  match k, h1, h2 with
  | 0, h1, h2 => cases h1; cases h2; exact callV_of Y (mX9_needDepartment hl) wl_RX9_96 wn_X9_needDepartment ws_X9_needDepartment wi_RX9 wc_X9_needDepartment (T := TX9) (N := _) rfl (by decide +kernel) ⟨by decide, by decide⟩
  | 1, h1, h2 => cases h1; cases h2; exact callV_of Y (mX9_needWithin hl) wl_RX9_58 wn_X9_needWithin ws_X9_needWithin wi_RX9 wc_X9_needWithin (T := TX9) (N := _) rfl (by decide +kernel) ⟨by decide, by decide⟩
  | 2, h1, h2 => cases h1; cases h2; exact callV_of Y (mX2_row hl) wl_RX9_62 wn_X2_row ws_X2_row wi_RX2 wc_X2_row (T := TX2) (N := _) rfl (by decide +kernel) ⟨by decide, by decide⟩
  | 3, h1, h2 => cases h1; cases h2; exact callV_of Y (mX1_save hl) wl_RX9_66 wn_X1_save ws_X1_save wi_RX1 wc_X1_save (T := TX1) (N := _) rfl (by decide +kernel) ⟨by decide, by decide⟩
  | 4, h1, h2 => cases h1; cases h2; exact callV_of Y (mX2_keep hl) wl_RX9_83 wn_X2_keep ws_X2_keep wi_RX2 wc_X2_keep (T := TX2) (N := _) rfl (by decide +kernel) ⟨by decide, by decide⟩
  | k + 5, h1, _ => simp at h1
def kX9_left : List (Nat × Nat × SP) := [(2, 1, vsp 9 sX9_needDepartment), (4, 1, vsp 9 sX9_needWithin), (1, 0, vsp 2 sX2_row), (2, 0, vsp 1 sX1_save), (1, 0, vsp 2 sX2_keep)]
def sX9_left : SP := RUN pX9_left kX9_left hd0 [] 6 (some .int) 3
theorem mX9_left {l : Launch} {b : Nat} {D : va_G} {cA sa adV : Nat → Nat} (hl : l.stackTraces = false) : Cn l b D cA sa adV yX9_left cX9_left 6 (some .int) 7 133 3 sX9_left := by
  refine Cn_of (calls := kX9_left) (by decide +kernel) oX9_left (hC_of (cidx := [(0, 96), (0, 58), (0, 62), (0, 66), (0, 83)]) (by decide +kernel) (fun p e s m args below meth c Q Y k kd x na mc tr h1 h2 => ?_)) (hT_no) (hL_of (by decide +kernel)) (fun _ _ => rfl) (fun _ _ _ _ h => h)
  match k, h1, h2 with
  | 0, h1, h2 => cases h1; cases h2; exact callV_of Y (mX9_needDepartment hl) wl_RX9_96 wn_X9_needDepartment ws_X9_needDepartment wi_RX9 wc_X9_needDepartment (T := TX9) (N := _) rfl (by decide +kernel) ⟨by decide, by decide⟩
  | 1, h1, h2 => cases h1; cases h2; exact callV_of Y (mX9_needWithin hl) wl_RX9_58 wn_X9_needWithin ws_X9_needWithin wi_RX9 wc_X9_needWithin (T := TX9) (N := _) rfl (by decide +kernel) ⟨by decide, by decide⟩
  | 2, h1, h2 => cases h1; cases h2; exact callV_of Y (mX2_row hl) wl_RX9_62 wn_X2_row ws_X2_row wi_RX2 wc_X2_row (T := TX2) (N := _) rfl (by decide +kernel) ⟨by decide, by decide⟩
  | 3, h1, h2 => cases h1; cases h2; exact callV_of Y (mX1_save hl) wl_RX9_66 wn_X1_save ws_X1_save wi_RX1 wc_X1_save (T := TX1) (N := _) rfl (by decide +kernel) ⟨by decide, by decide⟩
  | 4, h1, h2 => cases h1; cases h2; exact callV_of Y (mX2_keep hl) wl_RX9_83 wn_X2_keep ws_X2_keep wi_RX2 wc_X2_keep (T := TX2) (N := _) rfl (by decide +kernel) ⟨by decide, by decide⟩
  | k + 5, h1, _ => simp at h1
def kX9_close : List (Nat × Nat × SP) := [(1, 0, vsp 2 sX2_row), (2, 0, vsp 1 sX1_save), (1, 0, vsp 1 sX1_closeMonth), (2, 0, vsp 1 sX1_load), (2, 1, vsp 9 sX9_needState), (1, 0, vsp 2 sX2_keep), (1, 0, vsp 1 sX1_lastDepartment)]
def sX9_close : SP := RUN pX9_close kX9_close hd0 [] 2 (some .long) 1
theorem mX9_close {l : Launch} {b : Nat} {D : va_G} {cA sa adV : Nat → Nat} (hl : l.stackTraces = false) : Cn l b D cA sa adV yX9_close cX9_close 2 (some .long) 7 133 1 sX9_close := by
  refine Cn_of (calls := kX9_close) (by decide +kernel) oX9_close (hC_of (cidx := [(0, 62), (0, 66), (0, 123), (0, 80), (0, 92), (0, 83), (0, 127)]) (by decide +kernel) (fun p e s m args below meth c Q Y k kd x na mc tr h1 h2 => ?_)) (hT_no) (hL_of (by decide +kernel)) (fun _ _ => rfl) (fun _ _ _ _ h => h)
  match k, h1, h2 with
  | 0, h1, h2 => cases h1; cases h2; exact callV_of Y (mX2_row hl) wl_RX9_62 wn_X2_row ws_X2_row wi_RX2 wc_X2_row (T := TX2) (N := _) rfl (by decide +kernel) ⟨by decide, by decide⟩
  | 1, h1, h2 => cases h1; cases h2; exact callV_of Y (mX1_save hl) wl_RX9_66 wn_X1_save ws_X1_save wi_RX1 wc_X1_save (T := TX1) (N := _) rfl (by decide +kernel) ⟨by decide, by decide⟩
  | 2, h1, h2 => cases h1; cases h2; exact callV_of Y (mX1_closeMonth hl) wl_RX9_123 wn_X1_closeMonth ws_X1_closeMonth wi_RX1 wc_X1_closeMonth (T := TX1) (N := _) rfl (by decide +kernel) ⟨by decide, by decide⟩
  | 3, h1, h2 => cases h1; cases h2; exact callV_of Y (mX1_load hl) wl_RX9_80 wn_X1_load ws_X1_load wi_RX1 wc_X1_load (T := TX1) (N := _) rfl (by decide +kernel) ⟨by decide, by decide⟩
  | 4, h1, h2 => cases h1; cases h2; exact callV_of Y (mX9_needState hl) wl_RX9_92 wn_X9_needState ws_X9_needState wi_RX9 wc_X9_needState (T := TX9) (N := _) rfl (by decide +kernel) ⟨by decide, by decide⟩
  | 5, h1, h2 => cases h1; cases h2; exact callV_of Y (mX2_keep hl) wl_RX9_83 wn_X2_keep ws_X2_keep wi_RX2 wc_X2_keep (T := TX2) (N := _) rfl (by decide +kernel) ⟨by decide, by decide⟩
  | 6, h1, h2 => cases h1; cases h2; exact callV_of Y (mX1_lastDepartment hl) wl_RX9_127 wn_X1_lastDepartment ws_X1_lastDepartment wi_RX1 wc_X1_lastDepartment (T := TX1) (N := _) rfl (by decide +kernel) ⟨by decide, by decide⟩
  | k + 7, h1, _ => simp at h1
def kX9_needProduct : List (Nat × Nat × SP) := []
def sX9_needProduct : SP := RUN pX9_needProduct kX9_needProduct hd0 ["java/util/NoSuchElementException"] 2 (some (.object "ProcessDesk$Product")) 1
theorem mX9_needProduct {l : Launch} {b : Nat} {D : va_G} {cA sa adV : Nat → Nat} (hl : l.stackTraces = false) : Cn l b D cA sa adV yX9_needProduct cX9_needProduct 2 (some (.object "ProcessDesk$Product")) 6 90 1 sX9_needProduct := by
  refine Cn_of (calls := kX9_needProduct) (by decide +kernel) oX9_needProduct (hC_of (cidx := []) (by decide +kernel) (fun p e s m args below meth c Q Y k kd x na mc tr h1 h2 => ?_)) (tX9_needProduct hl) (hL_of (by decide +kernel)) (fun _ _ => rfl) (fun _ _ _ _ h => h)
  match k, h1, h2 with
  | k, h1, _ => simp at h1
def kX9_sell : List (Nat × Nat × SP) := [(2, 1, vsp 9 sX9_needProduct), (4, 1, vsp 9 sX9_needWithin), (1, 0, vsp 6 sX6_unitsInStore), (2, 1, vsp 9 sX9_needState), (1, 0, vsp 2 sX2_row), (2, 0, vsp 1 sX1_save), (2, 0, vsp 6 sX6_takeOut), (1, 0, vsp 2 sX2_keep)]
def sX9_sell : SP := RUN pX9_sell kX9_sell hd0 [] 6 (some .long) 3
theorem mX9_sell {l : Launch} {b : Nat} {D : va_G} {cA sa adV : Nat → Nat} (hl : l.stackTraces = false) : Cn l b D cA sa adV yX9_sell cX9_sell 6 (some .long) 7 133 3 sX9_sell := by
  refine Cn_of (calls := kX9_sell) (by decide +kernel) oX9_sell (hC_of (cidx := [(0, 138), (0, 58), (0, 142), (0, 92), (0, 62), (0, 66), (0, 148), (0, 83)]) (by decide +kernel) (fun p e s m args below meth c Q Y k kd x na mc tr h1 h2 => ?_)) (hT_no) (hL_of (by decide +kernel)) (fun _ _ => rfl) (fun _ _ _ _ h => h)
  match k, h1, h2 with
  | 0, h1, h2 => cases h1; cases h2; exact callV_of Y (mX9_needProduct hl) wl_RX9_138 wn_X9_needProduct ws_X9_needProduct wi_RX9 wc_X9_needProduct (T := TX9) (N := _) rfl (by decide +kernel) ⟨by decide, by decide⟩
  | 1, h1, h2 => cases h1; cases h2; exact callV_of Y (mX9_needWithin hl) wl_RX9_58 wn_X9_needWithin ws_X9_needWithin wi_RX9 wc_X9_needWithin (T := TX9) (N := _) rfl (by decide +kernel) ⟨by decide, by decide⟩
  | 2, h1, h2 => cases h1; cases h2; exact callV_of Y (mX6_unitsInStore hl) wl_RX9_142 wn_X6_unitsInStore ws_X6_unitsInStore wi_RX6 wc_X6_unitsInStore (T := TX6) (N := _) rfl (by decide +kernel) ⟨by decide, by decide⟩
  | 3, h1, h2 => cases h1; cases h2; exact callV_of Y (mX9_needState hl) wl_RX9_92 wn_X9_needState ws_X9_needState wi_RX9 wc_X9_needState (T := TX9) (N := _) rfl (by decide +kernel) ⟨by decide, by decide⟩
  | 4, h1, h2 => cases h1; cases h2; exact callV_of Y (mX2_row hl) wl_RX9_62 wn_X2_row ws_X2_row wi_RX2 wc_X2_row (T := TX2) (N := _) rfl (by decide +kernel) ⟨by decide, by decide⟩
  | 5, h1, h2 => cases h1; cases h2; exact callV_of Y (mX1_save hl) wl_RX9_66 wn_X1_save ws_X1_save wi_RX1 wc_X1_save (T := TX1) (N := _) rfl (by decide +kernel) ⟨by decide, by decide⟩
  | 6, h1, h2 => cases h1; cases h2; exact callV_of Y (mX6_takeOut hl) wl_RX9_148 wn_X6_takeOut ws_X6_takeOut wi_RX6 wc_X6_takeOut (T := TX6) (N := _) rfl (by decide +kernel) ⟨by decide, by decide⟩
  | 7, h1, h2 => cases h1; cases h2; exact callV_of Y (mX2_keep hl) wl_RX9_83 wn_X2_keep ws_X2_keep wi_RX2 wc_X2_keep (T := TX2) (N := _) rfl (by decide +kernel) ⟨by decide, by decide⟩
  | k + 8, h1, _ => simp at h1
def kX9_undo : List (Nat × Nat × SP) := [(1, 0, vsp 2 sX2_stepBack), (1, 0, vsp 2 sX2_row), (2, 0, vsp 1 sX1_load)]
def sX9_undo : SP := RUN pX9_undo kX9_undo hd0 [] 1 (some .int) 0
theorem mX9_undo {l : Launch} {b : Nat} {D : va_G} {cA sa adV : Nat → Nat} (hl : l.stackTraces = false) : Cn l b D cA sa adV yX9_undo cX9_undo 1 (some .int) 6 129 0 sX9_undo := by
  refine Cn_of (calls := kX9_undo) (by decide +kernel) oX9_undo (hC_of (cidx := [(0, 155), (0, 62), (0, 80)]) (by decide +kernel) (fun p e s m args below meth c Q Y k kd x na mc tr h1 h2 => ?_)) (hT_no) (hL_of (by decide +kernel)) (fun _ _ => rfl) (fun _ _ _ _ h => h)
  match k, h1, h2 with
  | 0, h1, h2 => cases h1; cases h2; exact callV_of Y (mX2_stepBack hl) wl_RX9_155 wn_X2_stepBack ws_X2_stepBack wi_RX2 wc_X2_stepBack (T := TX2) (N := _) rfl (by decide +kernel) ⟨by decide, by decide⟩
  | 1, h1, h2 => cases h1; cases h2; exact callV_of Y (mX2_row hl) wl_RX9_62 wn_X2_row ws_X2_row wi_RX2 wc_X2_row (T := TX2) (N := _) rfl (by decide +kernel) ⟨by decide, by decide⟩
  | 2, h1, h2 => cases h1; cases h2; exact callV_of Y (mX1_load hl) wl_RX9_80 wn_X1_load ws_X1_load wi_RX1 wc_X1_load (T := TX1) (N := _) rfl (by decide +kernel) ⟨by decide, by decide⟩
  | k + 3, h1, _ => simp at h1
def kX9_told : List (Nat × Nat × SP) := [(4, 1, vsp 9 sX9_needWithin)]
def sX9_told : SP := RUN pX9_told kX9_told hd0 [] 2 (some .int) 1
theorem mX9_told {l : Launch} {b : Nat} {D : va_G} {cA sa adV : Nat → Nat} (hl : l.stackTraces = false) : Cn l b D cA sa adV yX9_told cX9_told 2 (some .int) 7 113 1 sX9_told := by
  refine Cn_of (calls := kX9_told) (by decide +kernel) oX9_told (hC_of (cidx := [(0, 58)]) (by decide +kernel) (fun p e s m args below meth c Q Y k kd x na mc tr h1 h2 => ?_)) (hT_no) (hL_of (by decide +kernel)) (fun _ _ => rfl) (fun _ _ _ _ h => h)
  match k, h1, h2 with
  | 0, h1, h2 => cases h1; cases h2; exact callV_of Y (mX9_needWithin hl) wl_RX9_58 wn_X9_needWithin ws_X9_needWithin wi_RX9 wc_X9_needWithin (T := TX9) (N := _) rfl (by decide +kernel) ⟨by decide, by decide⟩
  | k + 1, h1, _ => simp at h1
def kX9_department : List (Nat × Nat × SP) := [(2, 1, vsp 9 sX9_needDepartment), (4, 1, vsp 9 sX9_needWithin)]
def sX9_department : SP := RUN pX9_department kX9_department hd0 [] 4 (some .int) 2
theorem mX9_department {l : Launch} {b : Nat} {D : va_G} {cA sa adV : Nat → Nat} (hl : l.stackTraces = false) : Cn l b D cA sa adV yX9_department cX9_department 4 (some .int) 7 113 2 sX9_department := by
  refine Cn_of (calls := kX9_department) (by decide +kernel) oX9_department (hC_of (cidx := [(0, 96), (0, 58)]) (by decide +kernel) (fun p e s m args below meth c Q Y k kd x na mc tr h1 h2 => ?_)) (hT_no) (hL_of (by decide +kernel)) (fun _ _ => rfl) (fun _ _ _ _ h => h)
  match k, h1, h2 with
  | 0, h1, h2 => cases h1; cases h2; exact callV_of Y (mX9_needDepartment hl) wl_RX9_96 wn_X9_needDepartment ws_X9_needDepartment wi_RX9 wc_X9_needDepartment (T := TX9) (N := _) rfl (by decide +kernel) ⟨by decide, by decide⟩
  | 1, h1, h2 => cases h1; cases h2; exact callV_of Y (mX9_needWithin hl) wl_RX9_58 wn_X9_needWithin ws_X9_needWithin wi_RX9 wc_X9_needWithin (T := TX9) (N := _) rfl (by decide +kernel) ⟨by decide, by decide⟩
  | k + 2, h1, _ => simp at h1
def kX9_product : List (Nat × Nat × SP) := [(2, 1, vsp 9 sX9_needProduct), (4, 1, vsp 9 sX9_needWithin)]
def sX9_product : SP := RUN pX9_product kX9_product hd0 [] 4 (some .int) 2
theorem mX9_product {l : Launch} {b : Nat} {D : va_G} {cA sa adV : Nat → Nat} (hl : l.stackTraces = false) : Cn l b D cA sa adV yX9_product cX9_product 4 (some .int) 7 113 2 sX9_product := by
  refine Cn_of (calls := kX9_product) (by decide +kernel) oX9_product (hC_of (cidx := [(0, 138), (0, 58)]) (by decide +kernel) (fun p e s m args below meth c Q Y k kd x na mc tr h1 h2 => ?_)) (hT_no) (hL_of (by decide +kernel)) (fun _ _ => rfl) (fun _ _ _ _ h => h)
  match k, h1, h2 with
  | 0, h1, h2 => cases h1; cases h2; exact callV_of Y (mX9_needProduct hl) wl_RX9_138 wn_X9_needProduct ws_X9_needProduct wi_RX9 wc_X9_needProduct (T := TX9) (N := _) rfl (by decide +kernel) ⟨by decide, by decide⟩
  | 1, h1, h2 => cases h1; cases h2; exact callV_of Y (mX9_needWithin hl) wl_RX9_58 wn_X9_needWithin ws_X9_needWithin wi_RX9 wc_X9_needWithin (T := TX9) (N := _) rfl (by decide +kernel) ⟨by decide, by decide⟩
  | k + 2, h1, _ => simp at h1
def kX9_work : List (Nat × Nat × SP) := [(2, 1, vsp 9 sX9_needDepartment), (4, 1, vsp 9 sX9_needWithin)]
def sX9_work : SP := RUN pX9_work kX9_work hd0 [] 4 (some .long) 2
theorem mX9_work {l : Launch} {b : Nat} {D : va_G} {cA sa adV : Nat → Nat} (hl : l.stackTraces = false) : Cn l b D cA sa adV yX9_work cX9_work 4 (some .long) 7 113 2 sX9_work := by
  refine Cn_of (calls := kX9_work) (by decide +kernel) oX9_work (hC_of (cidx := [(0, 96), (0, 58)]) (by decide +kernel) (fun p e s m args below meth c Q Y k kd x na mc tr h1 h2 => ?_)) (hT_no) (hL_of (by decide +kernel)) (fun _ _ => rfl) (fun _ _ _ _ h => h)
  match k, h1, h2 with
  | 0, h1, h2 => cases h1; cases h2; exact callV_of Y (mX9_needDepartment hl) wl_RX9_96 wn_X9_needDepartment ws_X9_needDepartment wi_RX9 wc_X9_needDepartment (T := TX9) (N := _) rfl (by decide +kernel) ⟨by decide, by decide⟩
  | 1, h1, h2 => cases h1; cases h2; exact callV_of Y (mX9_needWithin hl) wl_RX9_58 wn_X9_needWithin ws_X9_needWithin wi_RX9 wc_X9_needWithin (T := TX9) (N := _) rfl (by decide +kernel) ⟨by decide, by decide⟩
  | k + 2, h1, _ => simp at h1
def kX9_units : List (Nat × Nat × SP) := [(2, 1, vsp 9 sX9_needDepartment), (4, 1, vsp 9 sX9_needWithin)]
def sX9_units : SP := RUN pX9_units kX9_units hd0 [] 4 (some .int) 2
theorem mX9_units {l : Launch} {b : Nat} {D : va_G} {cA sa adV : Nat → Nat} (hl : l.stackTraces = false) : Cn l b D cA sa adV yX9_units cX9_units 4 (some .int) 7 113 2 sX9_units := by
  refine Cn_of (calls := kX9_units) (by decide +kernel) oX9_units (hC_of (cidx := [(0, 96), (0, 58)]) (by decide +kernel) (fun p e s m args below meth c Q Y k kd x na mc tr h1 h2 => ?_)) (hT_no) (hL_of (by decide +kernel)) (fun _ _ => rfl) (fun _ _ _ _ h => h)
  match k, h1, h2 with
  | 0, h1, h2 => cases h1; cases h2; exact callV_of Y (mX9_needDepartment hl) wl_RX9_96 wn_X9_needDepartment ws_X9_needDepartment wi_RX9 wc_X9_needDepartment (T := TX9) (N := _) rfl (by decide +kernel) ⟨by decide, by decide⟩
  | 1, h1, h2 => cases h1; cases h2; exact callV_of Y (mX9_needWithin hl) wl_RX9_58 wn_X9_needWithin ws_X9_needWithin wi_RX9 wc_X9_needWithin (T := TX9) (N := _) rfl (by decide +kernel) ⟨by decide, by decide⟩
  | k + 2, h1, _ => simp at h1
def kX9_asDone : List (Nat × Nat × SP) := [(2, 1, vsp 9 sX9_needDepartment), (4, 1, vsp 9 sX9_needKind), (4, 1, vsp 9 sX9_needWithin), (2, 0, vsp 4 sX4_allDone)]
def sX9_asDone : SP := RUN pX9_asDone kX9_asDone hd0 [] 6 (some .int) 3
theorem mX9_asDone {l : Launch} {b : Nat} {D : va_G} {cA sa adV : Nat → Nat} (hl : l.stackTraces = false) : Cn l b D cA sa adV yX9_asDone cX9_asDone 6 (some .int) 7 113 3 sX9_asDone := by
  refine Cn_of (calls := kX9_asDone) (by decide +kernel) oX9_asDone (hC_of (cidx := [(0, 96), (0, 100), (0, 58), (0, 242)]) (by decide +kernel) (fun p e s m args below meth c Q Y k kd x na mc tr h1 h2 => ?_)) (hT_no) (hL_of (by decide +kernel)) (fun _ _ => rfl) (fun _ _ _ _ h => h)
  match k, h1, h2 with
  | 0, h1, h2 => cases h1; cases h2; exact callV_of Y (mX9_needDepartment hl) wl_RX9_96 wn_X9_needDepartment ws_X9_needDepartment wi_RX9 wc_X9_needDepartment (T := TX9) (N := _) rfl (by decide +kernel) ⟨by decide, by decide⟩
  | 1, h1, h2 => cases h1; cases h2; exact callV_of Y (mX9_needKind hl) wl_RX9_100 wn_X9_needKind ws_X9_needKind wi_RX9 wc_X9_needKind (T := TX9) (N := _) rfl (by decide +kernel) ⟨by decide, by decide⟩
  | 2, h1, h2 => cases h1; cases h2; exact callV_of Y (mX9_needWithin hl) wl_RX9_58 wn_X9_needWithin ws_X9_needWithin wi_RX9 wc_X9_needWithin (T := TX9) (N := _) rfl (by decide +kernel) ⟨by decide, by decide⟩
  | 3, h1, h2 => cases h1; cases h2; exact callV_of Y (mX4_allDone hl) wl_RX9_242 wn_X4_allDone ws_X4_allDone wi_RX4 wc_X4_allDone (T := TX4) (N := _) rfl (by decide +kernel) ⟨by decide, by decide⟩
  | k + 4, h1, _ => simp at h1
def kX9_cents : List (Nat × Nat × SP) := [(2, 1, vsp 9 sX9_needDepartment), (4, 1, vsp 9 sX9_needKind), (4, 1, vsp 9 sX9_needWithin)]
def sX9_cents : SP := RUN pX9_cents kX9_cents hd0 [] 6 (some .long) 3
theorem mX9_cents {l : Launch} {b : Nat} {D : va_G} {cA sa adV : Nat → Nat} (hl : l.stackTraces = false) : Cn l b D cA sa adV yX9_cents cX9_cents 6 (some .long) 7 113 3 sX9_cents := by
  refine Cn_of (calls := kX9_cents) (by decide +kernel) oX9_cents (hC_of (cidx := [(0, 96), (0, 100), (0, 58)]) (by decide +kernel) (fun p e s m args below meth c Q Y k kd x na mc tr h1 h2 => ?_)) (hT_no) (hL_of (by decide +kernel)) (fun _ _ => rfl) (fun _ _ _ _ h => h)
  match k, h1, h2 with
  | 0, h1, h2 => cases h1; cases h2; exact callV_of Y (mX9_needDepartment hl) wl_RX9_96 wn_X9_needDepartment ws_X9_needDepartment wi_RX9 wc_X9_needDepartment (T := TX9) (N := _) rfl (by decide +kernel) ⟨by decide, by decide⟩
  | 1, h1, h2 => cases h1; cases h2; exact callV_of Y (mX9_needKind hl) wl_RX9_100 wn_X9_needKind ws_X9_needKind wi_RX9 wc_X9_needKind (T := TX9) (N := _) rfl (by decide +kernel) ⟨by decide, by decide⟩
  | 2, h1, h2 => cases h1; cases h2; exact callV_of Y (mX9_needWithin hl) wl_RX9_58 wn_X9_needWithin ws_X9_needWithin wi_RX9 wc_X9_needWithin (T := TX9) (N := _) rfl (by decide +kernel) ⟨by decide, by decide⟩
  | k + 3, h1, _ => simp at h1
def kX9_loss : List (Nat × Nat × SP) := [(2, 1, vsp 9 sX9_needDepartment), (4, 1, vsp 9 sX9_needWithin), (1, 0, vsp 0 sX0_scrapOfMonth)]
def sX9_loss : SP := RUN pX9_loss kX9_loss hd0 [] 5 (some .long) 2
theorem mX9_loss {l : Launch} {b : Nat} {D : va_G} {cA sa adV : Nat → Nat} (hl : l.stackTraces = false) : Cn l b D cA sa adV yX9_loss cX9_loss 5 (some .long) 7 113 2 sX9_loss := by
  refine Cn_of (calls := kX9_loss) (by decide +kernel) oX9_loss (hC_of (cidx := [(0, 96), (0, 58), (0, 272)]) (by decide +kernel) (fun p e s m args below meth c Q Y k kd x na mc tr h1 h2 => ?_)) (hT_no) (hL_of (by decide +kernel)) (fun _ _ => rfl) (fun _ _ _ _ h => h)
  match k, h1, h2 with
  | 0, h1, h2 => cases h1; cases h2; exact callV_of Y (mX9_needDepartment hl) wl_RX9_96 wn_X9_needDepartment ws_X9_needDepartment wi_RX9 wc_X9_needDepartment (T := TX9) (N := _) rfl (by decide +kernel) ⟨by decide, by decide⟩
  | 1, h1, h2 => cases h1; cases h2; exact callV_of Y (mX9_needWithin hl) wl_RX9_58 wn_X9_needWithin ws_X9_needWithin wi_RX9 wc_X9_needWithin (T := TX9) (N := _) rfl (by decide +kernel) ⟨by decide, by decide⟩
  | 2, h1, h2 => cases h1; cases h2; exact callV_of Y (mX0_scrapOfMonth hl) wl_RX9_272 wn_X0_scrapOfMonth ws_X0_scrapOfMonth wi_RX0 wc_X0_scrapOfMonth (T := TX0) (N := _) rfl (by decide +kernel) ⟨by decide, by decide⟩
  | k + 3, h1, _ => simp at h1
def kX9_other : List (Nat × Nat × SP) := [(2, 1, vsp 9 sX9_needDepartment), (2, 0, vsp 4 sX4_copyGiven), (3, 0, vsp 4 sX4_reckon)]
def sX9_other : SP := RUN pX9_other kX9_other hd0 [] 4 (some .long) 1
theorem mX9_other {l : Launch} {b : Nat} {D : va_G} {cA sa adV : Nat → Nat} (hl : l.stackTraces = false) : Cn l b D cA sa adV yX9_other cX9_other 4 (some .long) 7 111 1 sX9_other := by
  refine Cn_of (calls := kX9_other) (by decide +kernel) oX9_other (hC_of (cidx := [(0, 96), (0, 277), (0, 281)]) (by decide +kernel) (fun p e s m args below meth c Q Y k kd x na mc tr h1 h2 => ?_)) (hT_no) (hL_of (by decide +kernel)) (fun _ _ => rfl) (fun _ _ _ _ h => h)
  match k, h1, h2 with
  | 0, h1, h2 => cases h1; cases h2; exact callV_of Y (mX9_needDepartment hl) wl_RX9_96 wn_X9_needDepartment ws_X9_needDepartment wi_RX9 wc_X9_needDepartment (T := TX9) (N := _) rfl (by decide +kernel) ⟨by decide, by decide⟩
  | 1, h1, h2 => cases h1; cases h2; exact callV_of Y (mX4_copyGiven hl) wl_RX9_277 wn_X4_copyGiven ws_X4_copyGiven wi_RX4 wc_X4_copyGiven (T := TX4) (N := _) rfl (by decide +kernel) ⟨by decide, by decide⟩
  | 2, h1, h2 => cases h1; cases h2; exact callV_of Y (mX4_reckon hl) wl_RX9_281 wn_X4_reckon ws_X4_reckon wi_RX4 wc_X4_reckon (T := TX4) (N := _) rfl (by decide +kernel) ⟨by decide, by decide⟩
  | k + 3, h1, _ => simp at h1
def kX9_parted : List (Nat × Nat × SP) := [(2, 1, vsp 9 sX9_needProduct), (4, 1, vsp 9 sX9_needWithin)]
def sX9_parted : SP := RUN pX9_parted kX9_parted hd0 [] 4 (some .long) 2
theorem mX9_parted {l : Launch} {b : Nat} {D : va_G} {cA sa adV : Nat → Nat} (hl : l.stackTraces = false) : Cn l b D cA sa adV yX9_parted cX9_parted 4 (some .long) 7 113 2 sX9_parted := by
  refine Cn_of (calls := kX9_parted) (by decide +kernel) oX9_parted (hC_of (cidx := [(0, 138), (0, 58)]) (by decide +kernel) (fun p e s m args below meth c Q Y k kd x na mc tr h1 h2 => ?_)) (hT_no) (hL_of (by decide +kernel)) (fun _ _ => rfl) (fun _ _ _ _ h => h)
  match k, h1, h2 with
  | 0, h1, h2 => cases h1; cases h2; exact callV_of Y (mX9_needProduct hl) wl_RX9_138 wn_X9_needProduct ws_X9_needProduct wi_RX9 wc_X9_needProduct (T := TX9) (N := _) rfl (by decide +kernel) ⟨by decide, by decide⟩
  | 1, h1, h2 => cases h1; cases h2; exact callV_of Y (mX9_needWithin hl) wl_RX9_58 wn_X9_needWithin ws_X9_needWithin wi_RX9 wc_X9_needWithin (T := TX9) (N := _) rfl (by decide +kernel) ⟨by decide, by decide⟩
  | k + 2, h1, _ => simp at h1
def kX9_store : List (Nat × Nat × SP) := [(2, 1, vsp 9 sX9_needProduct), (4, 1, vsp 9 sX9_needWithin), (1, 0, vsp 6 sX6_unitsInStore), (1, 0, vsp 6 sX6_centsInStore)]
def sX9_store : SP := RUN pX9_store kX9_store hd0 [] 4 (some .long) 2
theorem mX9_store {l : Launch} {b : Nat} {D : va_G} {cA sa adV : Nat → Nat} (hl : l.stackTraces = false) : Cn l b D cA sa adV yX9_store cX9_store 4 (some .long) 7 113 2 sX9_store := by
  refine Cn_of (calls := kX9_store) (by decide +kernel) oX9_store (hC_of (cidx := [(0, 138), (0, 58), (0, 142), (0, 292)]) (by decide +kernel) (fun p e s m args below meth c Q Y k kd x na mc tr h1 h2 => ?_)) (hT_no) (hL_of (by decide +kernel)) (fun _ _ => rfl) (fun _ _ _ _ h => h)
  match k, h1, h2 with
  | 0, h1, h2 => cases h1; cases h2; exact callV_of Y (mX9_needProduct hl) wl_RX9_138 wn_X9_needProduct ws_X9_needProduct wi_RX9 wc_X9_needProduct (T := TX9) (N := _) rfl (by decide +kernel) ⟨by decide, by decide⟩
  | 1, h1, h2 => cases h1; cases h2; exact callV_of Y (mX9_needWithin hl) wl_RX9_58 wn_X9_needWithin ws_X9_needWithin wi_RX9 wc_X9_needWithin (T := TX9) (N := _) rfl (by decide +kernel) ⟨by decide, by decide⟩
  | 2, h1, h2 => cases h1; cases h2; exact callV_of Y (mX6_unitsInStore hl) wl_RX9_142 wn_X6_unitsInStore ws_X6_unitsInStore wi_RX6 wc_X6_unitsInStore (T := TX6) (N := _) rfl (by decide +kernel) ⟨by decide, by decide⟩
  | 3, h1, h2 => cases h1; cases h2; exact callV_of Y (mX6_centsInStore hl) wl_RX9_292 wn_X6_centsInStore ws_X6_centsInStore wi_RX6 wc_X6_centsInStore (T := TX6) (N := _) rfl (by decide +kernel) ⟨by decide, by decide⟩
  | k + 4, h1, _ => simp at h1
def kX9_needLayer : List (Nat × Nat × SP) := []
def sX9_needLayer : SP := RUN pX9_needLayer kX9_needLayer hd0 ["java/util/NoSuchElementException"] 3 none 1
theorem mX9_needLayer {l : Launch} {b : Nat} {D : va_G} {cA sa adV : Nat → Nat} (hl : l.stackTraces = false) : Cn l b D cA sa adV yX9_needLayer cX9_needLayer 3 none 6 90 1 sX9_needLayer := by
  refine Cn_of (calls := kX9_needLayer) (by decide +kernel) oX9_needLayer (hC_of (cidx := []) (by decide +kernel) (fun p e s m args below meth c Q Y k kd x na mc tr h1 h2 => ?_)) (tX9_needLayer hl) (hL_of (by decide +kernel)) (fun _ _ => rfl) (fun _ _ _ _ h => h)
  match k, h1, h2 with
  | k, h1, _ => simp at h1
def kX9_layer : List (Nat × Nat × SP) := [(2, 1, vsp 9 sX9_needProduct), (3, 1, vsp 9 sX9_needLayer), (4, 1, vsp 9 sX9_needWithin)]
def sX9_layer : SP := RUN pX9_layer kX9_layer hd0 [] 5 (some .long) 3
theorem mX9_layer {l : Launch} {b : Nat} {D : va_G} {cA sa adV : Nat → Nat} (hl : l.stackTraces = false) : Cn l b D cA sa adV yX9_layer cX9_layer 5 (some .long) 7 113 3 sX9_layer := by
  refine Cn_of (calls := kX9_layer) (by decide +kernel) oX9_layer (hC_of (cidx := [(0, 138), (0, 298), (0, 58)]) (by decide +kernel) (fun p e s m args below meth c Q Y k kd x na mc tr h1 h2 => ?_)) (hT_no) (hL_of (by decide +kernel)) (fun _ _ => rfl) (fun _ _ _ _ h => h)
  match k, h1, h2 with
  | 0, h1, h2 => cases h1; cases h2; exact callV_of Y (mX9_needProduct hl) wl_RX9_138 wn_X9_needProduct ws_X9_needProduct wi_RX9 wc_X9_needProduct (T := TX9) (N := _) rfl (by decide +kernel) ⟨by decide, by decide⟩
  | 1, h1, h2 => cases h1; cases h2; exact callV_of Y (mX9_needLayer hl) wl_RX9_298 wn_X9_needLayer ws_X9_needLayer wi_RX9 wc_X9_needLayer (T := TX9) (N := _) rfl (by decide +kernel) ⟨by decide, by decide⟩
  | 2, h1, h2 => cases h1; cases h2; exact callV_of Y (mX9_needWithin hl) wl_RX9_58 wn_X9_needWithin ws_X9_needWithin wi_RX9 wc_X9_needWithin (T := TX9) (N := _) rfl (by decide +kernel) ⟨by decide, by decide⟩
  | k + 3, h1, _ => simp at h1
def kX9_account : List (Nat × Nat × SP) := [(4, 1, vsp 9 sX9_needWithin), (1, 0, vsp 1 sX1_centsInWork), (1, 0, vsp 1 sX1_centsInStore)]
def sX9_account : SP := RUN pX9_account kX9_account hd0 [] 2 (some .long) 1
theorem mX9_account {l : Launch} {b : Nat} {D : va_G} {cA sa adV : Nat → Nat} (hl : l.stackTraces = false) : Cn l b D cA sa adV yX9_account cX9_account 2 (some .long) 7 113 1 sX9_account := by
  refine Cn_of (calls := kX9_account) (by decide +kernel) oX9_account (hC_of (cidx := [(0, 58), (0, 317), (0, 320)]) (by decide +kernel) (fun p e s m args below meth c Q Y k kd x na mc tr h1 h2 => ?_)) (hT_no) (hL_of (by decide +kernel)) (fun _ _ => rfl) (fun _ _ _ _ h => h)
  match k, h1, h2 with
  | 0, h1, h2 => cases h1; cases h2; exact callV_of Y (mX9_needWithin hl) wl_RX9_58 wn_X9_needWithin ws_X9_needWithin wi_RX9 wc_X9_needWithin (T := TX9) (N := _) rfl (by decide +kernel) ⟨by decide, by decide⟩
  | 1, h1, h2 => cases h1; cases h2; exact callV_of Y (mX1_centsInWork hl) wl_RX9_317 wn_X1_centsInWork ws_X1_centsInWork wi_RX1 wc_X1_centsInWork (T := TX1) (N := _) rfl (by decide +kernel) ⟨by decide, by decide⟩
  | 2, h1, h2 => cases h1; cases h2; exact callV_of Y (mX1_centsInStore hl) wl_RX9_320 wn_X1_centsInStore ws_X1_centsInStore wi_RX1 wc_X1_centsInStore (T := TX1) (N := _) rfl (by decide +kernel) ⟨by decide, by decide⟩
  | k + 3, h1, _ => simp at h1
def kX9_plan : List (Nat × Nat × SP) := [(4, 1, vsp 9 sX9_needWithin), (2, 1, vsp 9 sX9_needDepartment), (3, 0, vsp 5 sX5_settle), (2, 0, vsp 5 sX5_passing)]
def sX9_plan : SP := RUN pX9_plan kX9_plan hd0 [] 3 (some .long) 3
theorem mX9_plan {l : Launch} {b : Nat} {D : va_G} {cA sa adV : Nat → Nat} (hl : l.stackTraces = false) : Cn l b D cA sa adV yX9_plan cX9_plan 3 (some .long) 7 113 3 sX9_plan := by
  refine Cn_of (calls := kX9_plan) (by decide +kernel) oX9_plan (hC_of (cidx := [(0, 58), (0, 96), (0, 321), (0, 324)]) (by decide +kernel) (fun p e s m args below meth c Q Y k kd x na mc tr h1 h2 => ?_)) (hT_no) (hL_of (by decide +kernel)) (fun _ _ => rfl) (fun _ _ _ _ h => h)
  match k, h1, h2 with
  | 0, h1, h2 => cases h1; cases h2; exact callV_of Y (mX9_needWithin hl) wl_RX9_58 wn_X9_needWithin ws_X9_needWithin wi_RX9 wc_X9_needWithin (T := TX9) (N := _) rfl (by decide +kernel) ⟨by decide, by decide⟩
  | 1, h1, h2 => cases h1; cases h2; exact callV_of Y (mX9_needDepartment hl) wl_RX9_96 wn_X9_needDepartment ws_X9_needDepartment wi_RX9 wc_X9_needDepartment (T := TX9) (N := _) rfl (by decide +kernel) ⟨by decide, by decide⟩
  | 2, h1, h2 => cases h1; cases h2; exact callV_of Y (mX5_settle hl) wl_RX9_321 wn_X5_settle ws_X5_settle wi_RX5 wc_X5_settle (T := TX5) (N := _) rfl (by decide +kernel) ⟨by decide, by decide⟩
  | 3, h1, h2 => cases h1; cases h2; exact callV_of Y (mX5_passing hl) wl_RX9_324 wn_X5_passing ws_X5_passing wi_RX5 wc_X5_passing (T := TX5) (N := _) rfl (by decide +kernel) ⟨by decide, by decide⟩
  | k + 4, h1, _ => simp at h1
def kX9_print : List (Nat × Nat × SP) := [(1, 0, vsp 1 sX1_printed)]
def sX9_print : SP := RUN pX9_print kX9_print hd0 [] 1 (some .long) 0
theorem mX9_print {l : Launch} {b : Nat} {D : va_G} {cA sa adV : Nat → Nat} (hl : l.stackTraces = false) : Cn l b D cA sa adV yX9_print cX9_print 1 (some .long) 2 51 0 sX9_print := by
  refine Cn_of (calls := kX9_print) (by decide +kernel) oX9_print (hC_of (cidx := [(0, 334)]) (by decide +kernel) (fun p e s m args below meth c Q Y k kd x na mc tr h1 h2 => ?_)) (hT_no) (hL_of (by decide +kernel)) (fun _ _ => rfl) (fun _ _ _ _ h => h)
  match k, h1, h2 with
  | 0, h1, h2 => cases h1; cases h2; exact callV_of Y (mX1_printed hl) wl_RX9_334 wn_X1_printed ws_X1_printed wi_RX1 wc_X1_printed (T := TX1) (N := _) rfl (by decide +kernel) ⟨by decide, by decide⟩
  | k + 1, h1, _ => simp at h1
def kX9_status : List (Nat × Nat × SP) := []
def sX9_status : SP := RUN pX9_status kX9_status hd0 [] 2 (some .int) 0
theorem mX9_status {l : Launch} {b : Nat} {D : va_G} {cA sa adV : Nat → Nat} (hl : l.stackTraces = false) : Cn l b D cA sa adV yX9_status cX9_status 2 (some .int) 0 0 0 sX9_status := by
  refine Cn_of (calls := kX9_status) (by decide +kernel) oX9_status (hC_of (cidx := []) (by decide +kernel) (fun p e s m args below meth c Q Y k kd x na mc tr h1 h2 => ?_)) (hT_no) (hL_of (by decide +kernel)) (fun _ _ => rfl) (fun _ _ _ _ h => h)
  match k, h1, h2 with
  | k, h1, _ => simp at h1
def kX10_begins : List (Nat × Nat × SP) := []
def sX10_begins : SP := RUN pX10_begins kX10_begins hd0 [] 2 none 0
theorem mX10_begins {l : Launch} {b : Nat} {D : va_G} {cA sa adV : Nat → Nat} (hl : l.stackTraces = false) : Cn l b D cA sa adV yX10_begins cX10_begins 2 none 0 0 0 sX10_begins := by
  refine Cn_of (calls := kX10_begins) (by decide +kernel) oX10_begins (hC_of (cidx := []) (by decide +kernel) (fun p e s m args below meth c Q Y k kd x na mc tr h1 h2 => ?_)) (hT_no) (hL_of (by decide +kernel)) (fun _ _ => rfl) (fun _ _ _ _ h => h)
  match k, h1, h2 with
  | k, h1, _ => simp at h1
def kX10_dept : List (Nat × Nat × SP) := []
def sX10_dept : SP := RUN pX10_dept kX10_dept hd0 [] 7 none 0
theorem mX10_dept {l : Launch} {b : Nat} {D : va_G} {cA sa adV : Nat → Nat} (hl : l.stackTraces = false) : Cn l b D cA sa adV yX10_dept cX10_dept 7 none 0 0 0 sX10_dept := by
  refine Cn_of (calls := kX10_dept) (by decide +kernel) oX10_dept (hC_of (cidx := []) (by decide +kernel) (fun p e s m args below meth c Q Y k kd x na mc tr h1 h2 => ?_)) (hT_no) (hL_of (by decide +kernel)) (fun _ _ => rfl) (fun _ _ _ _ h => h)
  match k, h1, h2 with
  | k, h1, _ => simp at h1
def kX10_thrown : List (Nat × Nat × SP) := []
def sX10_thrown : SP := RUN pX10_thrown kX10_thrown hd0 [] 1 (some .int) 0
theorem mX10_thrown {l : Launch} {b : Nat} {D : va_G} {cA sa adV : Nat → Nat} (hl : l.stackTraces = false) : Cn l b D cA sa adV yX10_thrown cX10_thrown 1 (some .int) 0 0 0 sX10_thrown := by
  refine Cn_of (calls := kX10_thrown) (by decide +kernel) oX10_thrown (hC_of (cidx := []) (by decide +kernel) (fun p e s m args below meth c Q Y k kd x na mc tr h1 h2 => ?_)) (hT_no) (hL_of (by decide +kernel)) (fun _ _ => rfl) (fun _ _ _ _ h => h)
  match k, h1, h2 with
  | k, h1, _ => simp at h1
def kX10_bad : List (Nat × Nat × SP) := []
def sX10_bad : SP := RUN pX10_bad kX10_bad hd0 [] 4 (some .boolean) 0
theorem mX10_bad {l : Launch} {b : Nat} {D : va_G} {cA sa adV : Nat → Nat} (hl : l.stackTraces = false) : Cn l b D cA sa adV yX10_bad cX10_bad 4 (some .boolean) 0 0 0 sX10_bad := by
  refine Cn_of (calls := kX10_bad) (by decide +kernel) oX10_bad (hC_of (cidx := []) (by decide +kernel) (fun p e s m args below meth c Q Y k kd x na mc tr h1 h2 => ?_)) (hT_no) (hL_of (by decide +kernel)) (fun _ _ => rfl) (fun _ _ _ _ h => h)
  match k, h1, h2 with
  | k, h1, _ => simp at h1
def kX10_in : List (Nat × Nat × SP) := []
def sX10_in : SP := RUN pX10_in kX10_in hd0 [] 6 (some .boolean) 0
theorem mX10_in {l : Launch} {b : Nat} {D : va_G} {cA sa adV : Nat → Nat} (hl : l.stackTraces = false) : Cn l b D cA sa adV yX10_in cX10_in 6 (some .boolean) 0 0 0 sX10_in := by
  refine Cn_of (calls := kX10_in) (by decide +kernel) oX10_in (hC_of (cidx := []) (by decide +kernel) (fun p e s m args below meth c Q Y k kd x na mc tr h1 h2 => ?_)) (hT_no) (hL_of (by decide +kernel)) (fun _ _ => rfl) (fun _ _ _ _ h => h)
  match k, h1, h2 with
  | k, h1, _ => simp at h1
def kX10_less : List (Nat × Nat × SP) := []
def sX10_less : SP := RUN pX10_less kX10_less hd0 [] 4 (some .long) 0
theorem mX10_less {l : Launch} {b : Nat} {D : va_G} {cA sa adV : Nat → Nat} (hl : l.stackTraces = false) : Cn l b D cA sa adV yX10_less cX10_less 4 (some .long) 0 0 0 sX10_less := by
  refine Cn_of (calls := kX10_less) (by decide +kernel) oX10_less (hC_of (cidx := []) (by decide +kernel) (fun p e s m args below meth c Q Y k kd x na mc tr h1 h2 => ?_)) (hT_no) (hL_of (by decide +kernel)) (fun _ _ => rfl) (fun _ _ _ _ h => h)
  match k, h1, h2 with
  | k, h1, _ => simp at h1
def kX10_more : List (Nat × Nat × SP) := []
def sX10_more : SP := RUN pX10_more kX10_more hd0 [] 4 (some .long) 0
theorem mX10_more {l : Launch} {b : Nat} {D : va_G} {cA sa adV : Nat → Nat} (hl : l.stackTraces = false) : Cn l b D cA sa adV yX10_more cX10_more 4 (some .long) 0 0 0 sX10_more := by
  refine Cn_of (calls := kX10_more) (by decide +kernel) oX10_more (hC_of (cidx := []) (by decide +kernel) (fun p e s m args below meth c Q Y k kd x na mc tr h1 h2 => ?_)) (hT_no) (hL_of (by decide +kernel)) (fun _ _ => rfl) (fun _ _ _ _ h => h)
  match k, h1, h2 with
  | k, h1, _ => simp at h1
