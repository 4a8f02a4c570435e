def kX9_clearAll (N : Nat) : List (Nat × Nat × SP) := []
def sX9_clearAll (N : Nat) : SP := RUN N pX9_clearAll (kX9_clearAll N) hd0 [] 2 none 0
theorem mX9_clearAll {l : Launch} {N b : Nat} {D : va_G} {cA sa adV : Nat → Nat} (hl : l.stackTraces = false) : Cn l N b D cA sa adV yX9_clearAll cX9_clearAll 2 none 0 0 0 (sX9_clearAll N) := by
  refine Cn_of (calls := kX9_clearAll N) (by decide +kernel) oX9_clearAll (hC_of (cidx := []) (by decide +kernel) (fun p e s m args below meth c Q Y k kd x na mc tr h1 h2 => ?_)) (hT_no) (hL_of (by decide +kernel)) (fun _ _ => rfl) (fun _ _ _ _ h => h)
  match k, h1, h2 with
  | k, h1, _ => simp at h1
def kX0_clearNext (N : Nat) : List (Nat × Nat × SP) := [(1, 0, nsp (sX9_clearAll N))]
def sX0_clearNext (N : Nat) : SP := RUN N pX0_clearNext (kX0_clearNext N) hd0 [] 1 none 0
theorem mX0_clearNext {l : Launch} {N b : Nat} {D : va_G} {cA sa adV : Nat → Nat} (hl : l.stackTraces = false) : Cn l N b D cA sa adV yX0_clearNext cX0_clearNext 1 none 1 21 0 (sX0_clearNext N) := by
  refine Cn_of (calls := kX0_clearNext N) (by decide +kernel) oX0_clearNext (hC_of (cidx := [(1, 48)]) (by decide +kernel) (fun p e s m args below meth c Q Y k kd x na mc tr h1 h2 => ?_)) (hT_no) (hL_of (by decide +kernel)) (fun _ _ => rfl) (fun _ _ _ _ h => h)
  match k, h1, h2 with
  | 0, h1, h2 => cases h1; cases h2; exact callSN_of Y (mX9_clearAll hl) wl_RX0_48 wt_X9_clearAll wi_RX9 wc_X9_clearAll (by decide +kernel) ⟨by decide, by decide⟩
  | k + 1, h1, _ => simp at h1
def kX3_clear (N : Nat) : List (Nat × Nat × SP) := [(1, 0, nsp (sX9_clearAll N))]
def sX3_clear (N : Nat) : SP := RUN N pX3_clear (kX3_clear N) hd0 [] 1 none 0
theorem mX3_clear {l : Launch} {N b : Nat} {D : va_G} {cA sa adV : Nat → Nat} (hl : l.stackTraces = false) : Cn l N b D cA sa adV yX3_clear cX3_clear 1 none 1 21 0 (sX3_clear N) := by
  refine Cn_of (calls := kX3_clear N) (by decide +kernel) oX3_clear (hC_of (cidx := [(1, 22)]) (by decide +kernel) (fun p e s m args below meth c Q Y k kd x na mc tr h1 h2 => ?_)) (hT_no) (hL_of (by decide +kernel)) (fun _ _ => rfl) (fun _ _ _ _ h => h)
  match k, h1, h2 with
  | 0, h1, h2 => cases h1; cases h2; exact callSN_of Y (mX9_clearAll hl) wl_RX3_22 wt_X9_clearAll wi_RX9 wc_X9_clearAll (by decide +kernel) ⟨by decide, by decide⟩
  | k + 1, h1, _ => simp at h1
def kX4_clear (N : Nat) : List (Nat × Nat × SP) := [(1, 0, vsp N 3 (sX3_clear N)), (1, 0, nsp (sX9_clearAll N))]
def sX4_clear (N : Nat) : SP := RUN N pX4_clear (kX4_clear N) hd0 [] 1 none 0
theorem mX4_clear {l : Launch} {N b : Nat} {D : va_G} {cA sa adV : Nat → Nat} (hl : l.stackTraces = false) : Cn l N b D cA sa adV yX4_clear cX4_clear 1 none 2 41 0 (sX4_clear N) := by
  refine Cn_of (calls := kX4_clear N) (by decide +kernel) oX4_clear (hC_of (cidx := [(0, 43), (1, 46)]) (by decide +kernel) (fun p e s m args below meth c Q Y k kd x na mc tr h1 h2 => ?_)) (hT_no) (hL_of (by decide +kernel)) (fun _ _ => rfl) (fun _ _ _ _ h => h)
  match k, h1, h2 with
  | 0, h1, h2 => cases h1; cases h2; exact callV_of Y (mX3_clear hl) wl_RX4_43 wn_X3_clear ws_X3_clear wi_RX3 wc_X3_clear (T := TX3) (N1 := _) rfl (by decide +kernel) ⟨by decide, by decide⟩
  | 1, h1, h2 => cases h1; cases h2; exact callSN_of Y (mX9_clearAll hl) wl_RX4_46 wt_X9_clearAll wi_RX9 wc_X9_clearAll (by decide +kernel) ⟨by decide, by decide⟩
  | k + 2, h1, _ => simp at h1
def kX0_clear (N : Nat) : List (Nat × Nat × SP) := [(1, 0, nsp (sX9_clearAll N)), (1, 0, vsp N 0 (sX0_clearNext N)), (1, 0, vsp N 3 (sX3_clear N)), (1, 0, vsp N 4 (sX4_clear N))]
def sX0_clear (N : Nat) : SP := RUN N pX0_clear (kX0_clear N) hd0 [] 1 none 0
theorem mX0_clear {l : Launch} {N b : Nat} {D : va_G} {cA sa adV : Nat → Nat} (hl : l.stackTraces = false) : Cn l N b D cA sa adV yX0_clear cX0_clear 1 none 3 61 0 (sX0_clear N) := by
  refine Cn_of (calls := kX0_clear N) (by decide +kernel) oX0_clear (hC_of (cidx := [(1, 48), (0, 58), (0, 61), (0, 64)]) (by decide +kernel) (fun p e s m args below meth c Q Y k kd x na mc tr h1 h2 => ?_)) (hT_no) (hL_of (by decide +kernel)) (fun _ _ => rfl) (fun _ _ _ _ h => h)
  match k, h1, h2 with
  | 0, h1, h2 => cases h1; cases h2; exact callSN_of Y (mX9_clearAll hl) wl_RX0_48 wt_X9_clearAll wi_RX9 wc_X9_clearAll (by decide +kernel) ⟨by decide, by decide⟩
  | 1, h1, h2 => cases h1; cases h2; exact callV_of Y (mX0_clearNext hl) wl_RX0_58 wn_X0_clearNext ws_X0_clearNext wi_RX0 wc_X0_clearNext (T := TX0) (N1 := _) rfl (by decide +kernel) ⟨by decide, by decide⟩
  | 2, h1, h2 => cases h1; cases h2; exact callV_of Y (mX3_clear hl) wl_RX0_61 wn_X3_clear ws_X3_clear wi_RX3 wc_X3_clear (T := TX3) (N1 := _) rfl (by decide +kernel) ⟨by decide, by decide⟩
  | 3, h1, h2 => cases h1; cases h2; exact callV_of Y (mX4_clear hl) wl_RX0_64 wn_X4_clear ws_X4_clear wi_RX4 wc_X4_clear (T := TX4) (N1 := _) rfl (by decide +kernel) ⟨by decide, by decide⟩
  | k + 4, h1, _ => simp at h1
def kX0_hasKind (N : Nat) : List (Nat × Nat × SP) := []
def sX0_hasKind (N : Nat) : SP := RUN N pX0_hasKind (kX0_hasKind N) hd0 [] 2 (some .boolean) 0
theorem mX0_hasKind {l : Launch} {N b : Nat} {D : va_G} {cA sa adV : Nat → Nat} (hl : l.stackTraces = false) : Cn l N b D cA sa adV yX0_hasKind cX0_hasKind 2 (some .boolean) 0 0 0 (sX0_hasKind N) := by
  refine Cn_of (calls := kX0_hasKind N) (by decide +kernel) oX0_hasKind (hC_of (cidx := []) (by decide +kernel) (fun p e s m args below meth c Q Y k kd x na mc tr h1 h2 => ?_)) (hT_no) (hL_of (by decide +kernel)) (fun _ _ => rfl) (fun _ _ _ _ h => h)
  match k, h1, h2 with
  | k, h1, _ => simp at h1
def kX0_doneAt (N : Nat) : List (Nat × Nat × SP) := []
def sX0_doneAt (N : Nat) : SP := RUN N pX0_doneAt (kX0_doneAt N) hd0 [] 4 (some .long) 0
theorem mX0_doneAt {l : Launch} {N b : Nat} {D : va_G} {cA sa adV : Nat → Nat} (hl : l.stackTraces = false) : Cn l N b D cA sa adV yX0_doneAt cX0_doneAt 4 (some .long) 0 0 0 (sX0_doneAt N) := by
  refine Cn_of (calls := kX0_doneAt N) (by decide +kernel) oX0_doneAt (hC_of (cidx := []) (by decide +kernel) (fun p e s m args below meth c Q Y k kd x na mc tr h1 h2 => ?_)) (hT_no) (hL_of (by decide +kernel)) (fun _ _ => rfl) (fun _ _ _ _ h => h)
  match k, h1, h2 with
  | k, h1, _ => simp at h1
def kX9_copyAll (N : Nat) : List (Nat × Nat × SP) := []
def sX9_copyAll (N : Nat) : SP := RUN N pX9_copyAll (kX9_copyAll N) hd0 [] 3 none 0
theorem mX9_copyAll {l : Launch} {N b : Nat} {D : va_G} {cA sa adV : Nat → Nat} (hl : l.stackTraces = false) : Cn l N b D cA sa adV yX9_copyAll cX9_copyAll 3 none 0 0 0 (sX9_copyAll N) := by
  refine Cn_of (calls := kX9_copyAll N) (by decide +kernel) oX9_copyAll (hC_of (cidx := []) (by decide +kernel) (fun p e s m args below meth c Q Y k kd x na mc tr h1 h2 => ?_)) (hT_no) (hL_of (by decide +kernel)) (fun _ _ => rfl) (fun _ _ _ _ h => h)
  match k, h1, h2 with
  | k, h1, _ => simp at h1
def kX3_copyFrom (N : Nat) : List (Nat × Nat × SP) := [(2, 0, nsp (sX9_copyAll N))]
def sX3_copyFrom (N : Nat) : SP := RUN N pX3_copyFrom (kX3_copyFrom N) hd0 [] 2 none 0
theorem mX3_copyFrom {l : Launch} {N b : Nat} {D : va_G} {cA sa adV : Nat → Nat} (hl : l.stackTraces = false) : Cn l N b D cA sa adV yX3_copyFrom cX3_copyFrom 2 none 1 22 0 (sX3_copyFrom N) := by
  refine Cn_of (calls := kX3_copyFrom N) (by decide +kernel) oX3_copyFrom (hC_of (cidx := [(1, 26)]) (by decide +kernel) (fun p e s m args below meth c Q Y k kd x na mc tr h1 h2 => ?_)) (hT_no) (hL_of (by decide +kernel)) (fun _ _ => rfl) (fun _ _ _ _ h => h)
  match k, h1, h2 with
  | 0, h1, h2 => cases h1; cases h2; exact callSN_of Y (mX9_copyAll hl) wl_RX3_26 wt_X9_copyAll wi_RX9 wc_X9_copyAll (by decide +kernel) ⟨by decide, by decide⟩
  | k + 1, h1, _ => simp at h1
def kX4_countDone (N : Nat) : List (Nat × Nat × SP) := [(3, 0, vsp N 0 (sX0_doneAt N))]
def sX4_countDone (N : Nat) : SP := RUN N pX4_countDone (kX4_countDone N) hd0 [] 4 none 0
theorem mX4_countDone {l : Launch} {N b : Nat} {D : va_G} {cA sa adV : Nat → Nat} (hl : l.stackTraces = false) : Cn l N b D cA sa adV yX4_countDone cX4_countDone 4 none 1 23 0 (sX4_countDone N) := by
  refine Cn_of (calls := kX4_countDone N) (by decide +kernel) oX4_countDone (hC_of (cidx := [(0, 114)]) (by decide +kernel) (fun p e s m args below meth c Q Y k kd x na mc tr h1 h2 => ?_)) (hT_no) (hL_of (by decide +kernel)) (fun _ _ => rfl) (fun _ _ _ _ h => h)
  match k, h1, h2 with
  | 0, h1, h2 => cases h1; cases h2; exact callV_of Y (mX0_doneAt hl) wl_RX4_114 wn_X0_doneAt ws_X0_doneAt wi_RX0 wc_X0_doneAt (T := TX0) (N1 := _) rfl (by decide +kernel) ⟨by decide, by decide⟩
  | k + 1, h1, _ => simp at h1
def kX4_allDone (N : Nat) : List (Nat × Nat × SP) := []
def sX4_allDone (N : Nat) : SP := RUN N pX4_allDone (kX4_allDone N) hd0 [] 2 (some .long) 0
theorem mX4_allDone {l : Launch} {N b : Nat} {D : va_G} {cA sa adV : Nat → Nat} (hl : l.stackTraces = false) : Cn l N b D cA sa adV yX4_allDone cX4_allDone 2 (some .long) 0 0 0 (sX4_allDone N) := by
  refine Cn_of (calls := kX4_allDone N) (by decide +kernel) oX4_allDone (hC_of (cidx := []) (by decide +kernel) (fun p e s m args below meth c Q Y k kd x na mc tr h1 h2 => ?_)) (hT_no) (hL_of (by decide +kernel)) (fun _ _ => rfl) (fun _ _ _ _ h => h)
  match k, h1, h2 with
  | k, h1, _ => simp at h1
def kX9_partOf (N : Nat) : List (Nat × Nat × SP) := []
def sX9_partOf (N : Nat) : SP := RUN N pX9_partOf (kX9_partOf N) hd0 [] 6 (some .long) 0
theorem mX9_partOf {l : Launch} {N b : Nat} {D : va_G} {cA sa adV : Nat → Nat} (hl : l.stackTraces = false) : Cn l N b D cA sa adV yX9_partOf cX9_partOf 6 (some .long) 0 0 0 (sX9_partOf N) := by
  refine Cn_of (calls := kX9_partOf N) (by decide +kernel) oX9_partOf (hC_of (cidx := []) (by decide +kernel) (fun p e s m args below meth c Q Y k kd x na mc tr h1 h2 => ?_)) (hT_no) (hL_of (by decide +kernel)) (fun _ _ => rfl) (fun _ _ _ _ h => h)
  match k, h1, h2 with
  | k, h1, _ => simp at h1
def kX4_shareKind (N : Nat) : List (Nat × Nat × SP) := [(2, 0, vsp N 4 (sX4_allDone N)), (3, 0, nsp (sX9_partOf N))]
def sX4_shareKind (N : Nat) : SP := RUN N pX4_shareKind (kX4_shareKind N) hd0 [] 5 none 0
theorem mX4_shareKind {l : Launch} {N b : Nat} {D : va_G} {cA sa adV : Nat → Nat} (hl : l.stackTraces = false) : Cn l N b D cA sa adV yX4_shareKind cX4_shareKind 5 none 1 25 0 (sX4_shareKind N) := by
  refine Cn_of (calls := kX4_shareKind N) (by decide +kernel) oX4_shareKind (hC_of (cidx := [(0, 126), (1, 130)]) (by decide +kernel) (fun p e s m args below meth c Q Y k kd x na mc tr h1 h2 => ?_)) (hT_no) (hL_of (by decide +kernel)) (fun _ _ => rfl) (fun _ _ _ _ h => h)
  match k, h1, h2 with
  | 0, h1, h2 => cases h1; cases h2; exact callV_of Y (mX4_allDone hl) wl_RX4_126 wn_X4_allDone ws_X4_allDone wi_RX4 wc_X4_allDone (T := TX4) (N1 := _) rfl (by decide +kernel) ⟨by decide, by decide⟩
  | 1, h1, h2 => cases h1; cases h2; exact callSN_of Y (mX9_partOf hl) wl_RX4_130 wt_X9_partOf wi_RX9 wc_X9_partOf (by decide +kernel) ⟨by decide, by decide⟩
  | k + 2, h1, _ => simp at h1
def kX4_countNormal (N : Nat) : List (Nat × Nat × SP) := [(2, 0, spMaxI), (2, 0, spMinI)]
def sX4_countNormal (N : Nat) : SP := RUN N pX4_countNormal (kX4_countNormal N) hd0 [] 2 none 0
theorem mX4_countNormal {l : Launch} {N b : Nat} {D : va_G} {cA sa adV : Nat → Nat} (hl : l.stackTraces = false) : Cn l N b D cA sa adV yX4_countNormal cX4_countNormal 2 none 1 23 0 (sX4_countNormal N) := by
  refine Cn_of (calls := kX4_countNormal N) (by decide +kernel) oX4_countNormal (hC_of (cidx := [(1, 134), (1, 143)]) (by decide +kernel) (fun p e s m args below meth c Q Y k kd x na mc tr h1 h2 => ?_)) (hT_no) (hL_of (by decide +kernel)) (fun _ _ => rfl) (fun _ _ _ _ h => h)
  match k, h1, h2 with
  | 0, h1, h2 => cases h1; cases h2; exact callMaxI_of Y (wG_at (w := .methodLink RX4 134 Lib.Math.max.name) 994 (by decide +kernel) rfl) ⟨by decide, by decide⟩
  | 1, h1, h2 => cases h1; cases h2; exact callMinI_of Y (wG_at (w := .methodLink RX4 143 Lib.Math.min.name) 995 (by decide +kernel) rfl) ⟨by decide, by decide⟩
  | k + 2, h1, _ => simp at h1
def kX9_sumOf (N : Nat) : List (Nat × Nat × SP) := []
def sX9_sumOf (N : Nat) : SP := RUN N pX9_sumOf (kX9_sumOf N) hd0 [] 8 (some .long) 0
theorem mX9_sumOf {l : Launch} {N b : Nat} {D : va_G} {cA sa adV : Nat → Nat} (hl : l.stackTraces = false) : Cn l N b D cA sa adV yX9_sumOf cX9_sumOf 8 (some .long) 0 0 0 (sX9_sumOf N) := by
  refine Cn_of (calls := kX9_sumOf N) (by decide +kernel) oX9_sumOf (hC_of (cidx := []) (by decide +kernel) (fun p e s m args below meth c Q Y k kd x na mc tr h1 h2 => ?_)) (hT_no) (hL_of (by decide +kernel)) (fun _ _ => rfl) (fun _ _ _ _ h => h)
  match k, h1, h2 with
  | k, h1, _ => simp at h1
def kX4_bearLoss (N : Nat) : List (Nat × Nat × SP) := [(1, 0, nsp (sX9_sumOf N)), (3, 0, nsp (sX9_partOf N)), (2, 0, spMaxL)]
def sX4_bearLoss (N : Nat) : SP := RUN N pX4_bearLoss (kX4_bearLoss N) hd0 [] 8 none 0
theorem mX4_bearLoss {l : Launch} {N b : Nat} {D : va_G} {cA sa adV : Nat → Nat} (hl : l.stackTraces = false) : Cn l N b D cA sa adV yX4_bearLoss cX4_bearLoss 8 none 1 27 0 (sX4_bearLoss N) := by
  refine Cn_of (calls := kX4_bearLoss N) (by decide +kernel) oX4_bearLoss (hC_of (cidx := [(1, 87), (1, 130), (1, 149)]) (by decide +kernel) (fun p e s m args below meth c Q Y k kd x na mc tr h1 h2 => ?_)) (hT_no) (hL_of (by decide +kernel)) (fun _ _ => rfl) (fun _ _ _ _ h => h)
  match k, h1, h2 with
  | 0, h1, h2 => cases h1; cases h2; exact callSN_of Y (mX9_sumOf hl) wl_RX4_87 wt_X9_sumOf wi_RX9 wc_X9_sumOf (by decide +kernel) ⟨by decide, by decide⟩
  | 1, h1, h2 => cases h1; cases h2; exact callSN_of Y (mX9_partOf hl) wl_RX4_130 wt_X9_partOf wi_RX9 wc_X9_partOf (by decide +kernel) ⟨by decide, by decide⟩
  | 2, h1, h2 => cases h1; cases h2; exact callMaxL_of Y (wG_at (w := .methodLink RX4 149 Lib.MathLoose.max_long.x) 1001 (by decide +kernel) rfl) ⟨by decide, by decide⟩
  | k + 3, h1, _ => simp at h1
def kX4_reckon (N : Nat) : List (Nat × Nat × SP) := [(4, 0, vsp N 4 (sX4_countDone N)), (3, 0, vsp N 4 (sX4_shareKind N)), (2, 0, vsp N 4 (sX4_countNormal N)), (2, 0, vsp N 4 (sX4_bearLoss N))]
def sX4_reckon (N : Nat) : SP := RUN N pX4_reckon (kX4_reckon N) hd0 [] 4 (some .boolean) 0
theorem mX4_reckon {l : Launch} {N b : Nat} {D : va_G} {cA sa adV : Nat → Nat} (hl : l.stackTraces = false) : Cn l N b D cA sa adV yX4_reckon cX4_reckon 4 (some .boolean) 2 54 0 (sX4_reckon N) := by
  refine Cn_of (calls := kX4_reckon N) (by decide +kernel) oX4_reckon (hC_of (cidx := [(0, 94), (0, 98), (0, 102), (0, 106)]) (by decide +kernel) (fun p e s m args below meth c Q Y k kd x na mc tr h1 h2 => ?_)) (hT_no) (hL_of (by decide +kernel)) (fun _ _ => rfl) (fun _ _ _ _ h => h)
  match k, h1, h2 with
  | 0, h1, h2 => cases h1; cases h2; exact callV_of Y (mX4_countDone hl) wl_RX4_94 wn_X4_countDone ws_X4_countDone wi_RX4 wc_X4_countDone (T := TX4) (N1 := _) rfl (by decide +kernel) ⟨by decide, by decide⟩
  | 1, h1, h2 => cases h1; cases h2; exact callV_of Y (mX4_shareKind hl) wl_RX4_98 wn_X4_shareKind ws_X4_shareKind wi_RX4 wc_X4_shareKind (T := TX4) (N1 := _) rfl (by decide +kernel) ⟨by decide, by decide⟩
  | 2, h1, h2 => cases h1; cases h2; exact callV_of Y (mX4_countNormal hl) wl_RX4_102 wn_X4_countNormal ws_X4_countNormal wi_RX4 wc_X4_countNormal (T := TX4) (N1 := _) rfl (by decide +kernel) ⟨by decide, by decide⟩
  | 3, h1, h2 => cases h1; cases h2; exact callV_of Y (mX4_bearLoss hl) wl_RX4_106 wn_X4_bearLoss ws_X4_bearLoss wi_RX4 wc_X4_bearLoss (T := TX4) (N1 := _) rfl (by decide +kernel) ⟨by decide, by decide⟩
  | k + 4, h1, _ => simp at h1
def kX0_closeMonth (N : Nat) : List (Nat × Nat × SP) := [(2, 0, vsp N 3 (sX3_copyFrom N)), (2, 0, nsp (sX9_copyAll N)), (3, 0, vsp N 4 (sX4_reckon N)), (1, 0, vsp N 0 (sX0_clearNext N))]
def sX0_closeMonth (N : Nat) : SP := RUN N pX0_closeMonth (kX0_closeMonth N) hd0 [] 4 (some .boolean) 0
theorem mX0_closeMonth {l : Launch} {N b : Nat} {D : va_G} {cA sa adV : Nat → Nat} (hl : l.stackTraces = false) : Cn l N b D cA sa adV yX0_closeMonth cX0_closeMonth 4 (some .boolean) 3 77 0 (sX0_closeMonth N) := by
  refine Cn_of (calls := kX0_closeMonth N) (by decide +kernel) oX0_closeMonth (hC_of (cidx := [(0, 79), (1, 86), (0, 105), (0, 58)]) (by decide +kernel) (fun p e s m args below meth c Q Y k kd x na mc tr h1 h2 => ?_)) (hT_no) (hL_of (by decide +kernel)) (fun _ _ => rfl) (fun _ _ _ _ h => h)
  match k, h1, h2 with
  | 0, h1, h2 => cases h1; cases h2; exact callV_of Y (mX3_copyFrom hl) wl_RX0_79 wn_X3_copyFrom ws_X3_copyFrom wi_RX3 wc_X3_copyFrom (T := TX3) (N1 := _) rfl (by decide +kernel) ⟨by decide, by decide⟩
  | 1, h1, h2 => cases h1; cases h2; exact callSN_of Y (mX9_copyAll hl) wl_RX0_86 wt_X9_copyAll wi_RX9 wc_X9_copyAll (by decide +kernel) ⟨by decide, by decide⟩
  | 2, h1, h2 => cases h1; cases h2; exact callV_of Y (mX4_reckon hl) wl_RX0_105 wn_X4_reckon ws_X4_reckon wi_RX4 wc_X4_reckon (T := TX4) (N1 := _) rfl (by decide +kernel) ⟨by decide, by decide⟩
  | 3, h1, h2 => cases h1; cases h2; exact callV_of Y (mX0_clearNext hl) wl_RX0_58 wn_X0_clearNext ws_X0_clearNext wi_RX0 wc_X0_clearNext (T := TX0) (N1 := _) rfl (by decide +kernel) ⟨by decide, by decide⟩
  | k + 4, h1, _ => simp at h1
def kX0_scrapOfMonth (N : Nat) : List (Nat × Nat × SP) := []
def sX0_scrapOfMonth (N : Nat) : SP := RUN N pX0_scrapOfMonth (kX0_scrapOfMonth N) hd0 [] 1 (some .long) 0
theorem mX0_scrapOfMonth {l : Launch} {N b : Nat} {D : va_G} {cA sa adV : Nat → Nat} (hl : l.stackTraces = false) : Cn l N b D cA sa adV yX0_scrapOfMonth cX0_scrapOfMonth 1 (some .long) 0 0 0 (sX0_scrapOfMonth N) := by
  refine Cn_of (calls := kX0_scrapOfMonth N) (by decide +kernel) oX0_scrapOfMonth (hC_of (cidx := []) (by decide +kernel) (fun p e s m args below meth c Q Y k kd x na mc tr h1 h2 => ?_)) (hT_no) (hL_of (by decide +kernel)) (fun _ _ => rfl) (fun _ _ _ _ h => h)
  match k, h1, h2 with
  | k, h1, _ => simp at h1
def kX0_lostOf (N : Nat) : List (Nat × Nat × SP) := []
def sX0_lostOf (N : Nat) : SP := RUN N pX0_lostOf (kX0_lostOf N) hd0 [] 3 (some .long) 0
theorem mX0_lostOf {l : Launch} {N b : Nat} {D : va_G} {cA sa adV : Nat → Nat} (hl : l.stackTraces = false) : Cn l N b D cA sa adV yX0_lostOf cX0_lostOf 3 (some .long) 0 0 0 (sX0_lostOf N) := by
  refine Cn_of (calls := kX0_lostOf N) (by decide +kernel) oX0_lostOf (hC_of (cidx := []) (by decide +kernel) (fun p e s m args below meth c Q Y k kd x na mc tr h1 h2 => ?_)) (hT_no) (hL_of (by decide +kernel)) (fun _ _ => rfl) (fun _ _ _ _ h => h)
  match k, h1, h2 with
  | k, h1, _ => simp at h1
def kX0_passingOf (N : Nat) : List (Nat × Nat × SP) := [(2, 0, vsp N 0 (sX0_lostOf N))]
def sX0_passingOf (N : Nat) : SP := RUN N pX0_passingOf (kX0_passingOf N) hd0 [] 3 (some .long) 0
theorem mX0_passingOf {l : Launch} {N b : Nat} {D : va_G} {cA sa adV : Nat → Nat} (hl : l.stackTraces = false) : Cn l N b D cA sa adV yX0_passingOf cX0_passingOf 3 (some .long) 1 22 0 (sX0_passingOf N) := by
  refine Cn_of (calls := kX0_passingOf N) (by decide +kernel) oX0_passingOf (hC_of (cidx := [(0, 116)]) (by decide +kernel) (fun p e s m args below meth c Q Y k kd x na mc tr h1 h2 => ?_)) (hT_no) (hL_of (by decide +kernel)) (fun _ _ => rfl) (fun _ _ _ _ h => h)
  match k, h1, h2 with
  | 0, h1, h2 => cases h1; cases h2; exact callV_of Y (mX0_lostOf hl) wl_RX0_116 wn_X0_lostOf ws_X0_lostOf wi_RX0 wc_X0_lostOf (T := TX0) (N1 := _) rfl (by decide +kernel) ⟨by decide, by decide⟩
  | k + 1, h1, _ => simp at h1
def kX0_backOf (N : Nat) : List (Nat × Nat × SP) := [(2, 0, vsp N 0 (sX0_lostOf N))]
def sX0_backOf (N : Nat) : SP := RUN N pX0_backOf (kX0_backOf N) hd0 [] 3 (some .long) 0
theorem mX0_backOf {l : Launch} {N b : Nat} {D : va_G} {cA sa adV : Nat → Nat} (hl : l.stackTraces = false) : Cn l N b D cA sa adV yX0_backOf cX0_backOf 3 (some .long) 1 22 0 (sX0_backOf N) := by
  refine Cn_of (calls := kX0_backOf N) (by decide +kernel) oX0_backOf (hC_of (cidx := [(0, 116)]) (by decide +kernel) (fun p e s m args below meth c Q Y k kd x na mc tr h1 h2 => ?_)) (hT_no) (hL_of (by decide +kernel)) (fun _ _ => rfl) (fun _ _ _ _ h => h)
  match k, h1, h2 with
  | 0, h1, h2 => cases h1; cases h2; exact callV_of Y (mX0_lostOf hl) wl_RX0_116 wn_X0_lostOf ws_X0_lostOf wi_RX0 wc_X0_lostOf (T := TX0) (N1 := _) rfl (by decide +kernel) ⟨by decide, by decide⟩
  | k + 1, h1, _ => simp at h1
def kX7_put (N : Nat) : List (Nat × Nat × SP) := []
def sX7_put (N : Nat) : SP := RUN N pX7_put (kX7_put N) hd0 [] 3 none 0
theorem mX7_put {l : Launch} {N b : Nat} {D : va_G} {cA sa adV : Nat → Nat} (hl : l.stackTraces = false) : Cn l N b D cA sa adV yX7_put cX7_put 3 none 0 0 0 (sX7_put N) := by
  refine Cn_of (calls := kX7_put N) (by decide +kernel) oX7_put (hC_of (cidx := []) (by decide +kernel) (fun p e s m args below meth c Q Y k kd x na mc tr h1 h2 => ?_)) (hT_no) (hL_of (by decide +kernel)) (fun _ _ => rfl) (fun _ _ _ _ h => h)
  match k, h1, h2 with
  | k, h1, _ => simp at h1
def kX7_putAll (N : Nat) : List (Nat × Nat × SP) := [(2, 0, vsp N 7 (sX7_put N))]
def sX7_putAll (N : Nat) : SP := RUN N pX7_putAll (kX7_putAll N) hd0 [] 7 none 0
theorem mX7_putAll {l : Launch} {N b : Nat} {D : va_G} {cA sa adV : Nat → Nat} (hl : l.stackTraces = false) : Cn l N b D cA sa adV yX7_putAll cX7_putAll 7 none 1 22 0 (sX7_putAll N) := by
  refine Cn_of (calls := kX7_putAll N) (by decide +kernel) oX7_putAll (hC_of (cidx := [(0, 19)]) (by decide +kernel) (fun p e s m args below meth c Q Y k kd x na mc tr h1 h2 => ?_)) (hT_no) (hL_of (by decide +kernel)) (fun _ _ => rfl) (fun _ _ _ _ h => h)
  match k, h1, h2 with
  | 0, h1, h2 => cases h1; cases h2; exact callV_of Y (mX7_put hl) wl_RX7_19 wn_X7_put ws_X7_put wi_RX7 wc_X7_put (T := TX7) (N1 := _) rfl (by decide +kernel) ⟨by decide, by decide⟩
  | k + 1, h1, _ => simp at h1
def kX3_save (N : Nat) : List (Nat × Nat × SP) := [(2, 0, vsp N 7 (sX7_put N)), (2, 0, vsp N 7 (sX7_putAll N))]
def sX3_save (N : Nat) : SP := RUN N pX3_save (kX3_save N) hd0 [] 2 none 0
theorem mX3_save {l : Launch} {N b : Nat} {D : va_G} {cA sa adV : Nat → Nat} (hl : l.stackTraces = false) : Cn l N b D cA sa adV yX3_save cX3_save 2 none 2 48 0 (sX3_save N) := by
  refine Cn_of (calls := kX3_save N) (by decide +kernel) oX3_save (hC_of (cidx := [(0, 30), (0, 36)]) (by decide +kernel) (fun p e s m args below meth c Q Y k kd x na mc tr h1 h2 => ?_)) (hT_no) (hL_of (by decide +kernel)) (fun _ _ => rfl) (fun _ _ _ _ h => h)
  match k, h1, h2 with
  | 0, h1, h2 => cases h1; cases h2; exact callV_of Y (mX7_put hl) wl_RX3_30 wn_X7_put ws_X7_put wi_RX7 wc_X7_put (T := TX7) (N1 := _) rfl (by decide +kernel) ⟨by decide, by decide⟩
  | 1, h1, h2 => cases h1; cases h2; exact callV_of Y (mX7_putAll hl) wl_RX3_36 wn_X7_putAll ws_X7_putAll wi_RX7 wc_X7_putAll (T := TX7) (N1 := _) rfl (by decide +kernel) ⟨by decide, by decide⟩
  | k + 2, h1, _ => simp at h1
def kX4_save (N : Nat) : List (Nat × Nat × SP) := [(2, 0, vsp N 3 (sX3_save N)), (2, 0, vsp N 7 (sX7_putAll N)), (2, 0, vsp N 7 (sX7_put N))]
def sX4_save (N : Nat) : SP := RUN N pX4_save (kX4_save N) hd0 [] 2 none 0
theorem mX4_save {l : Launch} {N b : Nat} {D : va_G} {cA sa adV : Nat → Nat} (hl : l.stackTraces = false) : Cn l N b D cA sa adV yX4_save cX4_save 2 none 3 69 0 (sX4_save N) := by
  refine Cn_of (calls := kX4_save N) (by decide +kernel) oX4_save (hC_of (cidx := [(0, 152), (0, 156), (0, 161)]) (by decide +kernel) (fun p e s m args below meth c Q Y k kd x na mc tr h1 h2 => ?_)) (hT_no) (hL_of (by decide +kernel)) (fun _ _ => rfl) (fun _ _ _ _ h => h)
  match k, h1, h2 with
  | 0, h1, h2 => cases h1; cases h2; exact callV_of Y (mX3_save hl) wl_RX4_152 wn_X3_save ws_X3_save wi_RX3 wc_X3_save (T := TX3) (N1 := _) rfl (by decide +kernel) ⟨by decide, by decide⟩
  | 1, h1, h2 => cases h1; cases h2; exact callV_of Y (mX7_putAll hl) wl_RX4_156 wn_X7_putAll ws_X7_putAll wi_RX7 wc_X7_putAll (T := TX7) (N1 := _) rfl (by decide +kernel) ⟨by decide, by decide⟩
  | 2, h1, h2 => cases h1; cases h2; exact callV_of Y (mX7_put hl) wl_RX4_161 wn_X7_put ws_X7_put wi_RX7 wc_X7_put (T := TX7) (N1 := _) rfl (by decide +kernel) ⟨by decide, by decide⟩
  | k + 3, h1, _ => simp at h1
def kX0_save (N : Nat) : List (Nat × Nat × SP) := [(2, 0, vsp N 7 (sX7_put N)), (2, 0, vsp N 7 (sX7_putAll N)), (2, 0, vsp N 3 (sX3_save N)), (2, 0, vsp N 4 (sX4_save N))]
def sX0_save (N : Nat) : SP := RUN N pX0_save (kX0_save N) hd0 [] 2 none 0
theorem mX0_save {l : Launch} {N b : Nat} {D : va_G} {cA sa adV : Nat → Nat} (hl : l.stackTraces = false) : Cn l N b D cA sa adV yX0_save cX0_save 2 none 4 90 0 (sX0_save N) := by
  refine Cn_of (calls := kX0_save N) (by decide +kernel) oX0_save (hC_of (cidx := [(0, 120), (0, 126), (0, 129), (0, 133)]) (by decide +kernel) (fun p e s m args below meth c Q Y k kd x na mc tr h1 h2 => ?_)) (hT_no) (hL_of (by decide +kernel)) (fun _ _ => rfl) (fun _ _ _ _ h => h)
  match k, h1, h2 with
  | 0, h1, h2 => cases h1; cases h2; exact callV_of Y (mX7_put hl) wl_RX0_120 wn_X7_put ws_X7_put wi_RX7 wc_X7_put (T := TX7) (N1 := _) rfl (by decide +kernel) ⟨by decide, by decide⟩
  | 1, h1, h2 => cases h1; cases h2; exact callV_of Y (mX7_putAll hl) wl_RX0_126 wn_X7_putAll ws_X7_putAll wi_RX7 wc_X7_putAll (T := TX7) (N1 := _) rfl (by decide +kernel) ⟨by decide, by decide⟩
  | 2, h1, h2 => cases h1; cases h2; exact callV_of Y (mX3_save hl) wl_RX0_129 wn_X3_save ws_X3_save wi_RX3 wc_X3_save (T := TX3) (N1 := _) rfl (by decide +kernel) ⟨by decide, by decide⟩
  | 3, h1, h2 => cases h1; cases h2; exact callV_of Y (mX4_save hl) wl_RX0_133 wn_X4_save ws_X4_save wi_RX4 wc_X4_save (T := TX4) (N1 := _) rfl (by decide +kernel) ⟨by decide, by decide⟩
  | k + 4, h1, _ => simp at h1
def kX7_take (N : Nat) : List (Nat × Nat × SP) := []
def sX7_take (N : Nat) : SP := RUN N pX7_take (kX7_take N) hd0 [] 3 (some .long) 0
theorem mX7_take {l : Launch} {N b : Nat} {D : va_G} {cA sa adV : Nat → Nat} (hl : l.stackTraces = false) : Cn l N b D cA sa adV yX7_take cX7_take 3 (some .long) 0 0 0 (sX7_take N) := by
  refine Cn_of (calls := kX7_take N) (by decide +kernel) oX7_take (hC_of (cidx := []) (by decide +kernel) (fun p e s m args below meth c Q Y k kd x na mc tr h1 h2 => ?_)) (hT_no) (hL_of (by decide +kernel)) (fun _ _ => rfl) (fun _ _ _ _ h => h)
  match k, h1, h2 with
  | k, h1, _ => simp at h1
def kX7_takeInt (N : Nat) : List (Nat × Nat × SP) := [(1, 0, vsp N 7 (sX7_take N))]
def sX7_takeInt (N : Nat) : SP := RUN N pX7_takeInt (kX7_takeInt N) hd0 [] 1 (some .int) 0
theorem mX7_takeInt {l : Launch} {N b : Nat} {D : va_G} {cA sa adV : Nat → Nat} (hl : l.stackTraces = false) : Cn l N b D cA sa adV yX7_takeInt cX7_takeInt 1 (some .int) 1 22 0 (sX7_takeInt N) := by
  refine Cn_of (calls := kX7_takeInt N) (by decide +kernel) oX7_takeInt (hC_of (cidx := [(0, 23)]) (by decide +kernel) (fun p e s m args below meth c Q Y k kd x na mc tr h1 h2 => ?_)) (hT_no) (hL_of (by decide +kernel)) (fun _ _ => rfl) (fun _ _ _ _ h => h)
  match k, h1, h2 with
  | 0, h1, h2 => cases h1; cases h2; exact callV_of Y (mX7_take hl) wl_RX7_23 wn_X7_take ws_X7_take wi_RX7 wc_X7_take (T := TX7) (N1 := _) rfl (by decide +kernel) ⟨by decide, by decide⟩
  | k + 1, h1, _ => simp at h1
def kX7_takeCount (N : Nat) : List (Nat × Nat × SP) := [(1, 0, vsp N 7 (sX7_takeInt N)), (2, 0, spMaxI), (2, 0, spMinI)]
def sX7_takeCount (N : Nat) : SP := RUN N pX7_takeCount (kX7_takeCount N) hd0 [] 2 (some .int) 0
theorem mX7_takeCount {l : Launch} {N b : Nat} {D : va_G} {cA sa adV : Nat → Nat} (hl : l.stackTraces = false) : Cn l N b D cA sa adV yX7_takeCount cX7_takeCount 2 (some .int) 2 42 0 (sX7_takeCount N) := by
  refine Cn_of (calls := kX7_takeCount N) (by decide +kernel) oX7_takeCount (hC_of (cidx := [(0, 27), (1, 31), (1, 37)]) (by decide +kernel) (fun p e s m args below meth c Q Y k kd x na mc tr h1 h2 => ?_)) (hT_no) (hL_of (by decide +kernel)) (fun _ _ => rfl) (fun _ _ _ _ h => h)
  match k, h1, h2 with
  | 0, h1, h2 => cases h1; cases h2; exact callV_of Y (mX7_takeInt hl) wl_RX7_27 wn_X7_takeInt ws_X7_takeInt wi_RX7 wc_X7_takeInt (T := TX7) (N1 := _) rfl (by decide +kernel) ⟨by decide, by decide⟩
  | 1, h1, h2 => cases h1; cases h2; exact callMaxI_of Y (wG_at (w := .methodLink RX7 31 Lib.Math.max.name) 537 (by decide +kernel) rfl) ⟨by decide, by decide⟩
  | 2, h1, h2 => cases h1; cases h2; exact callMinI_of Y (wG_at (w := .methodLink RX7 37 Lib.Math.min.name) 540 (by decide +kernel) rfl) ⟨by decide, by decide⟩
  | k + 3, h1, _ => simp at h1
def kX7_takeAll (N : Nat) : List (Nat × Nat × SP) := [(1, 0, vsp N 7 (sX7_take N))]
def sX7_takeAll (N : Nat) : SP := RUN N pX7_takeAll (kX7_takeAll N) hd0 [] 3 none 0
theorem mX7_takeAll {l : Launch} {N b : Nat} {D : va_G} {cA sa adV : Nat → Nat} (hl : l.stackTraces = false) : Cn l N b D cA sa adV yX7_takeAll cX7_takeAll 3 none 1 22 0 (sX7_takeAll N) := by
  refine Cn_of (calls := kX7_takeAll N) (by decide +kernel) oX7_takeAll (hC_of (cidx := [(0, 23)]) (by decide +kernel) (fun p e s m args below meth c Q Y k kd x na mc tr h1 h2 => ?_)) (hT_no) (hL_of (by decide +kernel)) (fun _ _ => rfl) (fun _ _ _ _ h => h)
  match k, h1, h2 with
  | 0, h1, h2 => cases h1; cases h2; exact callV_of Y (mX7_take hl) wl_RX7_23 wn_X7_take ws_X7_take wi_RX7 wc_X7_take (T := TX7) (N1 := _) rfl (by decide +kernel) ⟨by decide, by decide⟩
  | k + 1, h1, _ => simp at h1
def kX3_load (N : Nat) : List (Nat × Nat × SP) := [(1, 0, vsp N 7 (sX7_takeInt N)), (2, 0, vsp N 7 (sX7_takeAll N))]
def sX3_load (N : Nat) : SP := RUN N pX3_load (kX3_load N) hd0 [] 2 none 0
theorem mX3_load {l : Launch} {N b : Nat} {D : va_G} {cA sa adV : Nat → Nat} (hl : l.stackTraces = false) : Cn l N b D cA sa adV yX3_load cX3_load 2 none 2 44 0 (sX3_load N) := by
  refine Cn_of (calls := kX3_load N) (by decide +kernel) oX3_load (hC_of (cidx := [(0, 39), (0, 43)]) (by decide +kernel) (fun p e s m args below meth c Q Y k kd x na mc tr h1 h2 => ?_)) (hT_no) (hL_of (by decide +kernel)) (fun _ _ => rfl) (fun _ _ _ _ h => h)
  match k, h1, h2 with
  | 0, h1, h2 => cases h1; cases h2; exact callV_of Y (mX7_takeInt hl) wl_RX3_39 wn_X7_takeInt ws_X7_takeInt wi_RX7 wc_X7_takeInt (T := TX7) (N1 := _) rfl (by decide +kernel) ⟨by decide, by decide⟩
  | 1, h1, h2 => cases h1; cases h2; exact callV_of Y (mX7_takeAll hl) wl_RX3_43 wn_X7_takeAll ws_X7_takeAll wi_RX7 wc_X7_takeAll (T := TX7) (N1 := _) rfl (by decide +kernel) ⟨by decide, by decide⟩
  | k + 2, h1, _ => simp at h1
def kX4_load (N : Nat) : List (Nat × Nat × SP) := [(2, 0, vsp N 3 (sX3_load N)), (2, 0, vsp N 7 (sX7_takeAll N)), (1, 0, vsp N 7 (sX7_takeInt N)), (1, 0, vsp N 7 (sX7_take N))]
def sX4_load (N : Nat) : SP := RUN N pX4_load (kX4_load N) hd0 [] 2 none 0
theorem mX4_load {l : Launch} {N b : Nat} {D : va_G} {cA sa adV : Nat → Nat} (hl : l.stackTraces = false) : Cn l N b D cA sa adV yX4_load cX4_load 2 none 3 65 0 (sX4_load N) := by
  refine Cn_of (calls := kX4_load N) (by decide +kernel) oX4_load (hC_of (cidx := [(0, 165), (0, 168), (0, 171), (0, 175)]) (by decide +kernel) (fun p e s m args below meth c Q Y k kd x na mc tr h1 h2 => ?_)) (hT_no) (hL_of (by decide +kernel)) (fun _ _ => rfl) (fun _ _ _ _ h => h)
  match k, h1, h2 with
  | 0, h1, h2 => cases h1; cases h2; exact callV_of Y (mX3_load hl) wl_RX4_165 wn_X3_load ws_X3_load wi_RX3 wc_X3_load (T := TX3) (N1 := _) rfl (by decide +kernel) ⟨by decide, by decide⟩
  | 1, h1, h2 => cases h1; cases h2; exact callV_of Y (mX7_takeAll hl) wl_RX4_168 wn_X7_takeAll ws_X7_takeAll wi_RX7 wc_X7_takeAll (T := TX7) (N1 := _) rfl (by decide +kernel) ⟨by decide, by decide⟩
  | 2, h1, h2 => cases h1; cases h2; exact callV_of Y (mX7_takeInt hl) wl_RX4_171 wn_X7_takeInt ws_X7_takeInt wi_RX7 wc_X7_takeInt (T := TX7) (N1 := _) rfl (by decide +kernel) ⟨by decide, by decide⟩
  | 3, h1, h2 => cases h1; cases h2; exact callV_of Y (mX7_take hl) wl_RX4_175 wn_X7_take ws_X7_take wi_RX7 wc_X7_take (T := TX7) (N1 := _) rfl (by decide +kernel) ⟨by decide, by decide⟩
  | k + 4, h1, _ => simp at h1
def kX0_load (N : Nat) : List (Nat × Nat × SP) := [(1, 0, vsp N 7 (sX7_takeInt N)), (2, 0, vsp N 7 (sX7_takeCount N)), (2, 0, vsp N 7 (sX7_takeAll N)), (2, 0, vsp N 3 (sX3_load N)), (2, 0, vsp N 4 (sX4_load N))]
def sX0_load (N : Nat) : SP := RUN N pX0_load (kX0_load N) hd0 [] 2 none 0
theorem mX0_load {l : Launch} {N b : Nat} {D : va_G} {cA sa adV : Nat → Nat} (hl : l.stackTraces = false) : Cn l N b D cA sa adV yX0_load cX0_load 2 none 4 86 0 (sX0_load N) := by
  refine Cn_of (calls := kX0_load N) (by decide +kernel) oX0_load (hC_of (cidx := [(0, 134), (0, 138), (0, 142), (0, 145), (0, 148)]) (by decide +kernel) (fun p e s m args below meth c Q Y k kd x na mc tr h1 h2 => ?_)) (hT_no) (hL_of (by decide +kernel)) (fun _ _ => rfl) (fun _ _ _ _ h => h)
  match k, h1, h2 with
  | 0, h1, h2 => cases h1; cases h2; exact callV_of Y (mX7_takeInt hl) wl_RX0_134 wn_X7_takeInt ws_X7_takeInt wi_RX7 wc_X7_takeInt (T := TX7) (N1 := _) rfl (by decide +kernel) ⟨by decide, by decide⟩
  | 1, h1, h2 => cases h1; cases h2; exact callV_of Y (mX7_takeCount hl) wl_RX0_138 wn_X7_takeCount ws_X7_takeCount wi_RX7 wc_X7_takeCount (T := TX7) (N1 := _) rfl (by decide +kernel) ⟨by decide, by decide⟩
  | 2, h1, h2 => cases h1; cases h2; exact callV_of Y (mX7_takeAll hl) wl_RX0_142 wn_X7_takeAll ws_X7_takeAll wi_RX7 wc_X7_takeAll (T := TX7) (N1 := _) rfl (by decide +kernel) ⟨by decide, by decide⟩
  | 3, h1, h2 => cases h1; cases h2; exact callV_of Y (mX3_load hl) wl_RX0_145 wn_X3_load ws_X3_load wi_RX3 wc_X3_load (T := TX3) (N1 := _) rfl (by decide +kernel) ⟨by decide, by decide⟩
  | 4, h1, h2 => cases h1; cases h2; exact callV_of Y (mX4_load hl) wl_RX0_148 wn_X4_load ws_X4_load wi_RX4 wc_X4_load (T := TX4) (N1 := _) rfl (by decide +kernel) ⟨by decide, by decide⟩
  | k + 5, h1, _ => simp at h1
def kX6_clear (N : Nat) : List (Nat × Nat × SP) := [(1, 0, nsp (sX9_clearAll N))]
def sX6_clear (N : Nat) : SP := RUN N pX6_clear (kX6_clear N) hd0 [] 1 none 0
theorem mX6_clear {l : Launch} {N b : Nat} {D : va_G} {cA sa adV : Nat → Nat} (hl : l.stackTraces = false) : Cn l N b D cA sa adV yX6_clear cX6_clear 1 none 1 21 0 (sX6_clear N) := by
  refine Cn_of (calls := kX6_clear N) (by decide +kernel) oX6_clear (hC_of (cidx := [(1, 44)]) (by decide +kernel) (fun p e s m args below meth c Q Y k kd x na mc tr h1 h2 => ?_)) (hT_no) (hL_of (by decide +kernel)) (fun _ _ => rfl) (fun _ _ _ _ h => h)
  match k, h1, h2 with
  | 0, h1, h2 => cases h1; cases h2; exact callSN_of Y (mX9_clearAll hl) wl_RX6_44 wt_X9_clearAll wi_RX9 wc_X9_clearAll (by decide +kernel) ⟨by decide, by decide⟩
  | k + 1, h1, _ => simp at h1
def kX1_clear (N : Nat) : List (Nat × Nat × SP) := [(1, 0, vsp N 0 (sX0_clear N)), (1, 0, vsp N 6 (sX6_clear N))]
def sX1_clear (N : Nat) : SP := RUN N pX1_clear (kX1_clear N) hd0 [] 5 none 0
theorem mX1_clear {l : Launch} {N b : Nat} {D : va_G} {cA sa adV : Nat → Nat} (hl : l.stackTraces = false) : Cn l N b D cA sa adV yX1_clear cX1_clear 5 none 4 81 0 (sX1_clear N) := by
  refine Cn_of (calls := kX1_clear N) (by decide +kernel) oX1_clear (hC_of (cidx := [(0, 25), (0, 28)]) (by decide +kernel) (fun p e s m args below meth c Q Y k kd x na mc tr h1 h2 => ?_)) (hT_no) (hL_of (by decide +kernel)) (fun _ _ => rfl) (fun _ _ _ _ h => h)
  match k, h1, h2 with
  | 0, h1, h2 => cases h1; cases h2; exact callV_of Y (mX0_clear hl) wl_RX1_25 wn_X0_clear ws_X0_clear wi_RX0 wc_X0_clear (T := TX0) (N1 := _) rfl (by decide +kernel) ⟨by decide, by decide⟩
  | 1, h1, h2 => cases h1; cases h2; exact callV_of Y (mX6_clear hl) wl_RX1_28 wn_X6_clear ws_X6_clear wi_RX6 wc_X6_clear (T := TX6) (N1 := _) rfl (by decide +kernel) ⟨by decide, by decide⟩
  | k + 2, h1, _ => simp at h1
def kX1_tellFirst (N : Nat) : List (Nat × Nat × SP) := [(1, 0, vsp N 1 (sX1_clear N))]
def sX1_tellFirst (N : Nat) : SP := RUN N pX1_tellFirst (kX1_tellFirst N) hd0 [] 1 none 0
theorem mX1_tellFirst {l : Launch} {N b : Nat} {D : va_G} {cA sa adV : Nat → Nat} (hl : l.stackTraces = false) : Cn l N b D cA sa adV yX1_tellFirst cX1_tellFirst 1 none 5 105 0 (sX1_tellFirst N) := by
  refine Cn_of (calls := kX1_tellFirst N) (by decide +kernel) oX1_tellFirst (hC_of (cidx := [(0, 58)]) (by decide +kernel) (fun p e s m args below meth c Q Y k kd x na mc tr h1 h2 => ?_)) (hT_no) (hL_of (by decide +kernel)) (fun _ _ => rfl) (fun _ _ _ _ h => h)
  match k, h1, h2 with
  | 0, h1, h2 => cases h1; cases h2; exact callV_of Y (mX1_clear hl) wl_RX1_58 wn_X1_clear ws_X1_clear wi_RX1 wc_X1_clear (T := TX1) (N1 := _) rfl (by decide +kernel) ⟨by decide, by decide⟩
  | k + 1, h1, _ => simp at h1
def kX1_lastDepartment (N : Nat) : List (Nat × Nat × SP) := [(2, 0, spMaxI)]
def sX1_lastDepartment (N : Nat) : SP := RUN N pX1_lastDepartment (kX1_lastDepartment N) hd0 [] 1 (some (.object "ProcessDesk$Department")) 0
theorem mX1_lastDepartment {l : Launch} {N b : Nat} {D : va_G} {cA sa adV : Nat → Nat} (hl : l.stackTraces = false) : Cn l N b D cA sa adV yX1_lastDepartment cX1_lastDepartment 1 (some (.object "ProcessDesk$Department")) 1 23 0 (sX1_lastDepartment N) := by
  refine Cn_of (calls := kX1_lastDepartment N) (by decide +kernel) oX1_lastDepartment (hC_of (cidx := [(1, 65)]) (by decide +kernel) (fun p e s m args below meth c Q Y k kd x na mc tr h1 h2 => ?_)) (hT_no) (hL_of (by decide +kernel)) (fun _ _ => rfl) (fun _ _ _ _ h => h)
  match k, h1, h2 with
  | 0, h1, h2 => cases h1; cases h2; exact callMaxI_of Y (wG_at (w := .methodLink RX1 65 Lib.Math.max.name) 1038 (by decide +kernel) rfl) ⟨by decide, by decide⟩
  | k + 1, h1, _ => simp at h1
def kX6_weigh (N : Nat) : List (Nat × Nat × SP) := [(2, 0, spMaxI)]
def sX6_weigh (N : Nat) : SP := RUN N pX6_weigh (kX6_weigh N) hd0 [] 1 none 0
theorem mX6_weigh {l : Launch} {N b : Nat} {D : va_G} {cA sa adV : Nat → Nat} (hl : l.stackTraces = false) : Cn l N b D cA sa adV yX6_weigh cX6_weigh 1 none 1 23 0 (sX6_weigh N) := by
  refine Cn_of (calls := kX6_weigh N) (by decide +kernel) oX6_weigh (hC_of (cidx := [(1, 48)]) (by decide +kernel) (fun p e s m args below meth c Q Y k kd x na mc tr h1 h2 => ?_)) (hT_no) (hL_of (by decide +kernel)) (fun _ _ => rfl) (fun _ _ _ _ h => h)
  match k, h1, h2 with
  | 0, h1, h2 => cases h1; cases h2; exact callMaxI_of Y (wG_at (w := .methodLink RX6 48 Lib.Math.max.name) 1012 (by decide +kernel) rfl) ⟨by decide, by decide⟩
  | k + 1, h1, _ => simp at h1
def kX1_partUnits (N : Nat) : List (Nat × Nat × SP) := [(1, 0, vsp N 6 (sX6_weigh N))]
def sX1_partUnits (N : Nat) : SP := RUN N pX1_partUnits (kX1_partUnits N) hd0 [] 4 none 0
theorem mX1_partUnits {l : Launch} {N b : Nat} {D : va_G} {cA sa adV : Nat → Nat} (hl : l.stackTraces = false) : Cn l N b D cA sa adV yX1_partUnits cX1_partUnits 4 none 2 43 0 (sX1_partUnits N) := by
  refine Cn_of (calls := kX1_partUnits N) (by decide +kernel) oX1_partUnits (hC_of (cidx := [(0, 108)]) (by decide +kernel) (fun p e s m args below meth c Q Y k kd x na mc tr h1 h2 => ?_)) (hT_no) (hL_of (by decide +kernel)) (fun _ _ => rfl) (fun _ _ _ _ h => h)
  match k, h1, h2 with
  | 0, h1, h2 => cases h1; cases h2; exact callV_of Y (mX6_weigh hl) wl_RX1_108 wn_X6_weigh ws_X6_weigh wi_RX6 wc_X6_weigh (T := TX6) (N1 := _) rfl (by decide +kernel) ⟨by decide, by decide⟩
  | k + 1, h1, _ => simp at h1
def kX6_isMain (N : Nat) : List (Nat × Nat × SP) := []
def sX6_isMain (N : Nat) : SP := RUN N pX6_isMain (kX6_isMain N) hd0 [] 1 (some .boolean) 0
theorem mX6_isMain {l : Launch} {N b : Nat} {D : va_G} {cA sa adV : Nat → Nat} (hl : l.stackTraces = false) : Cn l N b D cA sa adV yX6_isMain cX6_isMain 1 (some .boolean) 0 0 0 (sX6_isMain N) := by
  refine Cn_of (calls := kX6_isMain N) (by decide +kernel) oX6_isMain (hC_of (cidx := []) (by decide +kernel) (fun p e s m args below meth c Q Y k kd x na mc tr h1 h2 => ?_)) (hT_no) (hL_of (by decide +kernel)) (fun _ _ => rfl) (fun _ _ _ _ h => h)
  match k, h1, h2 with
  | k, h1, _ => simp at h1
def kX1_mainMeasure (N : Nat) : List (Nat × Nat × SP) := [(1, 0, vsp N 6 (sX6_isMain N))]
def sX1_mainMeasure (N : Nat) : SP := RUN N pX1_mainMeasure (kX1_mainMeasure N) hd0 [] 6 (some .long) 0
theorem mX1_mainMeasure {l : Launch} {N b : Nat} {D : va_G} {cA sa adV : Nat → Nat} (hl : l.stackTraces = false) : Cn l N b D cA sa adV yX1_mainMeasure cX1_mainMeasure 6 (some .long) 1 20 0 (sX1_mainMeasure N) := by
  refine Cn_of (calls := kX1_mainMeasure N) (by decide +kernel) oX1_mainMeasure (hC_of (cidx := [(0, 111)]) (by decide +kernel) (fun p e s m args below meth c Q Y k kd x na mc tr h1 h2 => ?_)) (hT_no) (hL_of (by decide +kernel)) (fun _ _ => rfl) (fun _ _ _ _ h => h)
  match k, h1, h2 with
  | 0, h1, h2 => cases h1; cases h2; exact callV_of Y (mX6_isMain hl) wl_RX1_111 wn_X6_isMain ws_X6_isMain wi_RX6 wc_X6_isMain (T := TX6) (N1 := _) rfl (by decide +kernel) ⟨by decide, by decide⟩
  | k + 1, h1, _ => simp at h1
def kX1_partAmongMain (N : Nat) : List (Nat × Nat × SP) := [(2, 0, vsp N 1 (sX1_mainMeasure N)), (1, 0, vsp N 6 (sX6_isMain N)), (3, 0, nsp (sX9_partOf N))]
def sX1_partAmongMain (N : Nat) : SP := RUN N pX1_partAmongMain (kX1_partAmongMain N) hd0 [] 11 none 0
theorem mX1_partAmongMain {l : Launch} {N b : Nat} {D : va_G} {cA sa adV : Nat → Nat} (hl : l.stackTraces = false) : Cn l N b D cA sa adV yX1_partAmongMain cX1_partAmongMain 11 none 2 45 0 (sX1_partAmongMain N) := by
  refine Cn_of (calls := kX1_partAmongMain N) (by decide +kernel) oX1_partAmongMain (hC_of (cidx := [(0, 127), (0, 111), (1, 131)]) (by decide +kernel) (fun p e s m args below meth c Q Y k kd x na mc tr h1 h2 => ?_)) (hT_no) (hL_of (by decide +kernel)) (fun _ _ => rfl) (fun _ _ _ _ h => h)
  match k, h1, h2 with
  | 0, h1, h2 => cases h1; cases h2; exact callV_of Y (mX1_mainMeasure hl) wl_RX1_127 wn_X1_mainMeasure ws_X1_mainMeasure wi_RX1 wc_X1_mainMeasure (T := TX1) (N1 := _) rfl (by decide +kernel) ⟨by decide, by decide⟩
  | 1, h1, h2 => cases h1; cases h2; exact callV_of Y (mX6_isMain hl) wl_RX1_111 wn_X6_isMain ws_X6_isMain wi_RX6 wc_X6_isMain (T := TX6) (N1 := _) rfl (by decide +kernel) ⟨by decide, by decide⟩
  | 2, h1, h2 => cases h1; cases h2; exact callSN_of Y (mX9_partOf hl) wl_RX1_131 wt_X9_partOf wi_RX9 wc_X9_partOf (by decide +kernel) ⟨by decide, by decide⟩
  | k + 3, h1, _ => simp at h1
def kX1_partCents (N : Nat) : List (Nat × Nat × SP) := [(1, 0, vsp N 6 (sX6_isMain N)), (2, 0, spMinL), (2, 0, vsp N 1 (sX1_partAmongMain N))]
def sX1_partCents (N : Nat) : SP := RUN N pX1_partCents (kX1_partCents N) hd0 [] 7 none 0
theorem mX1_partCents {l : Launch} {N b : Nat} {D : va_G} {cA sa adV : Nat → Nat} (hl : l.stackTraces = false) : Cn l N b D cA sa adV yX1_partCents cX1_partCents 7 none 3 75 0 (sX1_partCents N) := by
  refine Cn_of (calls := kX1_partCents N) (by decide +kernel) oX1_partCents (hC_of (cidx := [(0, 111), (1, 117), (0, 124)]) (by decide +kernel) (fun p e s m args below meth c Q Y k kd x na mc tr h1 h2 => ?_)) (hT_no) (hL_of (by decide +kernel)) (fun _ _ => rfl) (fun _ _ _ _ h => h)
  match k, h1, h2 with
  | 0, h1, h2 => cases h1; cases h2; exact callV_of Y (mX6_isMain hl) wl_RX1_111 wn_X6_isMain ws_X6_isMain wi_RX6 wc_X6_isMain (T := TX6) (N1 := _) rfl (by decide +kernel) ⟨by decide, by decide⟩
  | 1, h1, h2 => cases h1; cases h2; exact callMinL_of Y (wG_at (w := .methodLink RX1 117 Lib.MathLoose.min_long.x) 1018 (by decide +kernel) rfl) ⟨by decide, by decide⟩
  | 2, h1, h2 => cases h1; cases h2; exact callV_of Y (mX1_partAmongMain hl) wl_RX1_124 wn_X1_partAmongMain ws_X1_partAmongMain wi_RX1 wc_X1_partAmongMain (T := TX1) (N1 := _) rfl (by decide +kernel) ⟨by decide, by decide⟩
  | k + 3, h1, _ => simp at h1
def kX1_moveUnplaced (N : Nat) : List (Nat × Nat × SP) := [(1, 0, vsp N 1 (sX1_lastDepartment N))]
def sX1_moveUnplaced (N : Nat) : SP := RUN N pX1_moveUnplaced (kX1_moveUnplaced N) hd0 [] 6 none 0
theorem mX1_moveUnplaced {l : Launch} {N b : Nat} {D : va_G} {cA sa adV : Nat → Nat} (hl : l.stackTraces = false) : Cn l N b D cA sa adV yX1_moveUnplaced cX1_moveUnplaced 6 none 2 43 0 (sX1_moveUnplaced N) := by
  refine Cn_of (calls := kX1_moveUnplaced N) (by decide +kernel) oX1_moveUnplaced (hC_of (cidx := [(0, 135)]) (by decide +kernel) (fun p e s m args below meth c Q Y k kd x na mc tr h1 h2 => ?_)) (hT_no) (hL_of (by decide +kernel)) (fun _ _ => rfl) (fun _ _ _ _ h => h)
  match k, h1, h2 with
  | 0, h1, h2 => cases h1; cases h2; exact callV_of Y (mX1_lastDepartment hl) wl_RX1_135 wn_X1_lastDepartment ws_X1_lastDepartment wi_RX1 wc_X1_lastDepartment (T := TX1) (N1 := _) rfl (by decide +kernel) ⟨by decide, by decide⟩
  | k + 1, h1, _ => simp at h1
def kX6_putIn (N : Nat) : List (Nat × Nat × SP) := []
def sX6_putIn (N : Nat) : SP := RUN N pX6_putIn (kX6_putIn N) hd0 [] 2 (some .boolean) 0
theorem mX6_putIn {l : Launch} {N b : Nat} {D : va_G} {cA sa adV : Nat → Nat} (hl : l.stackTraces = false) : Cn l N b D cA sa adV yX6_putIn cX6_putIn 2 (some .boolean) 0 0 0 (sX6_putIn N) := by
  refine Cn_of (calls := kX6_putIn N) (by decide +kernel) oX6_putIn (hC_of (cidx := []) (by decide +kernel) (fun p e s m args below meth c Q Y k kd x na mc tr h1 h2 => ?_)) (hT_no) (hL_of (by decide +kernel)) (fun _ _ => rfl) (fun _ _ _ _ h => h)
  match k, h1, h2 with
  | k, h1, _ => simp at h1
def kX1_fillStore (N : Nat) : List (Nat × Nat × SP) := [(2, 0, vsp N 6 (sX6_putIn N))]
def sX1_fillStore (N : Nat) : SP := RUN N pX1_fillStore (kX1_fillStore N) hd0 [] 2 (some .boolean) 0
theorem mX1_fillStore {l : Launch} {N b : Nat} {D : va_G} {cA sa adV : Nat → Nat} (hl : l.stackTraces = false) : Cn l N b D cA sa adV yX1_fillStore cX1_fillStore 2 (some .boolean) 1 21 0 (sX1_fillStore N) := by
  refine Cn_of (calls := kX1_fillStore N) (by decide +kernel) oX1_fillStore (hC_of (cidx := [(0, 142)]) (by decide +kernel) (fun p e s m args below meth c Q Y k kd x na mc tr h1 h2 => ?_)) (hT_no) (hL_of (by decide +kernel)) (fun _ _ => rfl) (fun _ _ _ _ h => h)
  match k, h1, h2 with
  | 0, h1, h2 => cases h1; cases h2; exact callV_of Y (mX6_putIn hl) wl_RX1_142 wn_X6_putIn ws_X6_putIn wi_RX6 wc_X6_putIn (T := TX6) (N1 := _) rfl (by decide +kernel) ⟨by decide, by decide⟩
  | k + 1, h1, _ => simp at h1
def kX4_spent (N : Nat) : List (Nat × Nat × SP) := [(1, 0, nsp (sX9_sumOf N))]
def sX4_spent (N : Nat) : SP := RUN N pX4_spent (kX4_spent N) hd0 [] 1 (some .long) 0
theorem mX4_spent {l : Launch} {N b : Nat} {D : va_G} {cA sa adV : Nat → Nat} (hl : l.stackTraces = false) : Cn l N b D cA sa adV yX4_spent cX4_spent 1 (some .long) 1 27 0 (sX4_spent N) := by
  refine Cn_of (calls := kX4_spent N) (by decide +kernel) oX4_spent (hC_of (cidx := [(1, 87)]) (by decide +kernel) (fun p e s m args below meth c Q Y k kd x na mc tr h1 h2 => ?_)) (hT_no) (hL_of (by decide +kernel)) (fun _ _ => rfl) (fun _ _ _ _ h => h)
  match k, h1, h2 with
  | 0, h1, h2 => cases h1; cases h2; exact callSN_of Y (mX9_sumOf hl) wl_RX4_87 wt_X9_sumOf wi_RX9 wc_X9_sumOf (by decide +kernel) ⟨by decide, by decide⟩
  | k + 1, h1, _ => simp at h1
def kX1_addToAccounts (N : Nat) : List (Nat × Nat × SP) := [(1, 0, vsp N 4 (sX4_spent N)), (1, 0, vsp N 0 (sX0_scrapOfMonth N))]
def sX1_addToAccounts (N : Nat) : SP := RUN N pX1_addToAccounts (kX1_addToAccounts N) hd0 [] 3 none 0
theorem mX1_addToAccounts {l : Launch} {N b : Nat} {D : va_G} {cA sa adV : Nat → Nat} (hl : l.stackTraces = false) : Cn l N b D cA sa adV yX1_addToAccounts cX1_addToAccounts 3 none 2 47 0 (sX1_addToAccounts N) := by
  refine Cn_of (calls := kX1_addToAccounts N) (by decide +kernel) oX1_addToAccounts (hC_of (cidx := [(0, 146), (0, 150)]) (by decide +kernel) (fun p e s m args below meth c Q Y k kd x na mc tr h1 h2 => ?_)) (hT_no) (hL_of (by decide +kernel)) (fun _ _ => rfl) (fun _ _ _ _ h => h)
  match k, h1, h2 with
  | 0, h1, h2 => cases h1; cases h2; exact callV_of Y (mX4_spent hl) wl_RX1_146 wn_X4_spent ws_X4_spent wi_RX4 wc_X4_spent (T := TX4) (N1 := _) rfl (by decide +kernel) ⟨by decide, by decide⟩
  | 1, h1, h2 => cases h1; cases h2; exact callV_of Y (mX0_scrapOfMonth hl) wl_RX1_150 wn_X0_scrapOfMonth ws_X0_scrapOfMonth wi_RX0 wc_X0_scrapOfMonth (T := TX0) (N1 := _) rfl (by decide +kernel) ⟨by decide, by decide⟩
  | k + 2, h1, _ => simp at h1
def kX1_closeMonth (N : Nat) : List (Nat × Nat × SP) := [(3, 0, vsp N 0 (sX0_closeMonth N)), (2, 0, vsp N 1 (sX1_partUnits N)), (2, 0, vsp N 1 (sX1_partCents N)), (1, 0, vsp N 1 (sX1_moveUnplaced N)), (1, 0, vsp N 1 (sX1_fillStore N)), (1, 0, vsp N 1 (sX1_addToAccounts N))]
def sX1_closeMonth (N : Nat) : SP := RUN N pX1_closeMonth (kX1_closeMonth N) hd0 [] 6 (some .boolean) 0
theorem mX1_closeMonth {l : Launch} {N b : Nat} {D : va_G} {cA sa adV : Nat → Nat} (hl : l.stackTraces = false) : Cn l N b D cA sa adV yX1_closeMonth cX1_closeMonth 6 (some .boolean) 4 101 0 (sX1_closeMonth N) := by
  refine Cn_of (calls := kX1_closeMonth N) (by decide +kernel) oX1_closeMonth (hC_of (cidx := [(0, 71), (0, 87), (0, 91), (0, 95), (0, 98), (0, 102)]) (by decide +kernel) (fun p e s m args below meth c Q Y k kd x na mc tr h1 h2 => ?_)) (hT_no) (hL_of (by decide +kernel)) (fun _ _ => rfl) (fun _ _ _ _ h => h)
  match k, h1, h2 with
  | 0, h1, h2 => cases h1; cases h2; exact callV_of Y (mX0_closeMonth hl) wl_RX1_71 wn_X0_closeMonth ws_X0_closeMonth wi_RX0 wc_X0_closeMonth (T := TX0) (N1 := _) rfl (by decide +kernel) ⟨by decide, by decide⟩
  | 1, h1, h2 => cases h1; cases h2; exact callV_of Y (mX1_partUnits hl) wl_RX1_87 wn_X1_partUnits ws_X1_partUnits wi_RX1 wc_X1_partUnits (T := TX1) (N1 := _) rfl (by decide +kernel) ⟨by decide, by decide⟩
  | 2, h1, h2 => cases h1; cases h2; exact callV_of Y (mX1_partCents hl) wl_RX1_91 wn_X1_partCents ws_X1_partCents wi_RX1 wc_X1_partCents (T := TX1) (N1 := _) rfl (by decide +kernel) ⟨by decide, by decide⟩
  | 3, h1, h2 => cases h1; cases h2; exact callV_of Y (mX1_moveUnplaced hl) wl_RX1_95 wn_X1_moveUnplaced ws_X1_moveUnplaced wi_RX1 wc_X1_moveUnplaced (T := TX1) (N1 := _) rfl (by decide +kernel) ⟨by decide, by decide⟩
  | 4, h1, h2 => cases h1; cases h2; exact callV_of Y (mX1_fillStore hl) wl_RX1_98 wn_X1_fillStore ws_X1_fillStore wi_RX1 wc_X1_fillStore (T := TX1) (N1 := _) rfl (by decide +kernel) ⟨by decide, by decide⟩
  | 5, h1, h2 => cases h1; cases h2; exact callV_of Y (mX1_addToAccounts hl) wl_RX1_102 wn_X1_addToAccounts ws_X1_addToAccounts wi_RX1 wc_X1_addToAccounts (T := TX1) (N1 := _) rfl (by decide +kernel) ⟨by decide, by decide⟩
  | k + 6, h1, _ => simp at h1
def kX1_centsInWork (N : Nat) : List (Nat × Nat × SP) := [(1, 0, nsp (sX9_sumOf N))]
def sX1_centsInWork (N : Nat) : SP := RUN N pX1_centsInWork (kX1_centsInWork N) hd0 [] 4 (some .long) 0
theorem mX1_centsInWork {l : Launch} {N b : Nat} {D : va_G} {cA sa adV : Nat → Nat} (hl : l.stackTraces = false) : Cn l N b D cA sa adV yX1_centsInWork cX1_centsInWork 4 (some .long) 1 27 0 (sX1_centsInWork N) := by
  refine Cn_of (calls := kX1_centsInWork N) (by decide +kernel) oX1_centsInWork (hC_of (cidx := [(1, 163)]) (by decide +kernel) (fun p e s m args below meth c Q Y k kd x na mc tr h1 h2 => ?_)) (hT_no) (hL_of (by decide +kernel)) (fun _ _ => rfl) (fun _ _ _ _ h => h)
  match k, h1, h2 with
  | 0, h1, h2 => cases h1; cases h2; exact callSN_of Y (mX9_sumOf hl) wl_RX1_163 wt_X9_sumOf wi_RX9 wc_X9_sumOf (by decide +kernel) ⟨by decide, by decide⟩
  | k + 1, h1, _ => simp at h1
def kX6_centsInStore (N : Nat) : List (Nat × Nat × SP) := []
def sX6_centsInStore (N : Nat) : SP := RUN N pX6_centsInStore (kX6_centsInStore N) hd0 [] 4 (some .long) 0
theorem mX6_centsInStore {l : Launch} {N b : Nat} {D : va_G} {cA sa adV : Nat → Nat} (hl : l.stackTraces = false) : Cn l N b D cA sa adV yX6_centsInStore cX6_centsInStore 4 (some .long) 0 0 0 (sX6_centsInStore N) := by
  refine Cn_of (calls := kX6_centsInStore N) (by decide +kernel) oX6_centsInStore (hC_of (cidx := []) (by decide +kernel) (fun p e s m args below meth c Q Y k kd x na mc tr h1 h2 => ?_)) (hT_no) (hL_of (by decide +kernel)) (fun _ _ => rfl) (fun _ _ _ _ h => h)
  match k, h1, h2 with
  | k, h1, _ => simp at h1
def kX1_centsInStore (N : Nat) : List (Nat × Nat × SP) := [(1, 0, vsp N 6 (sX6_centsInStore N))]
def sX1_centsInStore (N : Nat) : SP := RUN N pX1_centsInStore (kX1_centsInStore N) hd0 [] 4 (some .long) 0
theorem mX1_centsInStore {l : Launch} {N b : Nat} {D : va_G} {cA sa adV : Nat → Nat} (hl : l.stackTraces = false) : Cn l N b D cA sa adV yX1_centsInStore cX1_centsInStore 4 (some .long) 1 23 0 (sX1_centsInStore N) := by
  refine Cn_of (calls := kX1_centsInStore N) (by decide +kernel) oX1_centsInStore (hC_of (cidx := [(0, 167)]) (by decide +kernel) (fun p e s m args below meth c Q Y k kd x na mc tr h1 h2 => ?_)) (hT_no) (hL_of (by decide +kernel)) (fun _ _ => rfl) (fun _ _ _ _ h => h)
  match k, h1, h2 with
  | 0, h1, h2 => cases h1; cases h2; exact callV_of Y (mX6_centsInStore hl) wl_RX1_167 wn_X6_centsInStore ws_X6_centsInStore wi_RX6 wc_X6_centsInStore (T := TX6) (N1 := _) rfl (by decide +kernel) ⟨by decide, by decide⟩
  | k + 1, h1, _ => simp at h1
def kX6_unitsInStore (N : Nat) : List (Nat × Nat × SP) := []
def sX6_unitsInStore (N : Nat) : SP := RUN N pX6_unitsInStore (kX6_unitsInStore N) hd0 [] 4 (some .long) 0
theorem mX6_unitsInStore {l : Launch} {N b : Nat} {D : va_G} {cA sa adV : Nat → Nat} (hl : l.stackTraces = false) : Cn l N b D cA sa adV yX6_unitsInStore cX6_unitsInStore 4 (some .long) 0 0 0 (sX6_unitsInStore N) := by
  refine Cn_of (calls := kX6_unitsInStore N) (by decide +kernel) oX6_unitsInStore (hC_of (cidx := []) (by decide +kernel) (fun p e s m args below meth c Q Y k kd x na mc tr h1 h2 => ?_)) (hT_no) (hL_of (by decide +kernel)) (fun _ _ => rfl) (fun _ _ _ _ h => h)
  match k, h1, h2 with
  | k, h1, _ => simp at h1
def kX1_printed (N : Nat) : List (Nat × Nat × SP) := [(1, 0, nsp (sX9_sumOf N)), (1, 0, vsp N 6 (sX6_unitsInStore N)), (1, 0, vsp N 6 (sX6_centsInStore N))]
def sX1_printed (N : Nat) : SP := RUN N pX1_printed (kX1_printed N) hd0 [] 5 (some .long) 0
theorem mX1_printed {l : Launch} {N b : Nat} {D : va_G} {cA sa adV : Nat → Nat} (hl : l.stackTraces = false) : Cn l N b D cA sa adV yX1_printed cX1_printed 5 (some .long) 1 27 0 (sX1_printed N) := by
  refine Cn_of (calls := kX1_printed N) (by decide +kernel) oX1_printed (hC_of (cidx := [(1, 163), (0, 173), (0, 167)]) (by decide +kernel) (fun p e s m args below meth c Q Y k kd x na mc tr h1 h2 => ?_)) (hT_no) (hL_of (by decide +kernel)) (fun _ _ => rfl) (fun _ _ _ _ h => h)
  match k, h1, h2 with
  | 0, h1, h2 => cases h1; cases h2; exact callSN_of Y (mX9_sumOf hl) wl_RX1_163 wt_X9_sumOf wi_RX9 wc_X9_sumOf (by decide +kernel) ⟨by decide, by decide⟩
  | 1, h1, h2 => cases h1; cases h2; exact callV_of Y (mX6_unitsInStore hl) wl_RX1_173 wn_X6_unitsInStore ws_X6_unitsInStore wi_RX6 wc_X6_unitsInStore (T := TX6) (N1 := _) rfl (by decide +kernel) ⟨by decide, by decide⟩
  | 2, h1, h2 => cases h1; cases h2; exact callV_of Y (mX6_centsInStore hl) wl_RX1_167 wn_X6_centsInStore ws_X6_centsInStore wi_RX6 wc_X6_centsInStore (T := TX6) (N1 := _) rfl (by decide +kernel) ⟨by decide, by decide⟩
  | k + 3, h1, _ => simp at h1
def kX6_save (N : Nat) : List (Nat × Nat × SP) := [(2, 0, vsp N 7 (sX7_put N))]
def sX6_save (N : Nat) : SP := RUN N pX6_save (kX6_save N) hd0 [] 3 none 0
theorem mX6_save {l : Launch} {N b : Nat} {D : va_G} {cA sa adV : Nat → Nat} (hl : l.stackTraces = false) : Cn l N b D cA sa adV yX6_save cX6_save 3 none 1 22 0 (sX6_save N) := by
  refine Cn_of (calls := kX6_save N) (by decide +kernel) oX6_save (hC_of (cidx := [(0, 62)]) (by decide +kernel) (fun p e s m args below meth c Q Y k kd x na mc tr h1 h2 => ?_)) (hT_no) (hL_of (by decide +kernel)) (fun _ _ => rfl) (fun _ _ _ _ h => h)
  match k, h1, h2 with
  | 0, h1, h2 => cases h1; cases h2; exact callV_of Y (mX7_put hl) wl_RX6_62 wn_X7_put ws_X7_put wi_RX7 wc_X7_put (T := TX7) (N1 := _) rfl (by decide +kernel) ⟨by decide, by decide⟩
  | k + 1, h1, _ => simp at h1
def kX1_save (N : Nat) : List (Nat × Nat × SP) := [(2, 0, vsp N 7 (sX7_put N)), (2, 0, vsp N 0 (sX0_save N)), (2, 0, vsp N 6 (sX6_save N))]
def sX1_save (N : Nat) : SP := RUN N pX1_save (kX1_save N) hd0 [] 3 none 0
theorem mX1_save {l : Launch} {N b : Nat} {D : va_G} {cA sa adV : Nat → Nat} (hl : l.stackTraces = false) : Cn l N b D cA sa adV yX1_save cX1_save 3 none 5 111 0 (sX1_save N) := by
  refine Cn_of (calls := kX1_save N) (by decide +kernel) oX1_save (hC_of (cidx := [(0, 176), (0, 181), (0, 185)]) (by decide +kernel) (fun p e s m args below meth c Q Y k kd x na mc tr h1 h2 => ?_)) (hT_no) (hL_of (by decide +kernel)) (fun _ _ => rfl) (fun _ _ _ _ h => h)
  match k, h1, h2 with
  | 0, h1, h2 => cases h1; cases h2; exact callV_of Y (mX7_put hl) wl_RX1_176 wn_X7_put ws_X7_put wi_RX7 wc_X7_put (T := TX7) (N1 := _) rfl (by decide +kernel) ⟨by decide, by decide⟩
  | 1, h1, h2 => cases h1; cases h2; exact callV_of Y (mX0_save hl) wl_RX1_181 wn_X0_save ws_X0_save wi_RX0 wc_X0_save (T := TX0) (N1 := _) rfl (by decide +kernel) ⟨by decide, by decide⟩
  | 2, h1, h2 => cases h1; cases h2; exact callV_of Y (mX6_save hl) wl_RX1_185 wn_X6_save ws_X6_save wi_RX6 wc_X6_save (T := TX6) (N1 := _) rfl (by decide +kernel) ⟨by decide, by decide⟩
  | k + 3, h1, _ => simp at h1
def kX6_load (N : Nat) : List (Nat × Nat × SP) := [(1, 0, vsp N 7 (sX7_takeInt N)), (1, 0, vsp N 7 (sX7_take N)), (2, 0, vsp N 7 (sX7_takeCount N))]
def sX6_load (N : Nat) : SP := RUN N pX6_load (kX6_load N) hd0 [] 3 none 0
theorem mX6_load {l : Launch} {N b : Nat} {D : va_G} {cA sa adV : Nat → Nat} (hl : l.stackTraces = false) : Cn l N b D cA sa adV yX6_load cX6_load 3 none 3 63 0 (sX6_load N) := by
  refine Cn_of (calls := kX6_load N) (by decide +kernel) oX6_load (hC_of (cidx := [(0, 68), (0, 72), (0, 76)]) (by decide +kernel) (fun p e s m args below meth c Q Y k kd x na mc tr h1 h2 => ?_)) (hT_no) (hL_of (by decide +kernel)) (fun _ _ => rfl) (fun _ _ _ _ h => h)
  match k, h1, h2 with
  | 0, h1, h2 => cases h1; cases h2; exact callV_of Y (mX7_takeInt hl) wl_RX6_68 wn_X7_takeInt ws_X7_takeInt wi_RX7 wc_X7_takeInt (T := TX7) (N1 := _) rfl (by decide +kernel) ⟨by decide, by decide⟩
  | 1, h1, h2 => cases h1; cases h2; exact callV_of Y (mX7_take hl) wl_RX6_72 wn_X7_take ws_X7_take wi_RX7 wc_X7_take (T := TX7) (N1 := _) rfl (by decide +kernel) ⟨by decide, by decide⟩
  | 2, h1, h2 => cases h1; cases h2; exact callV_of Y (mX7_takeCount hl) wl_RX6_76 wn_X7_takeCount ws_X7_takeCount wi_RX7 wc_X7_takeCount (T := TX7) (N1 := _) rfl (by decide +kernel) ⟨by decide, by decide⟩
  | k + 3, h1, _ => simp at h1
def kX1_load (N : Nat) : List (Nat × Nat × SP) := [(2, 0, vsp N 7 (sX7_takeCount N)), (1, 0, vsp N 7 (sX7_takeInt N)), (1, 0, vsp N 7 (sX7_take N)), (2, 0, vsp N 0 (sX0_load N)), (2, 0, vsp N 6 (sX6_load N))]
def sX1_load (N : Nat) : SP := RUN N pX1_load (kX1_load N) hd0 [] 3 none 0
theorem mX1_load {l : Launch} {N b : Nat} {D : va_G} {cA sa adV : Nat → Nat} (hl : l.stackTraces = false) : Cn l N b D cA sa adV yX1_load cX1_load 3 none 5 107 0 (sX1_load N) := by
  refine Cn_of (calls := kX1_load N) (by decide +kernel) oX1_load (hC_of (cidx := [(0, 186), (0, 190), (0, 194), (0, 197), (0, 200)]) (by decide +kernel) (fun p e s m args below meth c Q Y k kd x na mc tr h1 h2 => ?_)) (hT_no) (hL_of (by decide +kernel)) (fun _ _ => rfl) (fun _ _ _ _ h => h)
  match k, h1, h2 with
  | 0, h1, h2 => cases h1; cases h2; exact callV_of Y (mX7_takeCount hl) wl_RX1_186 wn_X7_takeCount ws_X7_takeCount wi_RX7 wc_X7_takeCount (T := TX7) (N1 := _) rfl (by decide +kernel) ⟨by decide, by decide⟩
  | 1, h1, h2 => cases h1; cases h2; exact callV_of Y (mX7_takeInt hl) wl_RX1_190 wn_X7_takeInt ws_X7_takeInt wi_RX7 wc_X7_takeInt (T := TX7) (N1 := _) rfl (by decide +kernel) ⟨by decide, by decide⟩
  | 2, h1, h2 => cases h1; cases h2; exact callV_of Y (mX7_take hl) wl_RX1_194 wn_X7_take ws_X7_take wi_RX7 wc_X7_take (T := TX7) (N1 := _) rfl (by decide +kernel) ⟨by decide, by decide⟩
  | 3, h1, h2 => cases h1; cases h2; exact callV_of Y (mX0_load hl) wl_RX1_197 wn_X0_load ws_X0_load wi_RX0 wc_X0_load (T := TX0) (N1 := _) rfl (by decide +kernel) ⟨by decide, by decide⟩
  | 4, h1, h2 => cases h1; cases h2; exact callV_of Y (mX6_load hl) wl_RX1_200 wn_X6_load ws_X6_load wi_RX6 wc_X6_load (T := TX6) (N1 := _) rfl (by decide +kernel) ⟨by decide, by decide⟩
  | k + 5, h1, _ => simp at h1
def kX7_rewind (N : Nat) : List (Nat × Nat × SP) := []
def sX7_rewind (N : Nat) : SP := RUN N pX7_rewind (kX7_rewind N) hd0 [] 1 none 0
theorem mX7_rewind {l : Launch} {N b : Nat} {D : va_G} {cA sa adV : Nat → Nat} (hl : l.stackTraces = false) : Cn l N b D cA sa adV yX7_rewind cX7_rewind 1 none 0 0 0 (sX7_rewind N) := by
  refine Cn_of (calls := kX7_rewind N) (by decide +kernel) oX7_rewind (hC_of (cidx := []) (by decide +kernel) (fun p e s m args below meth c Q Y k kd x na mc tr h1 h2 => ?_)) (hT_no) (hL_of (by decide +kernel)) (fun _ _ => rfl) (fun _ _ _ _ h => h)
  match k, h1, h2 with
  | k, h1, _ => simp at h1
def kX2_row (N : Nat) : List (Nat × Nat × SP) := [(1, 0, vsp N 7 (sX7_rewind N))]
def sX2_row (N : Nat) : SP := RUN N pX2_row (kX2_row N) hd0 [] 1 (some (.object "ProcessDesk$Row")) 0
theorem mX2_row {l : Launch} {N b : Nat} {D : va_G} {cA sa adV : Nat → Nat} (hl : l.stackTraces = false) : Cn l N b D cA sa adV yX2_row cX2_row 1 (some (.object "ProcessDesk$Row")) 1 20 0 (sX2_row N) := by
  refine Cn_of (calls := kX2_row N) (by decide +kernel) oX2_row (hC_of (cidx := [(0, 22)]) (by decide +kernel) (fun p e s m args below meth c Q Y k kd x na mc tr h1 h2 => ?_)) (hT_no) (hL_of (by decide +kernel)) (fun _ _ => rfl) (fun _ _ _ _ h => h)
  match k, h1, h2 with
  | 0, h1, h2 => cases h1; cases h2; exact callV_of Y (mX7_rewind hl) wl_RX2_22 wn_X7_rewind ws_X7_rewind wi_RX7 wc_X7_rewind (T := TX7) (N1 := _) rfl (by decide +kernel) ⟨by decide, by decide⟩
  | k + 1, h1, _ => simp at h1
def kX2_keep (N : Nat) : List (Nat × Nat × SP) := [(2, 0, spMinI)]
def sX2_keep (N : Nat) : SP := RUN N pX2_keep (kX2_keep N) hd0 [] 1 none 0
theorem mX2_keep {l : Launch} {N b : Nat} {D : va_G} {cA sa adV : Nat → Nat} (hl : l.stackTraces = false) : Cn l N b D cA sa adV yX2_keep cX2_keep 1 none 1 23 0 (sX2_keep N) := by
  refine Cn_of (calls := kX2_keep N) (by decide +kernel) oX2_keep (hC_of (cidx := [(1, 28)]) (by decide +kernel) (fun p e s m args below meth c Q Y k kd x na mc tr h1 h2 => ?_)) (hT_no) (hL_of (by decide +kernel)) (fun _ _ => rfl) (fun _ _ _ _ h => h)
  match k, h1, h2 with
  | 0, h1, h2 => cases h1; cases h2; exact callMinI_of Y (wG_at (w := .methodLink RX2 28 Lib.Math.min.name) 859 (by decide +kernel) rfl) ⟨by decide, by decide⟩
  | k + 1, h1, _ => simp at h1
def kX2_stepBack (N : Nat) : List (Nat × Nat × SP) := []
def sX2_stepBack (N : Nat) : SP := RUN N pX2_stepBack (kX2_stepBack N) hd0 [] 1 (some .boolean) 0
theorem mX2_stepBack {l : Launch} {N b : Nat} {D : va_G} {cA sa adV : Nat → Nat} (hl : l.stackTraces = false) : Cn l N b D cA sa adV yX2_stepBack cX2_stepBack 1 (some .boolean) 0 0 0 (sX2_stepBack N) := by
  refine Cn_of (calls := kX2_stepBack N) (by decide +kernel) oX2_stepBack (hC_of (cidx := []) (by decide +kernel) (fun p e s m args below meth c Q Y k kd x na mc tr h1 h2 => ?_)) (hT_no) (hL_of (by decide +kernel)) (fun _ _ => rfl) (fun _ _ _ _ h => h)
  match k, h1, h2 with
  | k, h1, _ => simp at h1
def kX4_copyGiven (N : Nat) : List (Nat × Nat × SP) := [(2, 0, vsp N 3 (sX3_copyFrom N)), (2, 0, nsp (sX9_copyAll N))]
def sX4_copyGiven (N : Nat) : SP := RUN N pX4_copyGiven (kX4_copyGiven N) hd0 [] 2 none 0
theorem mX4_copyGiven {l : Launch} {N b : Nat} {D : va_G} {cA sa adV : Nat → Nat} (hl : l.stackTraces = false) : Cn l N b D cA sa adV yX4_copyGiven cX4_copyGiven 2 none 2 43 0 (sX4_copyGiven N) := by
  refine Cn_of (calls := kX4_copyGiven N) (by decide +kernel) oX4_copyGiven (hC_of (cidx := [(0, 79), (1, 83)]) (by decide +kernel) (fun p e s m args below meth c Q Y k kd x na mc tr h1 h2 => ?_)) (hT_no) (hL_of (by decide +kernel)) (fun _ _ => rfl) (fun _ _ _ _ h => h)
  match k, h1, h2 with
  | 0, h1, h2 => cases h1; cases h2; exact callV_of Y (mX3_copyFrom hl) wl_RX4_79 wn_X3_copyFrom ws_X3_copyFrom wi_RX3 wc_X3_copyFrom (T := TX3) (N1 := _) rfl (by decide +kernel) ⟨by decide, by decide⟩
  | 1, h1, h2 => cases h1; cases h2; exact callSN_of Y (mX9_copyAll hl) wl_RX4_83 wt_X9_copyAll wi_RX9 wc_X9_copyAll (by decide +kernel) ⟨by decide, by decide⟩
  | k + 2, h1, _ => simp at h1
def kX5_takeFresh (N : Nat) : List (Nat × Nat × SP) := []
def sX5_takeFresh (N : Nat) : SP := RUN N pX5_takeFresh (kX5_takeFresh N) hd0 [] 4 (some .boolean) 0
theorem mX5_takeFresh {l : Launch} {N b : Nat} {D : va_G} {cA sa adV : Nat → Nat} (hl : l.stackTraces = false) : Cn l N b D cA sa adV yX5_takeFresh cX5_takeFresh 4 (some .boolean) 0 0 0 (sX5_takeFresh N) := by
  refine Cn_of (calls := kX5_takeFresh N) (by decide +kernel) oX5_takeFresh (hC_of (cidx := []) (by decide +kernel) (fun p e s m args below meth c Q Y k kd x na mc tr h1 h2 => ?_)) (hT_no) (hL_of (by decide +kernel)) (fun _ _ => rfl) (fun _ _ _ _ h => h)
  match k, h1, h2 with
  | k, h1, _ => simp at h1
