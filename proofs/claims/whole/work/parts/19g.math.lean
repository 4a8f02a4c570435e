/-! ===== Math.min, Math.max ===== -/
def spMaxI : SP := fun as S Qr _ => match as with
  | [.int x, .int y] => Qr (some (.int (if x < y then y else x))) S
  | _ => False
def spMinI : SP := fun as S Qr _ => match as with
  | [.int x, .int y] => Qr (some (.int (if y < x then y else x))) S
  | _ => False
def spMaxL : SP := fun as S Qr _ => match as with
  | [.long x, .long y] => Qr (some (.long (if y < x then x else y))) S
  | _ => False
def spMinL : SP := fun as S Qr _ => match as with
  | [.long x, .long y] => Qr (some (.long (if y < x then y else x))) S
  | _ => False
section MTH
variable {l : Launch} {N b : Nat} {D : va_G} {cA sa adV : Nat → Nat} {p : Program} {e : Env} {R : Room} {s : State} {m : MethodId} {args : Array Value} {below : List Frame} {meth : Method} {c : Code} {Q : State → Prop} {cc : ByteArray} {nL : Nat} {own : String}
theorem callMaxI_of (Y : CY p s m args c cc nL own N b D cA sa adV) {idx : Nat} (hlink : Cond.methodLink own idx Lib.Math.max.name ∈ wG) (hR : 1 ≤ R.frames ∧ 23 ≤ R.locals) : CallR p l e R s m args below meth c N b D cA sa nL cc Q (.invokestatic idx) 2 0 spMaxI := by
  intro H locs cells slots pc ls as rest S Qr Qx hlen h hM hS hls hsum hd0 hc1 hc2 kk kx
  obtain ⟨⟨hx, hb, hml, hown, hts, hK, hN⟩, hE, hbs⟩ := id Y
  unfold spMaxI at h
  split at h
  · rename_i x y
    exact va_mmax (rest := rest.map (cv b sa)) hx hb (hml.trans hls.symm) hown (hts _ hlink) (hts _ (wG_at 538 (by decide +kernel) rfl)) (hts _ (wG_at 16 (by decide +kernel) rfl)) (hts _ (wG_at 539 (by decide +kernel) rfl)) hR.1 (by rw [sumC_cv]; omega) (by omega) (by omega) hd0 (kk _ _ H locs h hM hS)
  · cases h
theorem callMinI_of (Y : CY p s m args c cc nL own N b D cA sa adV) {idx : Nat} (hlink : Cond.methodLink own idx Lib.Math.min.name ∈ wG) (hR : 1 ≤ R.frames ∧ 23 ≤ R.locals) : CallR p l e R s m args below meth c N b D cA sa nL cc Q (.invokestatic idx) 2 0 spMinI := by
  intro H locs cells slots pc ls as rest S Qr Qx hlen h hM hS hls hsum hd0 hc1 hc2 kk kx
  obtain ⟨⟨hx, hb, hml, hown, hts, hK, hN⟩, hE, hbs⟩ := id Y
  unfold spMinI at h
  split at h
  · rename_i x y
    exact va_mmin (rest := rest.map (cv b sa)) hx hb (hml.trans hls.symm) hown (hts _ hlink) (hts _ (wG_at 541 (by decide +kernel) rfl)) (hts _ (wG_at 16 (by decide +kernel) rfl)) (hts _ (wG_at 542 (by decide +kernel) rfl)) hR.1 (by rw [sumC_cv]; omega) (by omega) (by omega) hd0 (kk _ _ H locs h hM hS)
  · cases h
theorem callMaxL_of (Y : CY p s m args c cc nL own N b D cA sa adV) {idx : Nat} (hlink : Cond.methodLink own idx Lib.MathLoose.max_long.x ∈ wG) (hR : 1 ≤ R.frames ∧ 23 ≤ R.locals) : CallR p l e R s m args below meth c N b D cA sa nL cc Q (.invokestatic idx) 2 0 spMaxL := by
  intro H locs cells slots pc ls as rest S Qr Qx hlen h hM hS hls hsum hd0 hc1 hc2 kk kx
  obtain ⟨⟨hx, hb, hml, hown, hts, hK, hN⟩, hE, hbs⟩ := id Y
  unfold spMaxL at h
  split at h
  · rename_i x y
    exact va_mmax_long (rest := rest.map (cv b sa)) hx hb (hml.trans hls.symm) hown (hts _ hlink) (hts _ (wG_at 1002 (by decide +kernel) rfl)) (hts _ (wG_at 16 (by decide +kernel) rfl)) (hts _ (wG_at 1003 (by decide +kernel) rfl)) hR.1 (by rw [sumC_cv]; omega) (by omega) (by omega) hd0 (kk _ _ H locs h hM hS)
  · cases h
theorem callMinL_of (Y : CY p s m args c cc nL own N b D cA sa adV) {idx : Nat} (hlink : Cond.methodLink own idx Lib.MathLoose.min_long.x ∈ wG) (hR : 1 ≤ R.frames ∧ 23 ≤ R.locals) : CallR p l e R s m args below meth c N b D cA sa nL cc Q (.invokestatic idx) 2 0 spMinL := by
  intro H locs cells slots pc ls as rest S Qr Qx hlen h hM hS hls hsum hd0 hc1 hc2 kk kx
  obtain ⟨⟨hx, hb, hml, hown, hts, hK, hN⟩, hE, hbs⟩ := id Y
  unfold spMinL at h
  split at h
  · rename_i x y
    exact va_mmin_long (rest := rest.map (cv b sa)) hx hb (hml.trans hls.symm) hown (hts _ hlink) (hts _ (wG_at 1019 (by decide +kernel) rfl)) (hts _ (wG_at 16 (by decide +kernel) rfl)) (hts _ (wG_at 1020 (by decide +kernel) rfl)) hR.1 (by rw [sumC_cv]; omega) (by omega) (by omega) hd0 (kk _ _ H locs h hM hS)
  · cases h
end MTH
