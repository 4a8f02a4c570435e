/-! ===== the six throws ===== -/
def chkN (pc ik : Nat) (q : PI) : Bool := match q.2.2.2.2.2 with
  | .new x => decide (q.1 = pc) && decide (x = ik)
  | _ => true
def thrN : List String := ["java/lang/RuntimeException", "java/lang/Exception"]
def thrL (ic : Nat) (E : String) : List Cond := vx_atS RX9 ic E thrN
theorem thr_of {l : Launch} {N b : Nat} {D : va_G} {cA sa adV : Nat → Nat} (hl : l.stackTraces = false) {cc : ByteArray} {maxL fr lo n : Nat} {prog : List PI} {E tx : String} {pc ik is ic sn : Nat} (hfit : Bundle.fit E = true) (hk : Cond.classLink RX9 ik E ∈ wG) (hini : Cond.initialized E ∈ wG)
    (h1 : ∀ w ∈ (thrL ic E).filter goodWord, w ∈ wG) (h2 : ∀ w ∈ (thrL ic E).filter (fun w => !goodWord w), w ∈ ngW) (hot : ∀ w ∈ Cond.classLink RX9 ik E :: Cond.initialized E :: thrL ic E, vx_ot w = true) (hstr : strT[sn]? = some (RX9, is, tx)) (hchk : prog.all (chkN pc ik) = true)
    (d0 : decode cc pc = .ok (.new ik, 3)) (d3 : decode cc (pc + 3) = .ok (.dup, 1)) (d4 : decode cc (pc + 4) = .ok (.ldc_w is, 3)) (d7 : decode cc (pc + 7) = .ok (.invokespecial ic, 3)) (d10 : decode cc (pc + 10) = .ok (.athrow, 1)) (hfr : 6 ≤ fr) (hlo : 90 ≤ lo) {y : MethodName} (hy : y.cls = RX9) :
    ∀ (p : Program) (e : Env) (s : State) (m : MethodId) (args : Array Value) (below : List Frame) (meth : Method) (c : Code) (Qr : Option Value → Mem → Prop) (Qx : String → Mem → Prop), CY p s m args c cc maxL y.cls N b D cA sa adV → meth.locks = false → (∀ x ∈ c.exceptionTable.toList, False) → ThrR p l e { frames := fr, cells := n, slots := 6 * n, locals := lo } s m args below meth c N b D cA sa maxL n Qr Qx prog [E] := by
  intro p e s m args below meth c Qr Qx Y hlocks hnx q hq x k E' hi ha hE S H locs cells slots ls hQ hM hS hls hc1 hc2
  have hE2 : E' = E := by
    match k, hE with
    | 0, hE => cases hE; rfl
    | k + 1, hE => simp at hE
  subst hE2
  have hc := List.all_eq_true.mp hchk q hq
  unfold chkN at hc
  rw [hi] at hc
  simp only [Bool.and_eq_true, decide_eq_true_eq] at hc
  obtain ⟨hpc, rfl⟩ := hc
  rw [hpc]
  obtain ⟨⟨hx, hb, hml, hown, hts, hK, hN⟩, hEV, hbs⟩ := Y
  rw [hy] at hown
  have hat : ∀ w ∈ thrL ic E', w.before args s = true := vx_hat (B := ngW) (fun w hw => hts w (h1 w hw)) h2 (fun w hw => va_Nw.use (by
    have hg := (List.mem_filter.mp hw).2
    cases w <;> first | rfl | (simp [isNG] at hg)) (hN w hw))
  exact vx_throwSW (names := thrN) (A := AB b) hx hb hl hown hfit (by decide +kernel) (hts _ hk) (hts _ hini) (hEV.1 sn _ hstr) hat hot hEV.2.2.2.2.1 hEV.2.2.2.2.2.1 hS (hls.trans hml.symm) d0 d3 d4 d7 d10 (fun z hz => absurd (hnx z hz) id) (by show 5 < fr; omega) (by show 0 + (13 * 3 + 43) ≤ lo; omega) (by show cells + 1 ≤ n; omega) (by show slots + 6 ≤ 6 * n; omega) hlocks
    (fun t hA hsz hk9 => ⟨⟨S, hQ, va_P.kept hM (fun k q hk => hk9 q.1 (hM k q hk).lt)⟩, Nat.le_trans hS.1 hsz, fun q h1 h2 => by rw [hk9 q (Nat.lt_of_lt_of_le h1 hS.1)]; exact hS.2.1 q h1 h2⟩) hS.2.2 hc1 hc2
