/-! ===== the pure side: loops, updates, numbers ===== -/
def sb : LL → LL → Prop
  | [], _ => True
  | (i, v) :: r, L => gl L i = some v ∧ sb r L
theorem sb_mem : ∀ {A L : LL}, sb A L → ∀ q ∈ A, q ∈ L
  | [], _, _, q, h => by cases h
  | (i, v) :: r, L, h, q, hq => by
    rcases List.mem_cons.mp hq with rfl | hq
    · exact gl_mem h.1
    · exact sb_mem h.2 q hq
abbrev GT : Type := Nat → Nat → LL → List Value → Mem → Prop
def WK (G : GT) : Prop := ∀ (pc rc : Nat) (L L' : LL) (st : List Value) (S : Mem), G pc rc L' st S → (∀ q ∈ L', q ∈ L) → G pc rc L st S
/-- a place where a loop's invariant holds -/
def LC {α : Type} (rc : Nat) (L0 : α → LL) (S0 : α → Mem) (I : α → Prop) : Nat → LL → List Value → Mem → Prop := fun rc' L st S => rc' = rc ∧ st = [] ∧ ∃ a, I a ∧ S = S0 a ∧ sb (L0 a) L
theorem LC.mk {α : Type} {rc : Nat} {L0 : α → LL} {S0 : α → Mem} {I : α → Prop} {L : LL} (a : α) (hI : I a) (hs : sb (L0 a) L) : LC rc L0 S0 I rc L [] (S0 a) := ⟨rfl, rfl, a, hI, rfl, hs⟩
theorem loopB {α : Type} {N : Nat} {prog : List PI} {calls : List (Nat × Nat × SP)} {hdl : Nat → String → Option Nat} {thr : List String} {sc : ScT} {nL : Nat} {rt : Option FieldType} {Qr : Option Value → Mem → Prop} {Qx : String → Mem → Prop} {G : GT} (hG : BODY N prog calls hdl thr sc nL rt Qr Qx G) (hw : WK G) (pc rc fuel : Nat) (L0 : α → LL) (S0 : α → Mem) (μ : α → Nat) (I : α → Prop) (cuts0 : CutT) (hc0 : ∀ q ∈ cuts0, ∀ (rc : Nat) (L : LL) (st : List Value) (S : Mem), q.2 rc L st S → G q.1 rc L st S)
    (step : ∀ a, I a → wpH N prog calls hdl thr sc nL rt Qr Qx ((pc, LC rc L0 S0 (fun a' => I a' ∧ μ a' < μ a)) :: cuts0) fuel (jmp pc prog) rc (L0 a) [] (S0 a)) : ∀ q ∈ [((pc, LC rc L0 S0 I) : Nat × (Nat → LL → List Value → Mem → Prop))], ∀ (rc : Nat) (L : LL) (st : List Value) (S : Mem), q.2 rc L st S → G q.1 rc L st S := by
  have key : ∀ n a, μ a < n → I a → G pc rc (L0 a) [] (S0 a) := by
    intro n
    induction n with
    | zero => intro a h; exact absurd h (Nat.not_lt_zero _)
    | succ n ih =>
      intro a hn hI
      refine hG _ fuel pc rc _ _ _ (fun q hq => ?_) (step a hI)
      rcases List.mem_cons.mp hq with rfl | hq
      · intro rc' L st S h
        obtain ⟨rfl, rfl, a', ⟨hI', hlt⟩, rfl, hs⟩ := h
        exact hw _ _ _ _ _ _ (ih a' (by omega) hI') (sb_mem hs)
      · exact hc0 q hq
  intro q hq rc' L st S h
  rw [List.mem_singleton] at hq
  subst hq
  obtain ⟨rfl, rfl, a, hI, rfl, hs⟩ := h
  exact hw _ _ _ _ _ _ (key _ a (Nat.lt_succ_self _) hI) (sb_mem hs)
theorem noCuts {G : GT} : ∀ q ∈ ([] : CutT), ∀ (rc : Nat) (L : LL) (st : List Value) (S : Mem), q.2 rc L st S → G q.1 rc L st S := fun _ h => by cases h
/-- a method without loops -/
theorem runG {N : Nat} {prog : List PI} {calls : List (Nat × Nat × SP)} {hdl : Nat → String → Option Nat} {thr : List String} {nL : Nat} {rt : Option FieldType} {n : Nat} {as : List Value} {S : Mem} {Qr : Option Value → Mem → Prop} {Qx : String → Mem → Prop} (hsz : Nat.ble (szV as) nL = true) (fuel : Nat) (h : wpH N prog calls hdl thr none nL rt Qr Qx [] fuel (jmp 0 prog) n (la 0 as) [] S) : RUN N prog calls hdl thr nL rt n as S Qr Qx :=
  ⟨Nat.le_of_ble_eq_true hsz, fun _ hG _ => hG [] fuel 0 n _ _ _ noCuts h⟩
/-- a method with one loop -/
theorem runL {α : Type} {N : Nat} {prog : List PI} {calls : List (Nat × Nat × SP)} {hdl : Nat → String → Option Nat} {thr : List String} {nL : Nat} {rt : Option FieldType} {n : Nat} {as : List Value} {S : Mem} {Qr : Option Value → Mem → Prop} {Qx : String → Mem → Prop} (hsz : Nat.ble (szV as) nL = true) (fuel pc rc : Nat) (L0 : α → LL) (S0 : α → Mem) (μ : α → Nat) (I : α → Prop)
    (step : ∀ a, I a → wpH N prog calls hdl thr none nL rt Qr Qx [(pc, LC rc L0 S0 (fun a' => I a' ∧ μ a' < μ a))] fuel (jmp pc prog) rc (L0 a) [] (S0 a))
    (h : wpH N prog calls hdl thr none nL rt Qr Qx [(pc, LC rc L0 S0 I)] fuel (jmp 0 prog) n (la 0 as) [] S) : RUN N prog calls hdl thr nL rt n as S Qr Qx :=
  ⟨Nat.le_of_ble_eq_true hsz, fun _ hG hw => hG _ fuel 0 n _ _ _ (loopB hG hw pc rc fuel L0 S0 μ I [] noCuts step) h⟩
theorem vp_nI {n N : Nat} (h : n < N) (hN : N < 2 ^ 31 := by decide) : vp_in (nI n) N := vp_in_nI h hN
