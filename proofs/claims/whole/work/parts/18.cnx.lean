def hd0 : Nat → String → Option Nat := fun _ _ => none
def chkK (cidx : List (Nat × Nat)) (q : PI) : Bool := match q.2.2.2.2.2, q.2.2.1 with
  | .invokevirtual x, [k] => decide (cidx[k]? = some (0, x))
  | .invokestatic x, [k] => decide (cidx[k]? = some (1, x))
  | _, _ => true
def insK (kd x : Nat) : Instr := match kd with
  | 0 => .invokevirtual x
  | _ => .invokestatic x
def chkS (own : String) (q : PI) : Bool := match q.2.2.2.2.2, q.2.2.1 with
  | .ldc x, [1, n] => (match strT[n]? with | some (o, i, _) => decide (o = own) && decide (i = x) | none => false)
  | _, _ => true
theorem hL_of {b : Nat} {sa adV : Nat → Nat} {own : String} {prog : List PI} (h : prog.all (chkS own) = true) : ∀ s : State, EV b sa adV s s.heap → LdcR s sa own prog := by
  intro s hE q hq x n hi ha
  have h0 := List.all_eq_true.mp h q hq
  have h1 : (match strT[n]? with | some (o, i, _) => decide (o = own) && decide (i = x) | none => false) = true := by
    unfold chkS at h0
    rw [hi, ha] at h0
    exact h0
  split at h1
  · rename_i o i tx hs
    simp only [Bool.and_eq_true, decide_eq_true_eq] at h1
    obtain ⟨rfl, rfl⟩ := h1
    exact ⟨tx, hE.1 n _ hs⟩
  · cases h1
theorem hC_of {l : Launch} {N b : Nat} {D : va_G} {cA sa adV : Nat → Nat} {y : MethodName} {cc : ByteArray} {maxL fr lo n : Nat} {prog : List PI} {calls : List (Nat × Nat × SP)} {cidx : List (Nat × Nat)} (hchk : prog.all (chkK cidx) = true)
    (h : ∀ (p : Program) (e : Env) (s : State) (m : MethodId) (args : Array Value) (below : List Frame) (meth : Method) (c : Code) (Q : State → Prop), CY p s m args c cc maxL y.cls N b D cA sa adV → ∀ (k kd x na mc : Nat) (tr : SP), cidx[k]? = some (kd, x) → calls[k]? = some (na, mc, tr) → CallR p l e { frames := fr, cells := n, slots := 6 * n, locals := lo } s m args below meth c N b D cA sa maxL cc Q (insK kd x) na mc tr) :
    ∀ (p : Program) (e : Env) (s : State) (m : MethodId) (args : Array Value) (below : List Frame) (meth : Method) (c : Code) (Q : State → Prop), CY p s m args c cc maxL y.cls N b D cA sa adV → ∀ q : PI, q ∈ prog → ∀ (k na mc : Nat) (tr : SP), q.2.2.1 = [k] → calls[k]? = some (na, mc, tr) → ((∃ x, q.2.2.2.2.2 = .invokevirtual x) ∨ ∃ x, q.2.2.2.2.2 = .invokestatic x) → CallR p l e { frames := fr, cells := n, slots := 6 * n, locals := lo } s m args below meth c N b D cA sa maxL cc Q q.2.2.2.2.2 na mc tr := by
  intro p e s m args below meth c Q Y q hq k na mc tr ha hc hi
  have h1 := List.all_eq_true.mp hchk q hq
  unfold chkK at h1
  rcases hi with ⟨x, hi⟩ | ⟨x, hi⟩
  · rw [hi, ha] at h1
    rw [hi]
    exact h p e s m args below meth c Q Y k 0 x na mc tr (of_decide_eq_true h1) hc
  · rw [hi, ha] at h1
    rw [hi]
    exact h p e s m args below meth c Q Y k 1 x na mc tr (of_decide_eq_true h1) hc
theorem hT_no {l : Launch} {N b : Nat} {D : va_G} {cA sa adV : Nat → Nat} {y : MethodName} {cc : ByteArray} {maxL fr lo n : Nat} {prog : List PI} : ∀ (p : Program) (e : Env) (s : State) (m : MethodId) (args : Array Value) (below : List Frame) (meth : Method) (c : Code) (Qr : Option Value → Mem → Prop) (Qx : String → Mem → Prop), CY p s m args c cc maxL y.cls N b D cA sa adV → meth.locks = false → (∀ x ∈ c.exceptionTable.toList, False) → ThrR p l e { frames := fr, cells := n, slots := 6 * n, locals := lo } s m args below meth c N b D cA sa maxL n Qr Qx prog [] := by
  intro p e s m args below meth c Qr Qx _ _ _ q _ x k E _ _ h
  simp at h
/-- String.length(), charAt(k) of a text that the program holds -/
def spLen : SP := fun as S Qr _ => match as with
  | [.ref k] => ∃ i, k = 1000 + i ∧ i < 16 ∧ Qr (some (.int (nI (strB i).length))) S
  | _ => False
def spChar : SP := fun as S Qr _ => match as with
  | [.ref k, .int x] => ∃ i, k = 1000 + i ∧ i < 16 ∧ vp_in x (strB i).length ∧ Qr (some (.int ((strB i).getD x.toNatClampNeg 0))) S
  | _ => False
