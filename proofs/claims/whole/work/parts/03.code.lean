/-! ===== programs as rows; words ===== -/
/-- the fields of a class: 0 an int, 1 a long, 2 a boolean, n + 3 a reference to the key n further -/
def ftab (ci : Nat) : List Nat := match ci with
  | 0 => [0, 0, 0, 0, 0, 4, 0, 0, 0, 0, 0, 5, 6, 8]
  | 1 => [4, 5, 0, 0, 0, 0, 0, 1, 1, 1, 1]
  | 2 => [4, 0, 0]
  | 3 => [0, 0, 4]
  | 4 => [4, 6, 8, 0, 0, 0, 0, 0, 9, 10, 11, 12, 13, 14, 1, 1, 1, 1]
  | 5 => [4, 5, 0]
  | 6 => [0, 0, 0, 0, 0, 1, 1, 0, 4, 5]
  | 7 => [4, 0]
  | 8 => [4, 0, 0, 0, 0, 0, 2, 0, 0]
  | 9 => [0, 0, 0, 0, 4, 104, 124, 126, 129]
  | 10 => [0, 4, 0, 0, 0, 0, 0, 0, 5, 6, 7, 8, 9, 0, 2, 18, 19]
  | _ => []
/-! ===== what an instruction asks, over the memory: keys stand for references (1000 + i: the i-th text) ===== -/
/-- pc, length, resolved operands, an int constant, a long constant, the instruction -/
abbrev PI : Type := Nat × Nat × List Nat × Int32 × Int64 × Instr
def jmp (t : Nat) : List PI → List PI
  | [] => []
  | q :: r => bif Nat.beq q.1 t then q :: r else jmp t r
/-! ===== the machine does what is asked ===== -/
def lnI : Instr → Nat
  | .bipush _ => 2
  | .iload _ => 2
  | .lload _ => 2
  | .aload _ => 2
  | .istore _ => 2
  | .lstore _ => 2
  | .astore _ => 2
  | .ldc _ => 2
  | .sipush _ => 3
  | .iinc _ _ => 3
  | .ifCond _ _ => 3
  | .if_icmp _ _ => 3
  | .goto _ => 3
  | .getfield _ => 3
  | .putfield _ => 3
  | .invokevirtual _ => 3
  | .invokestatic _ => 3
  | .new _ => 3
  | .ldc2_w _ => 3
  | .ldc_w _ => 3
  | .invokespecial _ => 3
  | .anewarray _ => 3
  | .multianewarray _ _ => 4
  | .newarray _ => 2
  | _ => 1
def linkW (own : String) (idx ci j : Nat) (w : Cond) : Bool := match vwCl[ci]? with
  | some (C, T, N) => decide (j < N) && (decide ((T j).1 = C) && (decide (w = .fieldLink own idx C (T j).2.1 (T j).2.2.1) || decide (w = .fieldLinkNest own idx C (T j).2.1 (T j).2.2.1 "ProcessDesk")))
  | none => false
def typeW (ci j : Nat) : Bool := match vwCl[ci]? with
  | some (_, T, _) => decide ((T j).2.2.2 = false) && (match (ftab ci)[j]? with
    | some 0 => decide ((T j).2.2.1 = "I")
    | some 1 => decide ((T j).2.2.1 = "J")
    | some 2 => decide ((T j).2.2.1 = "Z")
    | _ => false)
  | none => false
/-- a row of a program is as the code and the tables have it -/
def chkI (own : String) (cc : ByteArray) (q : PI) : Bool :=
  decide (decode cc q.1 = .ok (q.2.2.2.2.2, q.2.1)) && (match q.2.2.2.2.2, q.2.2.1 with
  | .tableswitch d lo hi offs, t :: ts => decide (lo = 0 ∧ hi + 1 = (ts.length : Int) ∧ (q.1 : Int) + d = (t : Int) ∧ offs.toList.map (fun o => (q.1 : Int) + o) = ts.map (fun (n : Nat) => (n : Int)) ∧ ts.length < 1000)
  | .lookupswitch d ps, [t, c1, t1, c2, t2] => decide (ps.toList.map (fun o => (o.1, (q.1 : Int) + o.2)) = [((c1 : Int), (t1 : Int)), ((c2 : Int), (t2 : Int))] ∧ (q.1 : Int) + d = (t : Int) ∧ c1 < c2 ∧ c2 < 1000)
  | i, aux => decide (lnI i = q.2.1) && (match i, aux with
    | .iconst n, _ => decide (Int32.ofInt n = q.2.2.2.1)
    | .bipush n, _ => decide ((Int8.ofInt n).toInt32 = q.2.2.2.1)
    | .sipush n, _ => decide ((Int16.ofInt n).toInt32 = q.2.2.2.1)
    | .lconst n, _ => decide (Int64.ofNat (n : Nat) = q.2.2.2.2.1)
    | .iinc _ n, _ => decide (Int32.ofInt n = q.2.2.2.1)
    | .ifCond _ o, [t] => decide ((q.1 : Int) + o = (t : Int))
    | .if_icmp _ o, [t] => decide ((q.1 : Int) + o = (t : Int))
    | .goto o, [t] => decide ((q.1 : Int) + o = (t : Int))
    | .getfield x, [ci, j, pos] => (match tables_1[pos]? with | some w => linkW own x ci j w | none => false)
    | .putfield x, [ci, j, pos] => (match tables_1[pos]? with | some w => linkW own x ci j w && typeW ci j | none => false)
    | .ldc x, [0, pos] => decide (tables_1[pos]? = some (.constant own x q.2.2.2.1))
    | .ldc2_w x, [0, pos] => decide (tables_1[pos]? = some (.constantLong own x q.2.2.2.2.1))
    | _, _ => true))
def OKL (own : String) (cc : ByteArray) : List PI → Prop
  | [] => True
  | q :: r => chkI own cc q = true ∧ (∀ q', r.head? = some q' → q'.1 = q.1 + q.2.1) ∧ OKL own cc r
def chain : List PI → Bool
  | [] => true
  | [_] => true
  | q :: q' :: r => decide (q'.1 = q.1 + q.2.1) && chain (q' :: r)
theorem OKL_of {own : String} {cc : ByteArray} : ∀ {prog : List PI}, prog.all (chkI own cc) = true → chain prog = true → OKL own cc prog
  | [], _, _ => trivial
  | [q], h, _ => by
    simp only [List.all_cons, List.all_nil, Bool.and_true] at h
    exact ⟨h, fun _ h => by simp at h, trivial⟩
  | q :: q' :: r, h, hc => by
    rw [List.all_cons, Bool.and_eq_true] at h
    unfold chain at hc
    rw [Bool.and_eq_true] at hc
    refine ⟨h.1, fun x hx => ?_, OKL_of h.2 hc.2⟩
    rw [List.head?_cons] at hx
    cases hx
    exact of_decide_eq_true hc.1
theorem OKL_jmp {own : String} {cc : ByteArray} (t : Nat) : ∀ {prog : List PI}, OKL own cc prog → OKL own cc (jmp t prog)
  | [], _ => trivial
  | q :: r, h => by
    unfold jmp
    cases hq : Nat.beq q.1 t with
    | true => exact h
    | false => exact OKL_jmp t h.2.2
theorem jmp_head (t : Nat) : ∀ {prog : List PI} {q : PI}, (jmp t prog).head? = some q → q.1 = t
  | [], q, h => by simp [jmp] at h
  | a :: r, q, h => by
    unfold jmp at h
    cases hq : Nat.beq a.1 t with
    | true =>
      rw [hq] at h
      cases h
      exact Nat.eq_of_beq_eq_true hq
    | false =>
      rw [hq] at h
      exact jmp_head t h
theorem mem_jmp (t : Nat) : ∀ {prog : List PI} {q : PI}, q ∈ jmp t prog → q ∈ prog
  | [], q, h => by simp [jmp] at h
  | a :: r, q, h => by
    unfold jmp at h
    cases hq : Nat.beq a.1 t with
    | true => rw [hq] at h; exact h
    | false => rw [hq] at h; exact List.mem_cons_of_mem _ (mem_jmp t h)
/-! ===== what lies below b: texts, statics; what of the tables isn't kept by itself ===== -/
def isNG : Cond → Bool
  | .fieldLinkNest .. => true
  | .methodLinkNest .. => true
  | .declares _ => true
  | .castable _ _ => true
  | _ => false
def wG : List Cond := lw_tbl.filter goodWord
def ngW : List Cond := tables_1.filter isNG
theorem wG_of {w : Cond} (h : w ∈ tables_1) (hg : goodWord w = true) : w ∈ wG := List.mem_filter.mpr ⟨List.mem_append_right _ h, hg⟩
theorem wG_at (i : Nat) {w : Cond} (h : tables_1[i]? = some w) (hg : goodWord w = true) : w ∈ wG := wG_of (List.mem_of_getElem? h) hg
theorem wG_sel (i : Nat) {y : MethodName} {k : Nat} (h : lw_privs[i]? = some (y, k)) : Cond.selects y.cls y y ∈ wG := List.mem_filter.mpr ⟨List.mem_append_left _ (List.mem_map.mpr ⟨(y, k), List.mem_of_getElem? h, rfl⟩), rfl⟩
theorem ngW_at (i : Nat) {w : Cond} (h : tables_1[i]? = some w) (hg : isNG w = true) : w ∈ ngW := List.mem_filter.mpr ⟨List.mem_of_getElem? h, hg⟩
theorem all_app {a b : List PI} {f : PI → Bool} (h1 : a.all f = true) (h2 : b.all f = true) : (a ++ b).all f = true := by rw [List.all_append, h1, h2]; rfl
