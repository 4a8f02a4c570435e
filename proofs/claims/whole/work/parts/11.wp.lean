abbrev SP : Type := List Value → Mem → (Option Value → Mem → Prop) → (String → Mem → Prop) → Prop
abbrev KT : Type := List PI → Nat → LL → List Value → Mem → Prop
def gl : LL → Nat → Option Value
  | [], _ => none
  | (j, v) :: r, i => bif Nat.beq j i then some v else gl r i
def wideV : Value → Bool
  | .long _ => true
  | .double _ => true
  | _ => false
def dl1 (i : Nat) : LL → LL
  | [] => []
  | (j, v) :: r => bif Nat.beq j i || (Nat.beq (j + 1) i && wideV v) then dl1 i r else (j, v) :: dl1 i r
def dl2 (i : Nat) : LL → LL
  | [] => []
  | (j, v) :: r => bif Nat.beq j i || (Nat.beq j (i + 1) || (Nat.beq (j + 1) i && wideV v)) then dl2 i r else (j, v) :: dl2 i r
def cvk (b : Nat) (sa : Nat → Nat) (k : Nat) : Nat := if k < 1000 then b + k else sa (k - 1000)
def cv (b : Nat) (sa : Nat → Nat) : Value → Value
  | .ref k => .ref (cvk b sa k)
  | v => v
def cvL (b : Nat) (sa : Nat → Nat) (L : LL) : LL := L.map (fun q => (q.1, cv b sa q.2))
def catV : Value → Nat
  | .long _ => 2
  | .double _ => 2
  | _ => 1
def sumC : List Value → Nat
  | [] => 0
  | v :: r => catV v + sumC r
/-- instructions of the stack alone -/
def po (i : Instr) (c : Int32) (d : Int64) (st : List Value) : Option (List Value) := match i with
  | .iconst _ => some (.int c :: st)
  | .bipush _ => some (.int c :: st)
  | .sipush _ => some (.int c :: st)
  | .lconst _ => some (.long d :: st)
  | .iadd => match st with | .int y :: .int x :: r => some (.int (x + y) :: r) | _ => none
  | .isub => match st with | .int y :: .int x :: r => some (.int (x - y) :: r) | _ => none
  | .imul => match st with | .int y :: .int x :: r => some (.int (x * y) :: r) | _ => none
  | .iand => match st with | .int y :: .int x :: r => some (.int (x &&& y) :: r) | _ => none
  | .ior => match st with | .int y :: .int x :: r => some (.int (x ||| y) :: r) | _ => none
  | .ishr => match st with | .int y :: .int x :: r => some (.int (x >>> (y &&& 31)) :: r) | _ => none
  | .ladd => match st with | .long y :: .long x :: r => some (.long (x + y) :: r) | _ => none
  | .lsub => match st with | .long y :: .long x :: r => some (.long (x - y) :: r) | _ => none
  | .lmul => match st with | .long y :: .long x :: r => some (.long (x * y) :: r) | _ => none
  | .lcmp => match st with | .long y :: .long x :: r => some (.int (lg_cmp x y) :: r) | _ => none
  | .i2l => match st with | .int x :: r => some (.long x.toInt64 :: r) | _ => none
  | .l2i => match st with | .long x :: r => some (.int x.toInt32 :: r) | _ => none
  | .i2b => match st with | .int x :: r => some (.int x.toInt8.toInt32 :: r) | _ => none
  | .pop => match st with | .int _ :: r => some r | .ref _ :: r => some r | _ => none
  | .dup => match st with | .int x :: r => some (.int x :: .int x :: r) | .ref x :: r => some (.ref x :: .ref x :: r) | _ => none
  | .dup2 => match st with | .int y :: .int x :: r => some (.int y :: .int x :: .int y :: .int x :: r) | .int y :: .ref x :: r => some (.int y :: .ref x :: .int y :: .ref x :: r) | .long x :: r => some (.long x :: .long x :: r) | _ => none
  | _ => none
/-- with a divisor that is looked at -/
def pq (i : Instr) (st : List Value) : Option (Prop × List Value) := match i with
  | .idiv => match st with | .int y :: .int x :: r => some (¬ y = 0, .int (x / y) :: r) | _ => none
  | .irem => match st with | .int y :: .int x :: r => some (¬ y = 0, .int (x - x / y * y) :: r) | _ => none
  | .ldiv => match st with | .long y :: .long x :: r => some (¬ y = 0, .long (x / y) :: r) | _ => none
  | _ => none
/-- loads -/
def pl (i : Instr) (L : LL) : Option Value := match i with
  | .iload n => match gl L n with | some (.int x) => some (.int x) | _ => none
  | .iload_n n => match gl L n.val with | some (.int x) => some (.int x) | _ => none
  | .lload n => match gl L n with | some (.long x) => some (.long x) | _ => none
  | .lload_n n => match gl L n.val with | some (.long x) => some (.long x) | _ => none
  | .aload n => match gl L n with | some (.ref x) => some (.ref x) | _ => none
  | .aload_n n => match gl L n.val with | some (.ref x) => some (.ref x) | _ => none
  | _ => none
/-- stores, and iinc -/
def ps (i : Instr) (nL : Nat) (c : Int32) (L : LL) (st : List Value) : Option (LL × List Value) := match i with
  | .istore n => match st with | .int x :: r => bif Nat.blt n nL then some ((n, .int x) :: dl1 n L, r) else none | _ => none
  | .istore_n n => match st with | .int x :: r => bif Nat.blt n.val nL then some ((n.val, .int x) :: dl1 n.val L, r) else none | _ => none
  | .lstore n => match st with | .long x :: r => bif Nat.blt (n + 1) nL then some ((n, .long x) :: dl2 n L, r) else none | _ => none
  | .lstore_n n => match st with | .long x :: r => bif Nat.blt (n.val + 1) nL then some ((n.val, .long x) :: dl2 n.val L, r) else none | _ => none
  | .astore n => match st with | .ref x :: r => bif Nat.blt n nL then some ((n, .ref x) :: dl1 n L, r) else none | _ => none
  | .astore_n n => match st with | .ref x :: r => bif Nat.blt n.val nL then some ((n.val, .ref x) :: dl1 n.val L, r) else none | _ => none
  | .iinc n _ => match gl L n with | some (.int x) => bif Nat.blt n nL then some ((n, .int (x + c)) :: dl1 n L, st) else none | _ => none
  | _ => none
/-- branches: the condition if it is taken, the one if it isn't, what is left -/
def pb (i : Instr) (st : List Value) : Option (Prop × Prop × List Value) := match i with
  | .ifCond .eq _ => match st with | .int x :: r => some (x = 0, ¬ x = 0, r) | _ => none
  | .ifCond .ne _ => match st with | .int x :: r => some (¬ x = 0, x = 0, r) | _ => none
  | .ifCond .lt _ => match st with | .int x :: r => some (x < 0, ¬ x < 0, r) | _ => none
  | .ifCond .ge _ => match st with | .int x :: r => some (0 ≤ x, ¬ 0 ≤ x, r) | _ => none
  | .ifCond .gt _ => match st with | .int x :: r => some (0 < x, ¬ 0 < x, r) | _ => none
  | .ifCond .le _ => match st with | .int x :: r => some (x ≤ 0, ¬ x ≤ 0, r) | _ => none
  | .if_icmp .eq _ => match st with | .int y :: .int x :: r => some (x = y, ¬ x = y, r) | _ => none
  | .if_icmp .ne _ => match st with | .int y :: .int x :: r => some (¬ x = y, x = y, r) | _ => none
  | .if_icmp .lt _ => match st with | .int y :: .int x :: r => some (x < y, ¬ x < y, r) | _ => none
  | .if_icmp .ge _ => match st with | .int y :: .int x :: r => some (y ≤ x, ¬ y ≤ x, r) | _ => none
  | .if_icmp .gt _ => match st with | .int y :: .int x :: r => some (y < x, ¬ y < x, r) | _ => none
  | .if_icmp .le _ => match st with | .int y :: .int x :: r => some (x ≤ y, ¬ x ≤ y, r) | _ => none
  | _ => none
/-- a switch over 0, 1 .. -/
def swT (K : Nat → Prop) (x : Int32) : Nat → List Nat → Prop
  | _, [] => True
  | n, t :: ts => (x = Int32.ofNat n → K t) ∧ swT K x (n + 1) ts
/-- a switch over pairs -/
def swL (K : Nat → Prop) (x : Int32) : List (Int32 × Nat) → Nat → Prop
  | [], d => K d
  | (c, t) :: ts, d => (x = c → K t) ∧ (¬ x = c → swL K x ts d)
def getF (ci j : Nat) (S : Mem) (k : Nat) (G : Value → Prop) : Prop := match (ftab ci)[j]? with
  | some 0 => G (.int (S.1 k j))
  | some 1 => G (.long (S.2 k j))
  | some 2 => G (.int (S.1 k j))
  | some (n + 3) => G (.ref (k + n))
  | none => False
abbrev ScT : Type := Option (Nat × (Nat → Int32))
def scI (sc : ScT) (x : Int32) (G : Int32 → Prop) : Prop := match sc with
  | some (n, f) => vp_in x n ∧ G (f x.toNatClampNeg)
  | none => False
def scL (sc : ScT) (G : Int32 → Prop) : Prop := match sc with
  | some (n, _) => G (Int32.ofNat n)
  | none => False
/-- all that isn't above; K: what is asked behind it -/
def stm (N : Nat) (sc : ScT) (i : Instr) (aux : List Nat) (J : Nat → LL → List Value → Mem → Prop) (rt : Option FieldType) (Qr : Option Value → Mem → Prop) (K : LL → List Value → Mem → Prop) (L : LL) (st : List Value) (S : Mem) : Prop := match i with
  | .goto _ => match aux with | [t] => J t L st S | _ => False
  | .tableswitch _ _ _ _ => match aux, st with | d :: ts, .int x :: r => ((x < 0 ∨ Int32.ofNat ts.length ≤ x) → J d L r S) ∧ swT (fun t => J t L r S) x 0 ts | _, _ => False
  | .lookupswitch _ _ => match aux, st with | [d, c1, t1, c2, t2], .int x :: r => swL (fun t => J t L r S) x [(Int32.ofNat c1, t1), (Int32.ofNat c2, t2)] d | _, _ => False
  | .getfield _ => match aux, st with | [ci, j, _], .ref k :: r => tyN N k = (0, ci, 0, 0) ∧ getF ci j S k (fun v => K L (v :: r) S) | _, _ => False
  | .putfield _ => match aux, st with
    | [ci, j, _], .int v :: .ref k :: r => tyN N k = (0, ci, 0, 0) ∧ (match (ftab ci)[j]? with | some 0 => K L r (u2 S.1 k j v, S.2) | some 2 => (v = 0 ∨ v = 1) ∧ K L r (u2 S.1 k j v, S.2) | _ => False)
    | [ci, j, _], .long v :: .ref k :: r => tyN N k = (0, ci, 0, 0) ∧ (match (ftab ci)[j]? with | some 1 => K L r (S.1, u2 S.2 k j v) | _ => False)
    | _, _ => False
  | .laload => match st with | .int x :: .ref k :: r => ∃ n, tyN N k = (1, n, 0, 0) ∧ vp_in x n ∧ K L (.long (S.2 k x.toNatClampNeg) :: r) S | _ => False
  | .iaload => match st with | .int x :: .ref k :: r => (∃ n, tyN N k = (2, n, 0, 0) ∧ vp_in x n ∧ K L (.int (S.1 k x.toNatClampNeg) :: r) S) ∨ (k = 2000 ∧ scI sc x (fun v => K L (.int v :: r) S)) | _ => False
  | .baload => match st with | .int x :: .ref k :: r => ∃ n, tyN N k = (3, n, 0, 0) ∧ vp_in x n ∧ K L (.int (S.1 k x.toNatClampNeg) :: r) S | _ => False
  | .lastore => match st with | .long v :: .int x :: .ref k :: r => ∃ n, tyN N k = (1, n, 0, 0) ∧ vp_in x n ∧ K L r (S.1, u2 S.2 k x.toNatClampNeg v) | _ => False
  | .iastore => match st with | .int v :: .int x :: .ref k :: r => ∃ n, tyN N k = (2, n, 0, 0) ∧ vp_in x n ∧ K L r (u2 S.1 k x.toNatClampNeg v, S.2) | _ => False
  | .bastore => match st with | .int v :: .int x :: .ref k :: r => ∃ n, tyN N k = (3, n, 0, 0) ∧ vp_in x n ∧ K L r (u2 S.1 k x.toNatClampNeg (vp_nar .byte v), S.2) | _ => False
  | .aaload => match st with | .int x :: .ref k :: r => ∃ t n o w, tyN N k = (t + 4, n, o, w) ∧ t < 4 ∧ vp_in x n ∧ K L (.ref (o + w * x.toNatClampNeg) :: r) S | _ => False
  | .arraylength => match st with | .ref k :: r => (∃ t n o w, tyN N k = (t + 1, n, o, w) ∧ 0 < n ∧ t < 6 ∧ K L (.int (Int32.ofNat n) :: r) S) ∨ (k = 2000 ∧ scL sc (fun v => K L (.int v :: r) S)) | _ => False
  | .ireturn => match st with | [.int v] => (match rt with | some .int => Qr (some (.int v)) S | some .boolean => (v = 0 ∨ v = 1) ∧ Qr (some (.int v)) S | _ => False) | _ => False
  | .lreturn => match st with | [.long v] => rt = some .long ∧ Qr (some (.long v)) S | _ => False
  | .areturn => match st with | [.ref k] => (match rt with | some (.object _) => Qr (some (.ref k)) S | _ => False) | _ => False
  | .return_ => match st with | [] => rt = none ∧ Qr none S | _ => False
  | _ => False
def stp (N : Nat) (prog : List PI) (calls : List (Nat × Nat × SP)) (hdl : Nat → String → Option Nat) (thr : List String) (sc : ScT) (nL : Nat) (rt : Option FieldType) (Qr : Option Value → Mem → Prop) (Qx : String → Mem → Prop) (K : KT) (q : PI) (r : List PI) (rc : Nat) (L : LL) (st : List Value) (S : Mem) : Prop :=
  match po q.2.2.2.2.2 q.2.2.2.1 q.2.2.2.2.1 st with
  | some st' => K r rc L st' S
  | none => match pl q.2.2.2.2.2 L with
    | some v => K r rc L (v :: st) S
    | none => match ps q.2.2.2.2.2 nL q.2.2.2.1 L st with
      | some (L', st') => K r rc L' st' S
      | none => match pb q.2.2.2.2.2 st with
        | some (c, d, st') => (match q.2.2.1 with | [t] => (c → K (jmp t prog) rc L st' S) ∧ (d → K r rc L st' S) | _ => False)
        | none => match pq q.2.2.2.2.2 st with
          | some (c, st') => c ∧ K r rc L st' S
          | none => match q.2.2.2.2.2, q.2.2.1 with
            | .ldc _, [0, _] => K r rc L (.int q.2.2.2.1 :: st) S
            | .ldc _, [1, n] => K r rc L (.ref (1000 + n) :: st) S
            | .ldc2_w _, [0, _] => K r rc L (.long q.2.2.2.2.1 :: st) S
            | .new _, [n] => (match thr[n]? with | some E => (match rc, st with | _ + 1, [] => Qx E S | _, _ => False) | none => False)
            | .invokevirtual _, [n] => (match calls[n]? with | some (na, mc, tr) => (mc ≤ rc ∧ na ≤ st.length ∧ sumC (st.drop na) ≤ 8) ∧ tr (st.take na).reverse S (fun v S' => K r (rc - mc) L (v.toList ++ st.drop na) S') (fun E S' => match hdl q.1 E with | none => Qx E S' | some h => K (jmp h prog) (rc - mc) [] [] S') | none => False)
            | .invokestatic _, [n] => (match calls[n]? with | some (na, mc, tr) => (mc ≤ rc ∧ na ≤ st.length ∧ sumC (st.drop na) ≤ 8) ∧ tr (st.take na).reverse S (fun v S' => K r (rc - mc) L (v.toList ++ st.drop na) S') (fun E S' => match hdl q.1 E with | none => Qx E S' | some h => K (jmp h prog) (rc - mc) [] [] S') | none => False)
            | i, aux => stm N sc i aux (fun t L st S => K (jmp t prog) rc L st S) rt Qr (fun L st S => K r rc L st S) L st S
abbrev CutT : Type := List (Nat × (Nat → LL → List Value → Mem → Prop))
def cutAt (pc : Nat) : CutT → Option (Nat → LL → List Value → Mem → Prop)
  | [] => none
  | q :: r => bif Nat.beq q.1 pc then some q.2 else cutAt pc r
/-- what the code from here on asks; it ends at the cuts -/
def wp (N : Nat) (prog : List PI) (calls : List (Nat × Nat × SP)) (hdl : Nat → String → Option Nat) (thr : List String) (sc : ScT) (nL : Nat) (rt : Option FieldType) (Qr : Option Value → Mem → Prop) (Qx : String → Mem → Prop) (cuts : CutT) : Nat → KT
  | 0, _, _, _, _, _ => False
  | _ + 1, [], _, _, _, _ => False
  | n + 1, q :: r, rc, L, st, S => match cutAt q.1 cuts with
    | some P => P rc L st S
    | none => stp N prog calls hdl thr sc nL rt Qr Qx (wp N prog calls hdl thr sc nL rt Qr Qx cuts n) q r rc L st S
/-- the same, but the first instruction is gone through also at a cut -/
def wpH (N : Nat) (prog : List PI) (calls : List (Nat × Nat × SP)) (hdl : Nat → String → Option Nat) (thr : List String) (sc : ScT) (nL : Nat) (rt : Option FieldType) (Qr : Option Value → Mem → Prop) (Qx : String → Mem → Prop) (cuts : CutT) (n : Nat) : KT
  | [], _, _, _, _ => False
  | q :: r, rc, L, st, S => stp N prog calls hdl thr sc nL rt Qr Qx (wp N prog calls hdl thr sc nL rt Qr Qx cuts n) q r rc L st S
