/-! ===== the machine does what wp asks ===== -/
theorem swT_at {K : Nat → Prop} {x : Int32} : ∀ {ts : List Nat} {i n t : Nat}, swT K x i ts → ts[n]? = some t → x = Int32.ofNat (i + n) → K t
  | [], i, n, t, _, h, _ => by simp at h
  | a :: ts, i, 0, t, h, hn, hx => by
    rw [List.getElem?_cons_zero] at hn
    cases hn
    exact h.1 hx
  | a :: ts, i, n + 1, t, h, hn, hx => by
    rw [List.getElem?_cons_succ] at hn
    exact swT_at h.2 hn (by rw [hx]; congr 1; omega)
section WPS
variable {p : Program} {l : Launch} {e : Env} {R : Room} {s : State} {m : MethodId} {args : Array Value} {below : List Frame} {meth : Method} {c : Code}
variable {cc : ByteArray} {nL : Nat} {N b : Nat} {sa cA : Nat → Nat} {D : va_G} {own : String}
def QQ (below : List Frame) (args : Array Value) (s : State) (N b : Nat) (D : va_G) (cA sa : Nat → Nat) (tot : Nat) (Qr : Option Value → Mem → Prop) (Qx : String → Mem → Prop) : State → Prop := vx_MQ below (QcP N b D cA sa Qr) (XcP N b D cA Qx) args s tot (6 * tot) (AB b)
/-- a place in the machine, with a memory, locals and a stack that stand for it -/
def WW (p : Program) (l : Launch) (e : Env) (R : Room) (s : State) (m : MethodId) (args : Array Value) (below : List Frame) (meth : Method) (c : Code) (N b : Nat) (D : va_G) (cA sa : Nat → Nat) (nL tot : Nat) (Qr : Option Value → Mem → Prop) (Qx : String → Mem → Prop) (pc rc : Nat) (L : LL) (st : List Value) (S : Mem) : Prop :=
  ∀ (H : Heap) (locs : List Loc) (cells slots : Nat) (ls : Array Slot), MM N b D cA S H → va_S (AB b) s.heap H locs → lv_has ls nL (cvL b sa L) → cells + rc = tot → slots + 6 * rc = 6 * tot → W p l e R s m args below meth c H locs cells slots (QQ below args s N b D cA sa tot Qr Qx) (F0 m pc ls (st.map (cv b sa)))
def SND (p : Program) (l : Launch) (e : Env) (R : Room) (s : State) (m : MethodId) (args : Array Value) (below : List Frame) (meth : Method) (c : Code) (N b : Nat) (D : va_G) (cA sa : Nat → Nat) (nL tot : Nat) (Qr : Option Value → Mem → Prop) (Qx : String → Mem → Prop) (own : String) (cc : ByteArray) (prog : List PI) (K : KT) : Prop :=
  (∀ rc L st S, ¬ K [] rc L st S) ∧ ∀ (q : PI) (r : List PI) (rc : Nat) (L : LL) (st : List Value) (S : Mem), OKL own cc (q :: r) → (∀ x ∈ q :: r, x ∈ prog) → K (q :: r) rc L st S → WW p l e R s m args below meth c N b D cA sa nL tot Qr Qx q.1 rc L st S
/-- a call -/
def CallR (p : Program) (l : Launch) (e : Env) (R : Room) (s : State) (m : MethodId) (args : Array Value) (below : List Frame) (meth : Method) (c : Code) (N b : Nat) (D : va_G) (cA sa : Nat → Nat) (nL : Nat) (cc : ByteArray) (Q : State → Prop) (i : Instr) (na mc : Nat) (tr : SP) : Prop :=
  ∀ (H : Heap) (locs : List Loc) (cells slots pc : Nat) (ls : Array Slot) (as rest : List Value) (S : Mem) (Qr : Option Value → Mem → Prop) (Qx : String → Mem → Prop), as.length = na → tr as S Qr Qx → MM N b D cA S H → va_S (AB b) s.heap H locs → ls.size = nL → sumC rest ≤ 8 → decode cc pc = .ok (i, 3) → cells + mc ≤ R.cells → slots + 6 * mc ≤ R.slots →
    (∀ (v : Option Value) (S' : Mem) (H' : Heap) (locs' : List Loc), Qr v S' → MM N b D cA S' H' → va_S (AB b) s.heap H' locs' → W p l e R s m args below meth c H' locs' (cells + mc) (slots + 6 * mc) Q (F0 m (pc + 3) ls ((v.toList ++ rest).map (cv b sa)))) →
    (∀ (E : String) (ce : Cell) (q : Addr) (S' : Mem) (H' : Heap) (locs' : List Loc), Qx E S' → MM N b D cA S' H' → va_S (AB b) s.heap H' locs' → H'[q]? = some ce → ce.vm = .none → s.vm.findClass E = some ce.cls → vx_W p l e R s m args below meth c H' locs' (cells + mc) (slots + 6 * mc) Q (F0 m pc ls (rest.map (cv b sa))) q) →
    W p l e R s m args below meth c H locs cells slots Q (F0 m pc ls ((as.reverse ++ rest).map (cv b sa)))
/-- a throw of a callee, caught or not -/
def HdlR (p : Program) (l : Launch) (e : Env) (R : Room) (s : State) (m : MethodId) (args : Array Value) (below : List Frame) (meth : Method) (c : Code) (N b : Nat) (D : va_G) (cA sa : Nat → Nat) (nL tot : Nat) (Qr : Option Value → Mem → Prop) (Qx : String → Mem → Prop) (prog : List PI) (hdl : Nat → String → Option Nat) (K : KT) : Prop :=
  ∀ (q : PI), q ∈ prog → ∀ (E : String) (ce : Cell) (x : Addr) (rc : Nat) (S : Mem) (H : Heap) (locs : List Loc) (cells slots : Nat) (ls : Array Slot) (rest : List Value), (match hdl q.1 E with | none => Qx E S | some h => K (jmp h prog) rc [] [] S) → MM N b D cA S H → va_S (AB b) s.heap H locs → ls.size = nL → lv_wf ls → H[x]? = some ce → ce.vm = .none → s.vm.findClass E = some ce.cls → cells + rc = tot → slots + 6 * rc = 6 * tot → vx_W p l e R s m args below meth c H locs cells slots (QQ below args s N b D cA sa tot Qr Qx) (F0 m q.1 ls rest) x
def ThrR (p : Program) (l : Launch) (e : Env) (R : Room) (s : State) (m : MethodId) (args : Array Value) (below : List Frame) (meth : Method) (c : Code) (N b : Nat) (D : va_G) (cA sa : Nat → Nat) (nL tot : Nat) (Qr : Option Value → Mem → Prop) (Qx : String → Mem → Prop) (prog : List PI) (thr : List String) : Prop :=
  ∀ (q : PI), q ∈ prog → ∀ (x n : Nat) (E : String), q.2.2.2.2.2 = .new x → q.2.2.1 = [n] → thr[n]? = some E → ∀ (S : Mem) (H : Heap) (locs : List Loc) (cells slots : Nat) (ls : Array Slot), Qx E S → MM N b D cA S H → va_S (AB b) s.heap H locs → ls.size = nL → cells + 1 ≤ tot → slots + 6 ≤ 6 * tot → W p l e R s m args below meth c H locs cells slots (QQ below args s N b D cA sa tot Qr Qx) (F0 m q.1 ls [])
/-- what a text's ldc gives -/
def LdcR (s : State) (sa : Nat → Nat) (own : String) (prog : List PI) : Prop := ∀ (q : PI), q ∈ prog → ∀ (x n : Nat), q.2.2.2.2.2 = .ldc x → q.2.2.1 = [1, n] → ∃ tx : String, vk_R own x tx (sa n) s
variable {tot : Nat} {Qr : Option Value → Mem → Prop} {Qx : String → Mem → Prop}
theorem ret_mono {H : Heap} {locs : List Loc} {cells slots rc : Nat} {g : JFrame} (h1 : cells + rc = tot) (h2 : slots + 6 * rc = 6 * tot) (k : W p l e R s m args below meth c H locs tot (6 * tot) (MQ below (QcP N b D cA sa Qr) args s tot (6 * tot) (AB b)) g) : W p l e R s m args below meth c H locs cells slots (QQ below args s N b D cA sa tot Qr Qx) g :=
  vx_ret (W.widen (k := tot) (n := 6 * tot) (by omega) (by omega) k)
def SCR (sc : ScT) (sa : Nat → Nat) (b : Nat) (s : State) : Prop := ∀ (n : Nat) (f : Nat → Int32), sc = some (n, f) → va_X (sa 1000) n f s s.heap ∧ sa 1000 < b ∧ sa 1000 < s.heap.size
set_option maxHeartbeats 4000000 in
theorem stm_snd {sc : ScT} (hsc : SCR sc sa b s) (X : CX p s m args c cc nL own D cA) (hlocks : meth.locks = false) {rt : Option FieldType} (hr : meth.sig.returnType = rt) {q : PI} (hc : chkI own cc q = true) {J : Nat → LL → List Value → Mem → Prop} {K : LL → List Value → Mem → Prop} {rc : Nat}
    (hJ : ∀ t L st S, J t L st S → WW p l e R s m args below meth c N b D cA sa nL tot Qr Qx t rc L st S) (hK : ∀ L st S, K L st S → WW p l e R s m args below meth c N b D cA sa nL tot Qr Qx (q.1 + q.2.1) rc L st S) {L : LL} {st : List Value} {S : Mem}
    (h : stm N sc q.2.2.2.2.2 q.2.2.1 J rt Qr K L st S) : WW p l e R s m args below meth c N b D cA sa nL tot Qr Qx q.1 rc L st S := by
  intro H locs cells slots ls hM hS hl hcl hsl
  obtain ⟨pc, len, aux, c32, c64, i⟩ := q
  unfold chkI at hc
  rw [Bool.and_eq_true, decide_eq_true_eq] at hc
  obtain ⟨hd, hc⟩ := hc
  dsimp only at h hd hc hK ⊢
  have hx := X.1
  have hb := X.2.1
  have cvr : ∀ k : Nat, k < 1000 → cv b sa (.ref k) = .ref (b + k) := fun k hk => by simp [cv, cvk, hk]
  have small : ∀ {k t n o w : Nat}, tyN N k = (t, n, o, w) → (t ≠ 99 ∨ 0 < n) → k < 1000 := fun h1 h2 => Nat.lt_trans (tyN_k h1 h2) (by decide)
  cases i with
  | goto o =>
    simp only [stm] at h
    split at h
    · simp only [Bool.and_eq_true] at hc
      have h1 := of_decide_eq_true hc.2
      exact lv_goto hx hb (by have := of_decide_eq_true hc.1; simp only [lnI] at this; subst this; exact hd) h1 (hJ _ _ _ _ h H locs cells slots ls hM hS hl hcl hsl)
    · cases h
  | tableswitch d lo hi offs =>
    simp only [stm] at h
    split at h
    · rename_i d0 ts x r
      have hc := of_decide_eq_true hc
      obtain ⟨rfl, h2, h3, h4, h5⟩ := hc
      rw [List.map_cons]
      have e5 : (Int32.ofNat ts.length).toInt = (ts.length : Int) := nI_toInt (by omega)
      by_cases ho : x.toInt < 0 ∨ hi < x.toInt
      · refine lv_tableOut hx hb hd ho h3 (hJ _ _ _ _ (h.1 ?_) H locs cells slots ls hM hS hl hcl hsl)
        rcases ho with ho | ho
        · exact Or.inl (Int32.lt_iff_toInt_lt.mpr ho)
        · exact Or.inr (Int32.le_iff_toInt_le.mpr (by rw [e5]; omega))
      · have hlt : x.toInt.toNat < ts.length := by omega
        have ht : ts[x.toInt.toNat]? = some ts[x.toInt.toNat] := List.getElem?_eq_getElem hlt
        have hoL : (offs.toList.map (fun o => (pc : Int) + o))[x.toInt.toNat]? = some ((ts[x.toInt.toNat] : Nat) : Int) := by rw [h4, List.getElem?_map, ht]; rfl
        rw [List.getElem?_map] at hoL
        cases hoo : offs.toList[x.toInt.toNat]? with
        | none => rw [hoo] at hoL; cases hoL
        | some off =>
          rw [hoo] at hoL
          have hoff : (pc : Int) + off = ((ts[x.toInt.toNat] : Nat) : Int) := Option.some.inj hoL
          refine lv_tableIn hx hb hd (by omega) (by omega) (off := off) ?_ hoff (hJ _ _ _ _ (swT_at h.2 ht ?_) H locs cells slots ls hM hS hl hcl hsl)
          · rw [Int.sub_zero, ← Array.getElem?_toList]; exact hoo
          · rw [Nat.zero_add]
            apply Int32.toInt_inj.mp
            rw [show (Int32.ofNat x.toInt.toNat).toInt = (x.toInt.toNat : Int) from nI_toInt (by omega)]
            omega
    · cases h
  | lookupswitch d ps =>
    simp only [stm] at h
    split at h
    · rename_i d0 c1 t1 c2 t2 x r
      have hc := of_decide_eq_true hc
      obtain ⟨h2, h3, h4, h5⟩ := hc
      rw [List.map_cons]
      obtain ⟨o1, o2, hps, ho1, ho2⟩ : ∃ o1 o2 : Int, ps.toList = [((c1 : Int), o1), ((c2 : Int), o2)] ∧ (pc : Int) + o1 = (t1 : Int) ∧ (pc : Int) + o2 = (t2 : Int) := by
        rcases hp : ps.toList with _ | ⟨a1, _ | ⟨a2, _ | ⟨a3, r3⟩⟩⟩
        · rw [hp] at h2; simp at h2
        · rw [hp] at h2; simp at h2
        · rw [hp] at h2
          simp only [List.map_cons, List.map_nil, List.cons.injEq, Prod.mk.injEq, and_true] at h2
          exact ⟨a1.2, a2.2, by rw [← h2.1.1, ← h2.2.1], h2.1.2, h2.2.2⟩
        · rw [hp] at h2; simp at h2
      have e1 : (Int32.ofNat c1).toInt = (c1 : Int) := nI_toInt (by omega)
      have e2 : (Int32.ofNat c2).toInt = (c2 : Int) := nI_toInt (by omega)
      have hsort : (ps.toList.zip (ps.toList.drop 1)).all (fun (a, next) => a.1 < next.1) = true := by
        rw [hps]; simp; omega
      simp only [swL] at h
      by_cases hx1 : x = Int32.ofNat c1
      · refine lv_lookup hx hb hd hsort (off := o1) ?_ ho1 (hJ _ _ _ _ (h.1 hx1) H locs cells slots ls hM hS hl hcl hsl)
        rw [hps, hx1, e1]
        simp [Op.lookupswitch.offset]
      · by_cases hx2 : x = Int32.ofNat c2
        · refine lv_lookup hx hb hd hsort (off := o2) ?_ ho2 (hJ _ _ _ _ ((h.2 hx1).1 hx2) H locs cells slots ls hM hS hl hcl hsl)
          rw [hps, lv_osw hx1 e1, hx2, e2]
          simp [Op.lookupswitch.offset]
        · refine lv_lookup hx hb hd hsort (off := d) ?_ h3 (hJ _ _ _ _ ((h.2 hx1).2 hx2) H locs cells slots ls hM hS hl hcl hsl)
          rw [hps, lv_osw hx1 e1, lv_osw hx2 e2]
          rfl
    · cases h
  | getfield x =>
    simp only [stm] at h
    split at h
    · rename_i ci j pos k r
      simp only [Bool.and_eq_true] at hc
      obtain ⟨hlen, hc⟩ := hc
      have hlen := of_decide_eq_true hlen
      simp only [lnI] at hlen
      subst hlen
      obtain ⟨hty, h⟩ := h
      rw [List.map_cons, cvr k (small hty (Or.inl (by decide)))]
      split at hc
      · rename_i w hw
        unfold getF at h
        split at h
        · rename_i hf
          exact gf_snd X hw hc hM hty hf hd (hK _ _ _ h H locs cells slots ls hM hS hl hcl hsl)
        · rename_i hf
          exact gf_snd X hw hc hM hty hf hd (hK _ _ _ h H locs cells slots ls hM hS hl hcl hsl)
        · rename_i hf
          exact gf_snd X hw hc hM hty hf hd (hK _ _ _ h H locs cells slots ls hM hS hl hcl hsl)
        · rename_i n hf
          refine gf_snd X hw hc hM hty hf hd ?_
          have := hK _ _ _ h H locs cells slots ls hM hS hl hcl hsl
          rw [List.map_cons] at this
          have hkn : k + n < 1000 := by
            have h0 := small hty (Or.inl (by decide))
            have hci : ci < 11 := by
              rcases Nat.lt_or_ge ci 11 with h9 | h9
              · exact h9
              · exfalso
                have : ftab ci = [] := by
                  obtain ⟨z, rfl⟩ : ∃ z, ci = z + 11 := ⟨ci - 11, by omega⟩
                  rfl
                rw [this] at hf
                simp at hf
            have hk2 := tyN_k hty (Or.inl (by decide))
            have hall : ∀ ci, ci < 11 → ∀ t ∈ ftab ci, t < 800 := by decide
            have h10 : n + 3 < 800 := hall ci hci _ (List.mem_of_getElem? hf)
            have h11 : n ≤ 796 := by omega
            have h12 : @LE.le Nat _ k 155 := Nat.le_of_lt_succ hk2
            exact Nat.lt_of_le_of_lt (Nat.add_le_add h12 h11) (by decide)
          rw [cvr _ hkn] at this
          exact this
        · cases h
      · cases hc
    · cases h
  | putfield x =>
    simp only [stm] at h
    split at h
    · rename_i ci j pos v k r
      simp only [Bool.and_eq_true] at hc
      obtain ⟨hlen, hc⟩ := hc
      have hlen := of_decide_eq_true hlen
      simp only [lnI] at hlen
      subst hlen
      obtain ⟨hty, h⟩ := h
      rw [List.map_cons, List.map_cons, cvr k (small hty (Or.inl (by decide)))]
      split at hc
      · rename_i w hw
        rw [Bool.and_eq_true] at hc
        obtain ⟨hlk, htw⟩ := hc
        split at h
        · rename_i hf
          refine pf_snd (S2 := (u2 S.1 k j v, S.2)) (ty := .int) (v := .int v) X hw hlk hM hS hty hf (fun C T N hc2 => ?_) rfl rfl (by simp [fv, u2]) (fun i hi => ⟨by simp [u2, hi], rfl⟩) (fun a ha => ⟨u2_other _ _ _ ha, rfl⟩) hd (fun H1 locs1 hM1 hS1 => hK _ _ _ h H1 locs1 cells slots ls hM1 hS1 hl hcl hsl)
          unfold typeW at htw
          rw [hc2] at htw
          simp only [hf, Bool.and_eq_true, decide_eq_true_eq] at htw
          exact ⟨htw.1, by rw [htw.2]; rfl⟩
        · rename_i hf
          refine pf_snd (S2 := (u2 S.1 k j v, S.2)) (ty := .boolean) (v := .int v) X hw hlk hM hS hty hf (fun C T N hc2 => ?_) (by rcases h.1 with rfl | rfl <;> rfl) (by rcases h.1 with rfl | rfl <;> rfl) (by simp [fv, u2]) (fun i hi => ⟨by simp [u2, hi], rfl⟩) (fun a ha => ⟨u2_other _ _ _ ha, rfl⟩) hd (fun H1 locs1 hM1 hS1 => hK _ _ _ h.2 H1 locs1 cells slots ls hM1 hS1 hl hcl hsl)
          unfold typeW at htw
          rw [hc2] at htw
          simp only [hf, Bool.and_eq_true, decide_eq_true_eq] at htw
          exact ⟨htw.1, by rw [htw.2]; rfl⟩
        · cases h
      · cases hc
    · rename_i ci j pos v k r
      simp only [Bool.and_eq_true] at hc
      obtain ⟨hlen, hc⟩ := hc
      have hlen := of_decide_eq_true hlen
      simp only [lnI] at hlen
      subst hlen
      obtain ⟨hty, h⟩ := h
      rw [List.map_cons, List.map_cons, cvr k (small hty (Or.inl (by decide)))]
      split at hc
      · rename_i w hw
        rw [Bool.and_eq_true] at hc
        obtain ⟨hlk, htw⟩ := hc
        split at h
        · rename_i hf
          refine pf_snd (S2 := (S.1, u2 S.2 k j v)) (ty := .long) (v := .long v) X hw hlk hM hS hty hf (fun C T N hc2 => ?_) rfl rfl (by simp [fv, u2]) (fun i hi => ⟨rfl, by simp [u2, hi]⟩) (fun a ha => ⟨rfl, u2_other _ _ _ ha⟩) hd (fun H1 locs1 hM1 hS1 => hK _ _ _ h H1 locs1 cells slots ls hM1 hS1 hl hcl hsl)
          unfold typeW at htw
          rw [hc2] at htw
          simp only [hf, Bool.and_eq_true, decide_eq_true_eq] at htw
          exact ⟨htw.1, by rw [htw.2]; rfl⟩
        · cases h
      · cases hc
    · cases h
  | laload =>
    simp only [stm] at h
    split at h
    · rename_i x k r
      obtain ⟨n, hty, hin, h⟩ := h
      simp only [Bool.and_eq_true] at hc
      have hlen := of_decide_eq_true hc.1
      simp only [lnI] at hlen
      subst hlen
      rw [List.map_cons, List.map_cons, cvr k (small hty (Or.inl (by decide)))]
      exact la_snd X hM hty hin hd (hK _ _ _ h H locs cells slots ls hM hS hl hcl hsl)
    · cases h
  | iaload =>
    simp only [stm] at h
    split at h
    · rename_i x k r
      simp only [Bool.and_eq_true] at hc
      have hlen := of_decide_eq_true hc.1
      simp only [lnI] at hlen
      subst hlen
      rcases h with ⟨n, hty, hin, h⟩ | ⟨rfl, h⟩
      case inr =>
        unfold scI at h
        split at h
        · rename_i n f
          obtain ⟨h1, h2, h3⟩ := hsc n f rfl
          rw [List.map_cons, List.map_cons]
          exact va_sld (A := AB b) hx hb h1 h3 (fun h9 => absurd h2 (Nat.not_lt.mpr h9)) hS h.1 hd (hK _ _ _ h.2 H locs cells slots ls hM hS hl hcl hsl)
        · cases h
      rw [List.map_cons, List.map_cons, cvr k (small hty (Or.inl (by decide)))]
      exact ia_snd X hM hty hin hd (hK _ _ _ h H locs cells slots ls hM hS hl hcl hsl)
    · cases h
  | baload =>
    simp only [stm] at h
    split at h
    · rename_i x k r
      obtain ⟨n, hty, hin, h⟩ := h
      simp only [Bool.and_eq_true] at hc
      have hlen := of_decide_eq_true hc.1
      simp only [lnI] at hlen
      subst hlen
      rw [List.map_cons, List.map_cons, cvr k (small hty (Or.inl (by decide)))]
      exact ba_snd X hM hty hin hd (hK _ _ _ h H locs cells slots ls hM hS hl hcl hsl)
    · cases h
  | lastore =>
    simp only [stm] at h
    split at h
    · rename_i v x k r
      obtain ⟨n, hty, hin, h⟩ := h
      simp only [Bool.and_eq_true] at hc
      have hlen := of_decide_eq_true hc.1
      simp only [lnI] at hlen
      subst hlen
      rw [List.map_cons, List.map_cons, List.map_cons, cvr k (small hty (Or.inl (by decide)))]
      exact ls_snd X hM hS hty hin hd (fun H1 locs1 hM1 hS1 => hK _ _ _ h H1 locs1 cells slots ls hM1 hS1 hl hcl hsl)
    · cases h
  | iastore =>
    simp only [stm] at h
    split at h
    · rename_i v x k r
      obtain ⟨n, hty, hin, h⟩ := h
      simp only [Bool.and_eq_true] at hc
      have hlen := of_decide_eq_true hc.1
      simp only [lnI] at hlen
      subst hlen
      rw [List.map_cons, List.map_cons, List.map_cons, cvr k (small hty (Or.inl (by decide)))]
      exact is_snd X hM hS hty hin hd (fun H1 locs1 hM1 hS1 => hK _ _ _ h H1 locs1 cells slots ls hM1 hS1 hl hcl hsl)
    · cases h
  | bastore =>
    simp only [stm] at h
    split at h
    · rename_i v x k r
      obtain ⟨n, hty, hin, h⟩ := h
      simp only [Bool.and_eq_true] at hc
      have hlen := of_decide_eq_true hc.1
      simp only [lnI] at hlen
      subst hlen
      rw [List.map_cons, List.map_cons, List.map_cons, cvr k (small hty (Or.inl (by decide)))]
      exact bs_snd X hM hS hty hin hd (fun H1 locs1 hM1 hS1 => hK _ _ _ h H1 locs1 cells slots ls hM1 hS1 hl hcl hsl)
    · cases h
  | aaload =>
    simp only [stm] at h
    split at h
    · rename_i x k r
      obtain ⟨t, n, o, w, hty, ht, hin, h⟩ := h
      simp only [Bool.and_eq_true] at hc
      have hlen := of_decide_eq_true hc.1
      simp only [lnI] at hlen
      subst hlen
      have hlt : x.toNatClampNeg < n := Nat.not_le.mp fun q => hin (Or.inr q)
      have hty0 := (tyN_spec hty (Or.inr (by omega))).2
      have hk0 : k < NK := ty_lt hty0 (Or.inr (by omega))
      have hkey : o + w * x.toNatClampNeg < 1000 := by
        have hall : ∀ k, k < NK → (tyOf k).2.2.1 + (tyOf k).2.2.2 * (tyOf k).2.1 < 1000 := by decide +kernel
        have h9 := hall k hk0
        rw [hty0] at h9
        have h10 : w * x.toNatClampNeg ≤ w * n := Nat.mul_le_mul_left w (Nat.le_of_lt hlt)
        dsimp only at h9
        omega
      rw [List.map_cons, List.map_cons, cvr k (small hty (Or.inr (by omega)))]
      refine aa_snd X hM hty ht hin hd ?_
      have := hK _ _ _ h H locs cells slots ls hM hS hl hcl hsl
      rw [List.map_cons, cvr _ hkey] at this
      exact this
    · cases h
  | arraylength =>
    simp only [stm] at h
    split at h
    · rename_i k r
      simp only [Bool.and_eq_true] at hc
      have hlen := of_decide_eq_true hc.1
      simp only [lnI] at hlen
      subst hlen
      rcases h with ⟨t, n, o, w, hty, hn, ht, h⟩ | ⟨rfl, h⟩
      case inr =>
        unfold scL at h
        split at h
        · rename_i n f
          obtain ⟨h1, h2, h3⟩ := hsc n _ rfl
          rw [List.map_cons]
          exact va_slen (A := AB b) hx hb h1 h3 (fun h9 => absurd h2 (Nat.not_lt.mpr h9)) hS hd (hK _ _ _ h H locs cells slots ls hM hS hl hcl hsl)
        · cases h
      rw [List.map_cons, cvr k (small hty (Or.inr hn))]
      exact al_snd X hM hty hn ht hd (hK _ _ _ h H locs cells slots ls hM hS hl hcl hsl)
    · cases h
  | ireturn =>
    simp only [stm] at h
    simp only [Bool.and_eq_true] at hc
    have hlen := of_decide_eq_true hc.1
    simp only [lnI] at hlen
    subst hlen
    split at h
    · rename_i v
      split at h
      · refine ret_mono hcl hsl (W.zret hx hb hr rfl (fun t ht hW => ⟨⟨some (.int v), S, rfl, h, by rw [ht]; exact hM⟩, hS.F ht⟩) hS.2.2 hd hlocks)
      · refine ret_mono hcl hsl (W.zret hx hb hr (by rcases h.1 with rfl | rfl <;> rfl) (fun t ht hW => ⟨⟨some (.int v), S, rfl, h.2, by rw [ht]; exact hM⟩, hS.F ht⟩) hS.2.2 hd hlocks)
      · cases h
    · cases h
  | lreturn =>
    simp only [stm] at h
    simp only [Bool.and_eq_true] at hc
    have hlen := of_decide_eq_true hc.1
    simp only [lnI] at hlen
    subst hlen
    split at h
    · rename_i v
      obtain ⟨hrt, h⟩ := h
      rw [hrt] at hr
      exact ret_mono hcl hsl (W.lret hx hb hr (fun t ht hW => ⟨⟨some (.long v), S, rfl, h, by rw [ht]; exact hM⟩, hS.F ht⟩) hS.2.2 hd hlocks)
    · cases h
  | areturn =>
    simp only [stm] at h
    simp only [Bool.and_eq_true] at hc
    have hlen := of_decide_eq_true hc.1
    simp only [lnI] at hlen
    subst hlen
    split at h
    · rename_i k
      split at h
      · exact ret_mono hcl hsl (W.aret hx hb hr (Or.inl ⟨_, rfl⟩) (Or.inr ⟨_, rfl⟩) (fun t ht hW => ⟨⟨some (.ref k), S, rfl, h, by rw [ht]; exact hM⟩, hS.F ht⟩) hS.2.2 hd hlocks)
      · cases h
    · cases h
  | return_ =>
    simp only [stm] at h
    simp only [Bool.and_eq_true] at hc
    have hlen := of_decide_eq_true hc.1
    simp only [lnI] at hlen
    subst hlen
    split at h
    · obtain ⟨hrt, h⟩ := h
      rw [hrt] at hr
      exact ret_mono hcl hsl (W.vret hx hb hr (fun t ht hW => ⟨⟨none, S, rfl, h, by rw [ht]; exact hM⟩, hS.F ht⟩) hS.2.2 hd hlocks)
    · cases h
  | _ => simp only [stm] at h
end WPS
