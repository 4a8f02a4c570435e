/-! ===== wp is sound ===== -/
section WPX
variable {p : Program} {l : Launch} {e : Env} {R : Room} {s : State} {m : MethodId} {args : Array Value} {below : List Frame} {meth : Method} {c : Code}
variable {cc : ByteArray} {nL : Nat} {N b : Nat} {sa cA : Nat → Nat} {D : va_G} {own : String} {tot : Nat} {Qr : Option Value → Mem → Prop} {Qx : String → Mem → Prop}
variable {prog : List PI} {calls : List (Nat × Nat × SP)} {hdl : Nat → String → Option Nat} {thr : List String} {sc : ScT} {rt : Option FieldType}
theorem cv_str (b : Nat) (sa : Nat → Nat) (n : Nat) : cv b sa (.ref (1000 + n)) = .ref (sa n) := by
  show Value.ref (if 1000 + n < 1000 then b + (1000 + n) else sa (1000 + n - 1000)) = _
  rw [if_neg (by omega), Nat.add_sub_cancel_left]
theorem chk_dec {q : PI} (h : chkI own cc q = true) : decode cc q.1 = .ok (q.2.2.2.2.2, q.2.1) := by
  unfold chkI at h
  rw [Bool.and_eq_true, decide_eq_true_eq] at h
  exact h.1
set_option maxHeartbeats 4000000 in
theorem call_snd {i : Instr} (hi : (∃ x, i = .invokevirtual x) ∨ ∃ x, i = .invokestatic x) {q : PI} (hq : q.2.2.2.2.2 = i) (hc : chkI own cc q = true) {K : KT} {r : List PI} (hmem : q ∈ prog)
    (hKr : ∀ rc L st S, K r rc L st S → WW p l e R s m args below meth c N b D cA sa nL tot Qr Qx (q.1 + q.2.1) rc L st S)
    {na mc : Nat} {tr : SP} (hC : CallR p l e R s m args below meth c N b D cA sa nL cc (QQ below args s N b D cA sa tot Qr Qx) i na mc tr) (hH : HdlR p l e R s m args below meth c N b D cA sa nL tot Qr Qx prog hdl K) (hRc : tot ≤ R.cells) (hRs : 6 * tot ≤ R.slots)
    {rc : Nat} {L : LL} {st : List Value} {S : Mem} (h : (mc ≤ rc ∧ na ≤ st.length ∧ sumC (st.drop na) ≤ 8) ∧ tr (st.take na).reverse S (fun v S' => K r (rc - mc) L (v.toList ++ st.drop na) S') (fun E S' => match hdl q.1 E with | none => Qx E S' | some h => K (jmp h prog) (rc - mc) [] [] S')) :
    WW p l e R s m args below meth c N b D cA sa nL tot Qr Qx q.1 rc L st S := by
  intro H locs cells slots ls hM hS hl hcl hsl
  obtain ⟨⟨h1, h2, h3⟩, h⟩ := h
  have hd := chk_dec hc
  have hlen : q.2.1 = 3 := by
    unfold chkI at hc
    rw [Bool.and_eq_true] at hc
    have hc2 := hc.2
    rw [hq] at hc2
    rcases hi with ⟨x, rfl⟩ | ⟨x, rfl⟩
    · simp only [Bool.and_eq_true] at hc2
      have h9 := of_decide_eq_true hc2.1
      exact h9.symm
    · simp only [Bool.and_eq_true] at hc2
      have h9 := of_decide_eq_true hc2.1
      exact h9.symm
  rw [hq, hlen] at hd
  rw [hlen] at hKr
  have hst : st = (st.take na).reverse.reverse ++ st.drop na := by rw [List.reverse_reverse, List.take_append_drop]
  rw [hst]
  refine hC H locs cells slots q.1 ls (st.take na).reverse (st.drop na) S _ _ (by rw [List.length_reverse, List.length_take]; omega) h hM hS hl.1 h3 hd (by omega) (by omega) (fun v S' H' locs' h9 hM' hS' => ?_) (fun E ce x S' H' locs' h9 hM' hS' hx1 hx2 hx3 => ?_)
  · exact hKr _ _ _ _ h9 H' locs' _ _ ls hM' hS' hl (by omega) (by omega)
  · exact hH q hmem E ce x (rc - mc) S' H' locs' _ _ ls _ h9 hM' hS' hl.1 hl.2.1 hx1 hx2 hx3 (by omega) (by omega)
set_option maxHeartbeats 4000000 in
theorem stp_snd (hsc : SCR sc sa b s) (X : CX p s m args c cc nL own D cA) (hlocks : meth.locks = false) (hr : meth.sig.returnType = rt) (hprog : OKL own cc prog)
    (hC : ∀ q : PI, q ∈ prog → ∀ (n na mc : Nat) (tr : SP), q.2.2.1 = [n] → calls[n]? = some (na, mc, tr) → ((∃ x, q.2.2.2.2.2 = .invokevirtual x) ∨ ∃ x, q.2.2.2.2.2 = .invokestatic x) → CallR p l e R s m args below meth c N b D cA sa nL cc (QQ below args s N b D cA sa tot Qr Qx) q.2.2.2.2.2 na mc tr)
    (hT : ThrR p l e R s m args below meth c N b D cA sa nL tot Qr Qx prog thr) (hL : LdcR s sa own prog) (hRc : tot ≤ R.cells) (hRs : 6 * tot ≤ R.slots)
    {K : KT} (hK : SND p l e R s m args below meth c N b D cA sa nL tot Qr Qx own cc prog K) (hH : HdlR p l e R s m args below meth c N b D cA sa nL tot Qr Qx prog hdl K)
    {q : PI} {r : List PI} (hsub : ∀ x ∈ q :: r, x ∈ prog) (hok : OKL own cc (q :: r)) {rc : Nat} {L : LL} {st : List Value} {S : Mem} (h : stp N prog calls hdl thr sc nL rt Qr Qx K q r rc L st S) : WW p l e R s m args below meth c N b D cA sa nL tot Qr Qx q.1 rc L st S := by
  obtain ⟨hc, hnext, hokr⟩ := hok
  have hmem : q ∈ prog := hsub q List.mem_cons_self
  have hsubr : ∀ x ∈ r, x ∈ prog := fun x hx => hsub x (List.mem_cons_of_mem _ hx)
  have hKr : ∀ rc L st S, K r rc L st S → WW p l e R s m args below meth c N b D cA sa nL tot Qr Qx (q.1 + q.2.1) rc L st S := by
    intro rc L st S hk
    match r, hnext, hokr, hsubr, hk with
    | [], _, _, _, hk => exact absurd hk (hK.1 _ _ _ _)
    | q' :: r', hnext, hokr, hsubr, hk =>
      have := hK.2 q' r' rc L st S hokr hsubr hk
      rw [hnext q' rfl] at this
      exact this
  have hKj : ∀ t rc L st S, K (jmp t prog) rc L st S → WW p l e R s m args below meth c N b D cA sa nL tot Qr Qx t rc L st S := by
    intro t rc L st S hk
    cases hj : jmp t prog with
    | nil => rw [hj] at hk; exact absurd hk (hK.1 _ _ _ _)
    | cons q' r' =>
      have h1 := OKL_jmp t hprog
      rw [hj] at h1 hk
      have := hK.2 q' r' rc L st S h1 (fun x hx => mem_jmp t (by rw [hj]; exact hx)) hk
      rw [jmp_head t (prog := prog) (q := q') (by rw [hj]; rfl)] at this
      exact this
  have hx := X.1
  have hb := X.2.1
  unfold stp at h
  split at h
  · rename_i st' hp
    intro H locs cells slots ls hM hS hl hcl hsl
    exact po_snd hx hb hp hc (hKr _ _ _ _ h H locs cells slots ls hM hS hl hcl hsl)
  · split at h
    · rename_i v hp
      intro H locs cells slots ls hM hS hl hcl hsl
      exact pl_snd hx hb hp hc hl (hKr _ _ _ _ h H locs cells slots ls hM hS hl hcl hsl)
    · split at h
      · rename_i L' st' hp
        intro H locs cells slots ls hM hS hl hcl hsl
        exact ps_snd hx hb hp hc hl (fun ls9 hl9 => hKr _ _ _ _ h H locs cells slots ls9 hM hS hl9 hcl hsl)
      · split at h
        · rename_i A B st' hp
          split at h
          · rename_i t ha
            intro H locs cells slots ls hM hS hl hcl hsl
            exact pb_snd hx hb hp ha hc (fun z => hKj _ _ _ _ _ (h.1 z) H locs cells slots ls hM hS hl hcl hsl) (fun z => hKr _ _ _ _ (h.2 z) H locs cells slots ls hM hS hl hcl hsl)
          · cases h
        · split at h
          · rename_i A st' hp
            intro H locs cells slots ls hM hS hl hcl hsl
            exact pq_snd hx hb hp h.1 hc (hKr _ _ _ _ h.2 H locs cells slots ls hM hS hl hcl hsl)
          · split at h
            · rename_i x pos hi ha
              intro H locs cells slots ls hM hS hl hcl hsl
              unfold chkI at hc
              rw [hi, ha] at hc
              simp only [Bool.and_eq_true] at hc
              obtain ⟨hd, hlen, hc⟩ := hc
              have hd := of_decide_eq_true hd
              have hlen := of_decide_eq_true hlen
              have hc := of_decide_eq_true hc
              have hlen : q.2.1 = 2 := hlen.symm
              rw [hlen] at hd hKr
              exact lv_ldc hx hb X.2.2.2.1 (X.2.2.2.2.1 _ (wG_of (List.mem_of_getElem? hc) rfl)) hd (hKr _ _ _ _ h H locs cells slots ls hM hS hl hcl hsl)
            · rename_i x n hi ha
              intro H locs cells slots ls hM hS hl hcl hsl
              have hd := chk_dec hc
              unfold chkI at hc
              rw [hi, ha] at hc
              simp only [Bool.and_eq_true] at hc
              obtain ⟨-, hlen, -⟩ := hc
              have hlen := of_decide_eq_true hlen
              have hlen : q.2.1 = 2 := hlen.symm
              rw [hi, hlen] at hd
              rw [hlen] at hKr
              obtain ⟨tx, hR⟩ := hL q hmem x n hi ha
              have h9 := hKr _ _ _ _ h H locs cells slots ls hM hS hl hcl hsl
              rw [List.map_cons, cv_str] at h9
              exact va_ldcS hx hb X.2.2.2.1 hR hd h9
            · rename_i x pos hi ha
              intro H locs cells slots ls hM hS hl hcl hsl
              unfold chkI at hc
              rw [hi, ha] at hc
              simp only [Bool.and_eq_true] at hc
              obtain ⟨hd, hlen, hc⟩ := hc
              have hd := of_decide_eq_true hd
              have hlen := of_decide_eq_true hlen
              have hc := of_decide_eq_true hc
              have hlen : q.2.1 = 3 := hlen.symm
              rw [hlen] at hd hKr
              exact lv_ldc2 hx hb X.2.2.2.1 (X.2.2.2.2.1 _ (wG_of (List.mem_of_getElem? hc) rfl)) hd (hKr _ _ _ _ h H locs cells slots ls hM hS hl hcl hsl)
            · rename_i x n hi ha
              split at h
              · rename_i E hE
                split at h
                · rename_i rc0
                  intro H locs cells slots ls hM hS hl hcl hsl
                  exact hT q hmem x n E hi ha hE S H locs cells slots ls h hM hS hl.1 (by omega) (by omega)
                · cases h
              · cases h
            · rename_i x n hi ha
              split at h
              · rename_i na mc tr hcl
                exact call_snd (Or.inl ⟨x, rfl⟩) hi hc hmem hKr (hi ▸ hC q hmem n na mc tr ha hcl (Or.inl ⟨x, hi⟩)) hH hRc hRs h
              · cases h
            · rename_i x n hi ha
              split at h
              · rename_i na mc tr hcl
                exact call_snd (Or.inr ⟨x, rfl⟩) hi hc hmem hKr (hi ▸ hC q hmem n na mc tr ha hcl (Or.inr ⟨x, hi⟩)) hH hRc hRs h
              · cases h
            · exact stm_snd hsc X hlocks hr hc (fun t L st S hj => hKj t rc L st S hj) (fun L st S hk => hKr rc L st S hk) h
theorem cut_mem {cuts : CutT} {pc : Nat} {P : Nat → LL → List Value → Mem → Prop} : cutAt pc cuts = some P → ∃ q ∈ cuts, q.1 = pc ∧ q.2 = P := by
  induction cuts with
  | nil => intro h; simp [cutAt] at h
  | cons a r ih =>
    intro h
    unfold cutAt at h
    cases hq : Nat.beq a.1 pc with
    | true =>
      rw [hq] at h
      exact ⟨a, List.mem_cons_self, Nat.eq_of_beq_eq_true hq, Option.some.inj h⟩
    | false =>
      rw [hq] at h
      obtain ⟨x, h1, h2⟩ := ih h
      exact ⟨x, List.mem_cons_of_mem _ h1, h2⟩
set_option maxHeartbeats 1000000 in
theorem wp_snd (hsc : SCR sc sa b s) (X : CX p s m args c cc nL own D cA) (hlocks : meth.locks = false) (hr : meth.sig.returnType = rt) (hprog : OKL own cc prog)
    (hC : ∀ q : PI, q ∈ prog → ∀ (n na mc : Nat) (tr : SP), q.2.2.1 = [n] → calls[n]? = some (na, mc, tr) → ((∃ x, q.2.2.2.2.2 = .invokevirtual x) ∨ ∃ x, q.2.2.2.2.2 = .invokestatic x) → CallR p l e R s m args below meth c N b D cA sa nL cc (QQ below args s N b D cA sa tot Qr Qx) q.2.2.2.2.2 na mc tr)
    (hT : ThrR p l e R s m args below meth c N b D cA sa nL tot Qr Qx prog thr) (hL : LdcR s sa own prog) (hRc : tot ≤ R.cells) (hRs : 6 * tot ≤ R.slots)
    (hH : ∀ K : KT, SND p l e R s m args below meth c N b D cA sa nL tot Qr Qx own cc prog K → HdlR p l e R s m args below meth c N b D cA sa nL tot Qr Qx prog hdl K)
    {cuts : CutT} (hcut : ∀ q ∈ cuts, ∀ (rc : Nat) (L : LL) (st : List Value) (S : Mem), q.2 rc L st S → WW p l e R s m args below meth c N b D cA sa nL tot Qr Qx q.1 rc L st S) :
    ∀ n : Nat, SND p l e R s m args below meth c N b D cA sa nL tot Qr Qx own cc prog (wp N prog calls hdl thr sc nL rt Qr Qx cuts n)
  | 0 => ⟨fun _ _ _ _ h => h, fun _ _ _ _ _ _ _ _ h => absurd h id⟩
  | n + 1 => by
    have ih := wp_snd hsc X hlocks hr hprog hC hT hL hRc hRs hH hcut n
    refine ⟨fun _ _ _ _ h => h, fun q r rc L st S hok hsub h => ?_⟩
    unfold wp at h
    split at h
    · rename_i P hP
      obtain ⟨z, h1, h2, h3⟩ := cut_mem hP
      subst h3
      rw [← h2]
      exact hcut z h1 rc L st S h
    · exact stp_snd hsc X hlocks hr hprog hC hT hL hRc hRs ih (hH _ ih) hsub hok h
theorem wpH_snd (hsc : SCR sc sa b s) (X : CX p s m args c cc nL own D cA) (hlocks : meth.locks = false) (hr : meth.sig.returnType = rt) (hprog : OKL own cc prog)
    (hC : ∀ q : PI, q ∈ prog → ∀ (n na mc : Nat) (tr : SP), q.2.2.1 = [n] → calls[n]? = some (na, mc, tr) → ((∃ x, q.2.2.2.2.2 = .invokevirtual x) ∨ ∃ x, q.2.2.2.2.2 = .invokestatic x) → CallR p l e R s m args below meth c N b D cA sa nL cc (QQ below args s N b D cA sa tot Qr Qx) q.2.2.2.2.2 na mc tr)
    (hT : ThrR p l e R s m args below meth c N b D cA sa nL tot Qr Qx prog thr) (hL : LdcR s sa own prog) (hRc : tot ≤ R.cells) (hRs : 6 * tot ≤ R.slots)
    (hH : ∀ K : KT, SND p l e R s m args below meth c N b D cA sa nL tot Qr Qx own cc prog K → HdlR p l e R s m args below meth c N b D cA sa nL tot Qr Qx prog hdl K)
    {cuts : CutT} (hcut : ∀ q ∈ cuts, ∀ (rc : Nat) (L : LL) (st : List Value) (S : Mem), q.2 rc L st S → WW p l e R s m args below meth c N b D cA sa nL tot Qr Qx q.1 rc L st S)
    {n pc rc : Nat} {L : LL} {st : List Value} {S : Mem} (h : wpH N prog calls hdl thr sc nL rt Qr Qx cuts n (jmp pc prog) rc L st S) : WW p l e R s m args below meth c N b D cA sa nL tot Qr Qx pc rc L st S := by
  have ih := wp_snd hsc X hlocks hr hprog hC hT hL hRc hRs hH hcut n
  cases hj : jmp pc prog with
  | nil => rw [hj] at h; exact absurd h id
  | cons q r =>
    have h1 := OKL_jmp pc hprog
    rw [hj] at h1 h
    have := stp_snd hsc X hlocks hr hprog hC hT hL hRc hRs ih (hH _ ih) (fun x hx => mem_jmp pc (by rw [hj]; exact hx)) h1 h
    rw [jmp_head pc (prog := prog) (q := q) (by rw [hj]; rfl)] at this
    exact this
end WPX
