/-! ===== a department is read ===== -/
/-- ints of key k, the desk's and the tape's own change alone -/
def DS (k : Nat) (S S' : Mem) : Prop := S'.2 = S.2 ∧ (∀ c, c ≠ 1 → c ≠ 121 → c ≠ k → S'.1 c = S.1 c) ∧ ∀ j, j ∉ [3, 4, 5] → S'.1 121 j = S.1 121 j
def DX (k : Nat) (S S' : Mem) : Prop := S'.2 = S.2 ∧ (∀ c, c ≠ 1 → c ≠ 121 → c ≠ k → S'.1 c = S.1 c) ∧ ∀ j, j ∉ [3, 4, 5, 7, 8] → S'.1 121 j = S.1 121 j
theorem DS.re {k : Nat} {S : Mem} : DS k S S := ⟨rfl, fun _ _ _ _ => rfl, fun _ _ => rfl⟩
theorem DS.ts {k : Nat} {J : List Nat} {S T U : Mem} (h : DS k S T) (t : TS J T U) (hJ : ∀ j, j ∈ J → j ∈ [3, 4, 5]) : DS k S U := ⟨t.1.trans h.1, fun c x y z => (t.2.1 c y).trans (h.2.1 c x y z), fun j x => (t.2.2 j (fun y => x (hJ j y))).trans (h.2.2 j x)⟩
theorem DS.tx {k : Nat} {J : List Nat} {S T U : Mem} (h : DS k S T) (t : TS J T U) (hJ : ∀ j, j ∈ J → j ∈ [3, 4, 5, 7, 8]) : DX k S U := ⟨t.1.trans h.1, fun c x y z => (t.2.1 c y).trans (h.2.1 c x y z), fun j x => (t.2.2 j (fun y => x (hJ j y))).trans (h.2.2 j (fun y => x (by simp at y ⊢; omega)))⟩
theorem DS.dx {k : Nat} {S T U : Mem} (h : DS k S T) (t : DX k T U) : DX k S U := ⟨t.1.trans h.1, fun c x y z => (t.2.1 c x y z).trans (h.2.1 c x y z), fun j x => (t.2.2 j x).trans (h.2.2 j (fun y => x (by simp at y ⊢; omega)))⟩
theorem DS.put {k : Nat} {S T : Mem} (h : DS k S T) (hk : k ≠ 121) (j : Nat) (v : Int32) : DS k S (u2 T.1 k j v, T.2) := ⟨h.1, fun c x y z => (u2_other T.1 j v z).trans (h.2.1 c x y z), fun i x => (u2_k T.1 j i v (fun e => hk e.symm)).trans (h.2.2 i x)⟩
theorem DS.hd {k : Nat} {S T : Mem} (h : DS k S T) (j : Nat) (v : Int32) : DS k S (u2 T.1 1 j v, T.2) := ⟨h.1, fun c x y z => (u2_other T.1 j v x).trans (h.2.1 c x y z), fun i x => (u2_k T.1 j i v (show 121 ≠ 1 by decide)).trans (h.2.2 i x)⟩
theorem DS.tg {k : Nat} {S T : Mem} {g : Nat → Int32} {len : Nat} (h : DS k S T) (hk : k ≠ 122) (hg : tg S g len) : tg T g len := by
  obtain ⟨a, b, c, d⟩ := hg
  refine ⟨(h.2.2 2 (by decide)).trans a, b, fun i hi => ?_, d⟩
  rw [h.2.1 122 (by decide) (by decide) (fun e => hk e.symm)]
  exact c i hi
theorem DS.trans {k : Nat} {S T U : Mem} (h : DS k S T) (i : DS k T U) : DS k S U := ⟨i.1.trans h.1, fun c x y z => (i.2.1 c x y z).trans (h.2.1 c x y z), fun j x => (i.2.2 j x).trans (h.2.2 j x)⟩
def fltR (S' : Mem) (R : RR) : Prop := ∃ r pl, R = .inl (r, pl) ∧ S'.1 121 7 = r ∧ S'.1 121 8 = nI pl
theorem fltR.ts {J : List Nat} {S S' : Mem} {R : RR} (h : fltR S R) (t : TS J S S') (h7 : 7 ∉ J) (h8 : 8 ∉ J) : fltR S' R := by
  obtain ⟨r, pl, a, b, c⟩ := h
  exact ⟨r, pl, a, (t.2.2 7 h7).trans b, (t.2.2 8 h8).trans c⟩
theorem num_flt {g : Nat → Int32} {len a : Nat} {lo hi : Int32} {k : Nat → Nat → RR} {S' : Mem} (h : (isDi (g (rend isBl g len a)) = false ∧ S'.1 121 7 = 1 ∧ S'.1 121 8 = nI (rend isBl g len a)) ∨ (isDi (g (rend isBl g len a)) = true ∧ (nI (nuV g len a) < lo ∨ ¬ nI (nuV g len a) ≤ hi) ∧ S'.1 121 7 = 2 ∧ S'.1 121 8 = nI (rend isBl g len a))) : fltR S' (pNum g len a lo hi k) := by
  obtain ⟨r, x, y, z⟩ := pNum_no (k := k) h
  exact ⟨r, _, x, y, z⟩
def pBk (g : Nat → Int32) (len a d : Nat) (K : Nat → Nat → Nat → RR) : RR := pNum g len (rend isBl g len a + 4) 0 (nI d) fun a bt => pNum g len a 1 90 fun a bs => K a bt bs
set_option maxHeartbeats 1000000 in
theorem e_readBack {g : Nat → Int32} {len a k d : Nat} (hk : tyN 156 k = (0, 0, 0, 0)) (hk1 : k ≠ 1) (hk2 : k ≠ 121) (hk3 : k ≠ 122) (S : Mem) (hg : tg S g len) (ha : S.1 121 3 = nI a) (hal : a ≤ len) {Qr : QR} {Qx : QX} (K : Nat → Nat → Nat → RR)
    (h1 : mtc g (rend isBl g len a) 4 → ∀ a' bt bs S', pBk g len a d K = K a' bt bs → bt ≤ 100000 → bs ≤ 100000 → a' ≤ len → DS k S S' → S'.1 1 = S.1 1 → S'.1 k = u1 (u1 (S.1 k) 6 (nI bt)) 7 (nI bs) → S'.1 121 3 = nI a' → Qr (some (.int 1)) S')
    (h0 : ∀ S', DX k S S' → ((¬ mtc g (rend isBl g len a) 4 ∧ S'.1 121 7 = 1 ∧ S'.1 121 8 = nI (rend isBl g len a)) ∨ (mtc g (rend isBl g len a) 4 ∧ fltR S' (pBk g len a d K))) → Qr (some (.int 0)) S') : vsp 156 8 (sX8_readBack 156) [.ref 121, .ref k, .int (nI d)] S Qr Qx := by
  have rl := rend_le (P := isBl) (g := g) hal
  refine ⟨t8, runG rfl 80 ⟨⟨Nat.le_of_ble_eq_true rfl, Nat.le_of_ble_eq_true rfl, Nat.le_of_ble_eq_true rfl⟩, e_readWord S hg ha hal (fun T ht h4 h3 => ?_)⟩⟩
  have gT := ht.tg (by decide) hg
  refine ⟨⟨Nat.le_of_ble_eq_true rfl, Nat.le_of_ble_eq_true rfl, Nat.le_of_ble_eq_true rfl⟩, e_isWord (i := 4) (by decide) T gT rl.2 h4 h3 (fun m e => ?_) (fun m => ?_)⟩
  · have l4 : rend isBl g len a + 4 ≤ len := mtc_len (i := 4) (by decide) rl.2 gT.2.2.2 m
    have h3' : T.1 121 3 = nI (rend isBl g len a + 4) := by rw [h3, e]; rfl
    refine And.intro (fun _ => ⟨⟨Nat.le_of_ble_eq_true rfl, Nat.le_of_ble_eq_true rfl, Nat.le_of_ble_eq_true rfl⟩, e_readNumber 0 (nI d) T gT h3' l4 (fun ok U tu u3 u5 => ?_) (fun U tu uf => ?_)⟩) (fun x => absurd x (by decide))
    · have gU := tu.tg (by decide) gT
      have l5 : nuE g len (rend isBl g len a + 4) ≤ len := nu_len l4
      have d1 : DS k S U := (DS.re.ts ht (by decide)).ts tu (by decide)
      have d2 := d1.put hk2 6 (U.1 121 5)
      have g2 := d2.tg hk3 hg
      have a2 : (u2 U.1 k 6 (U.1 121 5), U.2).1 121 3 = nI (nuE g len (rend isBl g len a + 4)) := (u2_k U.1 6 3 _ (fun e => hk2 e.symm)).trans u3
      refine And.intro (fun _ => ⟨t8, hk, ⟨Nat.le_of_ble_eq_true rfl, Nat.le_of_ble_eq_true rfl, Nat.le_of_ble_eq_true rfl⟩, e_readNumber 1 90 (u2 U.1 k 6 (U.1 121 5), U.2) g2 a2 l5 (fun ok2 V tv v3 v5 => ?_) (fun V tv vf => ?_)⟩) (fun x => absurd x (by decide))
      · have d3 := (d2.ts tv (by decide)).put hk2 7 (V.1 121 5)
        refine And.intro (fun _ => ⟨t8, hk, Or.inr rfl, h1 m (nuE g len (nuE g len (rend isBl g len a + 4))) (nuV g len (rend isBl g len a + 4)) (nuV g len (nuE g len (rend isBl g len a + 4))) _ ?_ (dgo_le _ _ _ (by decide)) (dgo_le _ _ _ (by decide)) (nu_len l5) d3 ?_ ?_ ((u2_k V.1 7 3 _ (fun e => hk2 e.symm)).trans v3)⟩) (fun x => absurd x (by decide))
        · exact (pNum_ok ok).trans (pNum_ok ok2)
        · exact (u2_other V.1 7 _ hk1.symm).trans ((tv.2.1 1 (by decide)).trans ((u2_other U.1 6 _ hk1.symm).trans ((tu.2.1 1 (by decide)).trans (ht.2.1 1 (by decide)))))
        · refine (u2_row V.1 k 7 _).trans ?_
          have e1 : V.1 k = u1 (S.1 k) 6 (nI (nuV g len (rend isBl g len a + 4))) := by
            rw [tv.2.1 k hk2]
            refine (u2_row U.1 k 6 _).trans ?_
            rw [tu.2.1 k hk2, ht.2.1 k hk2, u5]
          rw [e1, v5]
      · refine And.intro (fun x => absurd rfl x) (fun _ => ⟨Or.inl rfl, h0 V (d2.tx tv (by decide)) (Or.inr ⟨m, ?_⟩)⟩)
        unfold pBk
        rw [pNum_ok ok]
        exact num_flt vf
    · refine And.intro (fun x => absurd rfl x) (fun _ => ⟨Or.inl rfl, h0 U ((DS.re.ts ht (by decide)).tx tu (by decide)) (Or.inr ⟨m, num_flt uf⟩)⟩)
  · exact And.intro (fun x => absurd rfl x) (fun _ => ⟨t8, ⟨Nat.le_of_ble_eq_true rfl, Nat.le_of_ble_eq_true rfl, Nat.le_of_ble_eq_true rfl⟩, e_refuse 1 _ T (fun T' ht' e7 e8 => ⟨Or.inl rfl, h0 T' ((DS.re.ts ht (by decide)).tx ht' (by decide)) (Or.inl ⟨m, e7, e8.trans h4⟩)⟩)⟩)
