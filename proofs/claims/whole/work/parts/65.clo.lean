/-! ===== Desk.closeMonth ===== -/
theorem canV_congr {S T : Mem} {k : Nat} {rc : Int32} (e0 : T.1 k = S.1 k) (e3 : T.1 (k + 3) = S.1 (k + 3)) : canV T k rc ↔ canV S k rc := by
  unfold canV fiV
  rw [e0, e3]
theorem uF_congr {S T : Mem} (h : ∀ p, T.1 (89 + 3 * p) 0 = S.1 (89 + 3 * p) 0) (f : Int32) (n p : Nat) : uF T f n p = uF S f n p := by
  have a : ∀ p, uA T f p = uA S f p := fun p => by unfold uA; rw [h]
  have b : ∀ n, opU T f n = opU S f n := fun n => by
    induction n with
    | zero => rfl
    | succ n ih => show opU T f n - uA T f n = opU S f n - uA S f n; rw [ih, a]
  unfold uF
  rw [a, a, b]
theorem mnP_of {S T : Mem} {p : Nat} (h : T.1 (89 + 3 * p) 3 = S.1 (89 + 3 * p) 3) : mnP T p ↔ mnP S p := by
  unfold mnP
  rw [h]
theorem e_moveUnplacedR {n l : Nat} (S : Mem) (hn : S.1 1 3 = nI n) (hn4 : n ≤ 4) (hl : l < 5) (hd : S.1 1 2 = nI (l + 1)) {Qr : QR} {Qx : QX} (h : ∀ Y, moveR S (S.1, Y) l n → Qr none (S.1, Y)) : vsp 156 1 (sX1_moveUnplaced 156) [.ref 1] S Qr Qx := by
  refine e_moveUnplaced S hn hn4 hl hd (fun q X q1 q2 q3 x1 x2 x3 => h X ⟨rfl, x1, Or.inl ⟨q, q1, q2, q3, x2, x3⟩⟩) (fun X x1 x2 x3 => h _ ⟨rfl, fun p x y => ?_, Or.inr ⟨x1, u2_s _ _ _ _, fun c i x y => ?_⟩⟩)
  · show u2 X (9 + 17 * l) 16 _ (89 + 3 * p) 6 = 0
    rw [u2_j _ _ _ _ (by decide)]; exact x2 p x y
  · show u2 X (9 + 17 * l) 16 _ c i = S.2 c i
    by_cases z : c = 9 + 17 * l
    · rw [u2_j _ _ _ _ (by omega)]; exact x3 c i x
    · rw [u2_k _ _ _ _ z]; exact x3 c i x
set_option maxHeartbeats 2000000 in
theorem e_closeMonth {m n : Nat} {ns : Nat → Nat} (S : Mem) (hd : S.1 1 2 = nI (m + 1)) (hm : m < 5) (hn : S.1 1 3 = nI n) (hn0 : 0 < n) (hn4 : n ≤ 4) (hmn : ∃ p, p < n ∧ mnP S p) (hs : ∀ p, p < n → S.1 (89 + 3 * p) 7 = nI (ns p) ∧ ns p ≤ 40) {Qr : QR} {Qx : QX}
    (hF : ∀ S', (¬ canA S (m + 1) ∨ fullR S n (m + 1) ns) → (∀ c, c = 0 ∨ 101 ≤ c → S'.1 c = S.1 c ∧ S'.2 c = S.2 c) → Qr (some (.int 0)) S')
    (hT : canA S (m + 1) → ∀ S1 S2 S3 S4 S5, closeR S S1 (m + 1) → unitR S1 S2 (rcV S (m + 1)) n → centR S2 S3 (ctV S1 (m + 1)) n → moveR S3 S4 m n → fillR S4 S5 n ns → Qr (some (.int 1)) (u2 (u2 S5.1 1 5 (S5.1 1 5 + 1)) 1 6 0, accX S5 (m + 1))) : vsp 156 1 (sX1_closeMonth 156) [.ref 1] S Qr Qx := by
  have t1 : tyN 156 1 = (0, 1, 0, 0) := rfl
  have t2 : tyN 156 2 = (4, 5, 4, 17) := rfl
  refine ⟨t1, runL (α := Nat × Mem) rfl 120 10 0 (fun a => [(4, .int (nI a.1)), (2, .long (ctV a.2 a.1)), (1, .int (rcV S a.1)), (0, .ref 1)]) (fun a => a.2) (fun a => m + 1 - a.1) (fun a => a.1 ≤ m + 1 ∧ canA S a.1 ∧ closeR S a.2 a.1) ?_ ?_⟩
  · rintro ⟨i, T⟩ ⟨hi, hc, hr, hf⟩
    dsimp only at hi hc hr hf
    have e2 : T.1 1 2 = nI (m + 1) := by rw [(hf 1 (by omega)).1]; exact hd
    refine ⟨t1, And.intro (fun a1 => ?_) (fun a1 => ?_)⟩
    · have a1 : nI (m + 1) ≤ nI i := e2 ▸ a1
      obtain rfl := le_of_nI (by omega) hi a1
      have pk : ∀ p, T.1 (89 + 3 * p) = S.1 (89 + 3 * p) := fun p => (hf _ (by omega)).1
      have e3 : T.1 1 3 = nI n := by rw [(hf 1 (by omega)).1]; exact hn
      refine ⟨⟨Nat.le_of_ble_eq_true rfl, Nat.le_of_ble_eq_true rfl, Nat.le_of_ble_eq_true rfl⟩, e_partUnits (rcV S (m + 1)) T e3 hn0 hn4 (fun S2 u1 u2' u3 => ?_)⟩
      have m2 : ∃ p, p < n ∧ mnP S2 p := by
        obtain ⟨p, x, y⟩ := hmn
        exact ⟨p, x, (mnP_of ((u2' _ _ (Or.inr (Or.inr (by decide)))).trans (by rw [pk]))).mpr y⟩
      have s3 : S2.1 1 3 = nI n := (u2' _ _ (Or.inl (by decide))).trans e3
      have s2 : S2.1 1 2 = nI (m + 1) := (u2' _ _ (Or.inl (by decide))).trans e2
      refine ⟨⟨Nat.le_of_ble_eq_true rfl, Nat.le_of_ble_eq_true rfl, Nat.le_of_ble_eq_true rfl⟩, e_partCents (ctV T (m + 1)) S2 s3 hn4 m2 (fun q X q1 q2 q3 x1 x2 x3 => ?_)⟩
      have cR : centR S2 (S2.1, X) (ctV T (m + 1)) n := ⟨rfl, ⟨q, q1, q2, q3, x1⟩, x2, x3⟩
      refine ⟨⟨Nat.le_of_ble_eq_true rfl, Nat.le_of_ble_eq_true rfl, Nat.le_of_ble_eq_true rfl⟩, e_moveUnplacedR (l := m) (S2.1, X) s3 hn4 hm s2 (fun Y hY => ?_)⟩
      refine ⟨⟨Nat.le_of_ble_eq_true rfl, Nat.le_of_ble_eq_true rfl, Nat.le_of_ble_eq_true rfl⟩, e_fillStore (ns := ns) (S2.1, Y) s3 hn4 (fun p x => ⟨?_, (hs p x).2⟩) (fun S9 f1 f2 => ?_) (fun p x fu S9 f2 => ?_)⟩
      · exact (u2' _ _ (Or.inr (Or.inr (by decide)))).trans (by rw [pk]; exact (hs p x).1)
      · refine And.intro (fun _ => ?_) (fun x => absurd x (by decide))
        have e9 : S9.1 1 2 = nI (m + 1) := by rw [(f2 1 (by omega)).1]; exact s2
        exact ⟨⟨Nat.le_of_ble_eq_true rfl, Nat.le_of_ble_eq_true rfl, Nat.le_of_ble_eq_true rfl⟩, e_addToAccounts S9 e9 (by omega) ⟨t1, t1, t1, Or.inr rfl, hT hc T S2 (S2.1, X) (S2.1, Y) S9 ⟨hr, hf⟩ ⟨u1, u2', u3⟩ cR hY ⟨f1, f2⟩⟩⟩
      · refine And.intro (fun x => absurd rfl x) (fun _ => ⟨Or.inl rfl, hF S9 (Or.inr ⟨p, x, ?_, ?_, fu.2.2⟩) (fun c x => ⟨?_, ?_⟩)⟩)
        · have := fu.1
          have e4 : (S2.1, Y).1 (89 + 3 * p) 4 = uF T (rcV S (m + 1)) n p := (u1 p x).1
          rw [e4, uF_congr (S := S) (fun p => by rw [pk])] at this
          exact this
        · rcases fu.2.1 with y | y
          · have e4 : (S2.1, Y).1 1 4 = S.1 1 4 := (u2' _ _ (Or.inl (by decide))).trans (by rw [(hf 1 (by omega)).1])
            rw [e4] at y; exact y
          · have := fu.2.2; omega
        · rw [(f2 c (by omega)).1]
          funext j
          exact (u2' c j (by omega)).trans (by rw [(hf c (by omega)).1])
        · rw [(f2 c (by omega)).2]
          funext j
          show Y c j = S.2 c j
          have z1 : Y c j = X c j := by
            rcases hY.2.2 with ⟨_, _, _, _, _, z⟩ | ⟨_, _, z⟩
            · exact z c j (by omega)
            · exact z c j (by omega) (by omega)
          rw [z1]
          exact (x3 c j (by omega)).trans ((u3 c j (by omega)).trans (by rw [(hf c (by omega)).2]))
    · have a1 : ¬ nI (m + 1) ≤ nI i := e2 ▸ a1
      have hlt := lt_of_nI (by omega) hi a1
      have hcl : (nI i).toNatClampNeg = i := nI_clamp (by omega)
      have hk : isDepN 156 (4 + 17 * i) := depN (by decide) (by omega)
      have hfk : ∀ c, 4 + 17 * i ≤ c → T.1 c = S.1 c ∧ T.2 c = S.2 c := fun c x => hf c (by omega)
      refine ⟨t1, 0, 5, 4, 17, t2, by decide, vp_nI (by omega), ⟨Nat.le_of_ble_eq_true rfl, Nat.le_of_ble_eq_true rfl, Nat.le_of_ble_eq_true rfl⟩, ?_⟩
      show vsp 156 0 (sX0_closeMonth 156) [.ref (4 + 17 * (nI i).toNatClampNeg), .int (rcV S i), .long (ctV T i)] T _ _
      rw [hcl]
      have cvT : canV T (4 + 17 * i) (rcV S i) ↔ canV S (4 + 17 * i) (rcV S i) := canV_congr (hfk _ (by omega)).1 (hfk _ (by omega)).1
      refine e_depClose hk (rcV S i) (ctV T i) T (fun P w pr hw nc => ?_) (fun P w R T' pr hw ca r1 r2 r3 r4 cl => ?_)
      · have nv : ¬ canV S (4 + 17 * i) (rcV S i) := fun x => nc ((canC_V pr hw).mpr (cvT.mpr x))
        obtain ⟨-, -, -, -, p10, p11⟩ := pr
        refine And.intro (fun x => absurd rfl x) (fun _ => ⟨Or.inl rfl, hF _ (Or.inl (fun x => nv (x i hlt))) (fun c x => ⟨?_, ?_⟩)⟩)
        · exact (u2_other _ _ _ (by omega)).trans ((p10 c (by omega)).trans (hf c (by omega)).1)
        · exact (p11 c (by omega)).trans (hf c (by omega)).2
      · have cv : canV S (4 + 17 * i) (rcV S i) := cvT.mp ((canC_V pr hw).mp ca)
        obtain ⟨dR, dF⟩ := depR_of pr hw r1 r2 r3 r4 cl
        have dS : depR S T' (4 + 17 * i) (rcV S i) (ctV T i) := dR.move (fun c x y => ⟨(hfk c x).1.symm, (hfk c x).2.symm⟩) (fun c x y => ⟨rfl, rfl⟩)
        have ct' : ∀ d, d ≤ i → ctV T' d = ctV T d := fun d x => by
          rcases d with _ | d
          · rfl
          · show T'.2 (9 + 17 * d) 17 = T.2 (9 + 17 * d) 17
            rw [(dF _ (by omega)).2]
        have q0 := hk.2.2.2.2.1
        refine And.intro (fun _ => ⟨hk.1, q0, hk.1, q0, rfl, rfl, (i + 1, T'), ⟨⟨by show i + 1 ≤ m + 1; omega, fun d x => ?_, fun d x => ?_, fun c x => ?_⟩, by show m + 1 - (i + 1) < m + 1 - i; omega⟩, rfl, congrArg (fun z => some (Value.int z)) (nI_1 i), ?_, ?_, rfl, trivial⟩) (fun x => absurd x (by decide))
        · have x : d < i + 1 := x
          by_cases z : d = i
          · rw [z]; exact cv
          · exact hc d (by omega)
        · have x : d < i + 1 := x
          show depR S T' (4 + 17 * d) (rcV S d) (ctV T' d)
          by_cases z : d = i
          · subst z; rw [ct' d (Nat.le_refl d)]; exact dS
          · rw [ct' d (by omega)]
            exact (hr d (by omega)).move (fun _ _ _ => ⟨rfl, rfl⟩) (fun c x y => dF c (by omega))
        · have x : c < 4 ∨ 4 + 17 * (i + 1) ≤ c := x
          exact ⟨(dF c (by omega)).1.trans (hf c (by omega)).1, (dF c (by omega)).2.trans (hf c (by omega)).2⟩
        · refine congrArg (fun z => some (Value.long z)) ?_
          show T'.2 (4 + 17 * i + 5) 17 = T'.2 (9 + 17 * i) 17
          rw [show 4 + 17 * i + 5 = 9 + 17 * i by omega]
        · exact congrArg (fun z => some (Value.int z)) dS.fin
  · exact ⟨t1, rfl, rfl, (0, S), ⟨Nat.zero_le _, fun d x => absurd x (Nat.not_lt_zero d), fun d x => absurd x (Nat.not_lt_zero d), fun c _ => ⟨rfl, rfl⟩⟩, rfl, rfl, rfl, rfl, rfl, trivial⟩
