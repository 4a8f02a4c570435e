/-! ===== the tape: skipping, words ===== -/
def rgo (P : Int32 → Bool) (g : Nat → Int32) : Nat → Nat → Nat
  | 0, a => a
  | n + 1, a => bif P (g a) then rgo P g n (a + 1) else a
def isBl (c : Int32) : Bool := decide (c = 32)
def isLe (c : Int32) : Bool := decide (97 ≤ c) && decide (c ≤ 122)
def isDi (c : Int32) : Bool := decide (48 ≤ c) && decide (c ≤ 57)
/-- where the signs with P end, from a on, of a text of so many signs -/
def rend (P : Int32 → Bool) (g : Nat → Int32) (len a : Nat) : Nat := rgo P g (len - a) a
theorem rend_yes {P : Int32 → Bool} {g : Nat → Int32} {len a : Nat} (h : a < len) (hp : P (g a) = true) : rend P g len a = rend P g len (a + 1) := by
  unfold rend
  rw [show len - a = (len - (a + 1)) + 1 by omega]
  show (bif P (g a) then rgo P g (len - (a + 1)) (a + 1) else a) = _
  rw [hp]
  rfl
theorem rend_no {P : Int32 → Bool} {g : Nat → Int32} {len a : Nat} (h : a < len → P (g a) = false) : rend P g len a = a := by
  unfold rend
  by_cases hl : a < len
  · rw [show len - a = (len - (a + 1)) + 1 by omega]
    show (bif P (g a) then rgo P g (len - (a + 1)) (a + 1) else a) = _
    rw [h hl]
    rfl
  · rw [show len - a = 0 by omega]
    rfl
theorem rend_spec {P : Int32 → Bool} {g : Nat → Int32} {len : Nat} : ∀ (n a : Nat), len - a = n → a ≤ len → a ≤ rend P g len a ∧ rend P g len a ≤ len ∧ (∀ i, a ≤ i → i < rend P g len a → P (g i) = true) ∧ (rend P g len a < len → P (g (rend P g len a)) = false) := by
  intro n
  induction n with
  | zero =>
    intro a h1 h2
    have e : rend P g len a = a := rend_no (fun h => absurd h (by omega))
    rw [e]
    exact ⟨Nat.le_refl a, h2, fun i x y => absurd y (by omega), fun h => absurd h (by omega)⟩
  | succ n ih =>
    intro a h1 h2
    by_cases hp : P (g a) = true
    · rw [rend_yes (by omega) hp]
      obtain ⟨c1, c2, c3, c4⟩ := ih (a + 1) (by omega) (by omega)
      refine ⟨by omega, c2, fun i x y => ?_, c4⟩
      by_cases z : i = a
      · rw [z]; exact hp
      · exact c3 i (by omega) y
    · have hp : P (g a) = false := by simpa using hp
      rw [rend_no (fun _ => hp)]
      exact ⟨Nat.le_refl a, h2, fun i x y => absurd y (by omega), fun _ => hp⟩
theorem rend_le {P : Int32 → Bool} {g : Nat → Int32} {len a : Nat} (h : a ≤ len) : a ≤ rend P g len a ∧ rend P g len a ≤ len := ⟨(rend_spec _ a rfl h).1, (rend_spec _ a rfl h).2.1⟩
/-- the tape's signs are g, the first len of them -/
def tg (S : Mem) (g : Nat → Int32) (len : Nat) : Prop := S.1 121 2 = nI len ∧ len ≤ 400 ∧ (∀ i, i < len → g i = S.1 122 i ∨ (S.1 122 i < 0 ∧ g i < 0)) ∧ ∀ i, len ≤ i → g i < 0
theorem tg.eq {S : Mem} {g : Nat → Int32} {len i : Nat} (h : tg S g len) (hi : i < len) {c : Int32} (hc : ¬ c < 0) : S.1 122 i = c ↔ g i = c := by
  rcases h.2.2.1 i hi with e | ⟨e1, e2⟩
  · rw [e]
  · exact ⟨fun x => absurd (x ▸ e1) hc, fun x => absurd (x ▸ e2) hc⟩
theorem neg_le {c x : Int32} (hc : ¬ c < 0) (hx : x < 0) : ¬ c ≤ x := by
  rw [Int32.lt_iff_toInt_lt] at hc hx
  rw [Int32.le_iff_toInt_le]
  have : (0 : Int32).toInt = 0 := rfl
  omega
theorem tg.lo {S : Mem} {g : Nat → Int32} {len i : Nat} (h : tg S g len) (hi : i < len) {c : Int32} (hc : ¬ c < 0) (d : Int32) : (c ≤ S.1 122 i ∧ S.1 122 i ≤ d) ↔ (c ≤ g i ∧ g i ≤ d) := by
  rcases h.2.2.1 i hi with e | ⟨e1, e2⟩
  · rw [e]
  · exact ⟨fun x => absurd x.1 (neg_le hc e1), fun x => absurd x.1 (neg_le hc e2)⟩
/-- only the tape's own numbers at J change -/
def TS (J : List Nat) (S S' : Mem) : Prop := S'.2 = S.2 ∧ (∀ c, c ≠ 121 → S'.1 c = S.1 c) ∧ ∀ j, j ∉ J → S'.1 121 j = S.1 121 j
theorem TS.tg {J : List Nat} {S S' : Mem} {g : Nat → Int32} {len : Nat} (h : TS J S S') (hj : 2 ∉ J) (hg : tg S g len) : tg S' g len := by
  obtain ⟨a, b, c, d⟩ := hg
  refine ⟨(h.2.2 2 hj).trans a, b, fun i hi => ?_, d⟩
  rw [h.2.1 122 (by decide)]
  exact c i hi
theorem TS.trans {J K : List Nat} {S T U : Mem} (h : TS J S T) (k : TS K T U) : TS (J ++ K) S U := by
  refine ⟨k.1.trans h.1, fun c x => (k.2.1 c x).trans (h.2.1 c x), fun j x => ?_⟩
  rw [List.mem_append] at x
  exact (k.2.2 j (fun y => x (Or.inr y))).trans (h.2.2 j (fun y => x (Or.inl y)))
theorem TS.w {J K : List Nat} {S T : Mem} (h : TS J S T) (k : ∀ j, j ∈ J → j ∈ K) : TS K S T := ⟨h.1, h.2.1, fun j x => h.2.2 j (fun y => x (k j y))⟩
theorem TS.re {J : List Nat} {S : Mem} : TS J S S := ⟨Eq.refl _, fun _ _ => Eq.refl _, fun _ _ => Eq.refl _⟩
theorem TS_u2 {J : List Nat} {S T : Mem} (h : TS J S T) (j : Nat) (v : Int32) : TS (j :: J) S (u2 T.1 121 j v, T.2) := by
  refine ⟨h.1, fun c x => (u2_other _ _ _ x).trans (h.2.1 c x), fun i x => ?_⟩
  rw [List.mem_cons] at x
  exact (u2_j T.1 121 121 v (fun e => x (Or.inl e))).trans (h.2.2 i (fun y => x (Or.inr y)))
theorem m_s (T : Mem) (j : Nat) (v : Int32) : (u2 T.1 121 j v, T.2).1 121 j = v := u2_s T.1 121 j v
theorem m_o (T : Mem) {i j : Nat} (v : Int32) (h : i ≠ j) : (u2 T.1 121 j v, T.2).1 121 i = T.1 121 i := u2_j T.1 121 121 v h
/-- a method that is one loop from its first row on -/
theorem runL0 {α : Type} {N : Nat} {prog : List PI} {calls : List (Nat × Nat × SP)} {hdl : Nat → String → Option Nat} {thr : List String} {nL : Nat} {rt : Option FieldType} {n : Nat} {as : List Value} {S : Mem} {Qr : Option Value → Mem → Prop} {Qx : String → Mem → Prop} (hsz : Nat.ble (szV as) nL = true) (fuel rc : Nat) (L0 : α → LL) (S0 : α → Mem) (μ : α → Nat) (I : α → Prop)
    (step : ∀ a, I a → wpH N prog calls hdl thr none nL rt Qr Qx [(0, LC rc L0 S0 (fun a' => I a' ∧ μ a' < μ a))] fuel (jmp 0 prog) rc (L0 a) [] (S0 a))
    (h : LC rc L0 S0 I n (la 0 as) [] S) : RUN N prog calls hdl thr nL rt n as S Qr Qx :=
  ⟨Nat.le_of_ble_eq_true hsz, fun _ hG hw => loopB hG hw 0 rc fuel L0 S0 μ I [] noCuts step _ (List.mem_singleton.mpr rfl) _ _ _ _ h⟩
theorem t8 : tyN 156 121 = (0, 8, 0, 0) := rfl
theorem t9 : tyN 156 122 = (3, 400, 0, 0) := rfl
set_option maxHeartbeats 1000000 in
theorem e_skip {g : Nat → Int32} {len a : Nat} (S : Mem) (hg : tg S g len) (ha : S.1 121 3 = nI a) (hal : a ≤ len) {Qr : QR} {Qx : QX} (h : ∀ S', TS [3] S S' → S'.1 121 3 = nI (rend isBl g len a) → Qr none S') : vsp 156 8 (sX8_skipBlanks 156) [.ref 121] S Qr Qx := by
  have l4 := hg.2.1
  refine ⟨t8, runL0 (α := Nat × Mem) rfl 60 0 (fun b => [(0, .ref 121)]) (fun b => b.2) (fun b => len - b.1) (fun b => b.1 ≤ len ∧ rend isBl g len b.1 = rend isBl g len a ∧ TS [3] S b.2 ∧ b.2.1 121 3 = nI b.1) ?_ ?_⟩
  · rintro ⟨i, T⟩ ⟨hi, hs, ht, h3⟩
    dsimp only at hi hs ht h3
    have gT := ht.tg (by decide) hg
    refine ⟨t8, t8, And.intro (fun a1 => ?_) (fun a1 => ?_)⟩
    · have a1 : T.1 121 2 ≤ T.1 121 3 := a1
      rw [gT.1, h3] at a1
      obtain rfl := le_of_nI (by omega) hi a1
      rw [rend_no (fun x => absurd x (by omega))] at hs
      exact ⟨rfl, h T ht (by rw [h3, ← hs])⟩
    · have a1 : ¬ T.1 121 2 ≤ T.1 121 3 := a1
      rw [gT.1, h3] at a1
      have hlt := lt_of_nI (by omega) hi a1
      have v : vp_in (T.1 121 3) 400 := by rw [h3]; exact vp_nI (by omega)
      have cl : (T.1 121 3).toNatClampNeg = i := by rw [h3]; exact nI_clamp (by omega)
      refine ⟨t8, t8, 400, t9, v, And.intro (fun x => ?_) (fun x => ?_)⟩
      · have x : ¬ T.1 122 (T.1 121 3).toNatClampNeg = 32 := x
        rw [cl, gT.eq hlt (by decide)] at x
        rw [rend_no (fun _ => decide_eq_false x)] at hs
        exact ⟨rfl, h T ht (by rw [h3, ← hs])⟩
      · have x : T.1 122 (T.1 121 3).toNatClampNeg = 32 := x
        rw [cl, gT.eq hlt (by decide)] at x
        rw [rend_yes hlt (decide_eq_true x)] at hs
        refine ⟨t8, t8, rfl, rfl, (i + 1, (u2 T.1 121 3 (T.1 121 3 + 1), T.2)), ⟨⟨hlt, hs, (TS_u2 ht 3 _).w (by decide), ?_⟩, by show len - (i + 1) < len - i; omega⟩, rfl, rfl, trivial⟩
        show u2 T.1 121 3 (T.1 121 3 + 1) 121 3 = nI (i + 1)
        rw [u2_s, h3, nI_1]
  · exact ⟨rfl, rfl, (a, S), ⟨hal, rfl, TS.re, ha⟩, rfl, rfl, trivial⟩
theorem e_atEnd {g : Nat → Int32} {len a : Nat} (S : Mem) (hg : tg S g len) (ha : S.1 121 3 = nI a) (hal : a ≤ len) {Qr : QR} {Qx : QX} (h : ∀ S', TS [3] S S' → S'.1 121 3 = nI (rend isBl g len a) → Qr (some (.int (if rend isBl g len a < len then 0 else 1))) S') : vsp 156 8 (sX8_atEnd 156) [.ref 121] S Qr Qx := by
  have l4 := hg.2.1
  have rl := rend_le (P := isBl) (g := g) hal
  refine ⟨t8, runG rfl 40 ⟨⟨Nat.le_of_ble_eq_true rfl, Nat.le_of_ble_eq_true rfl, Nat.le_of_ble_eq_true rfl⟩, e_skip S hg ha hal (fun S' ht h3 => ⟨t8, t8, And.intro (fun x => ⟨Or.inl rfl, ?_⟩) (fun x => ⟨Or.inr rfl, ?_⟩)⟩)⟩⟩
  · have x : S'.1 121 3 < S'.1 121 2 := x
    have e2 := (ht.tg (by decide) hg).1
    rw [h3, e2] at x
    have y := (nI_ltI (by omega) (by omega)).mp x
    have := h S' ht h3
    rw [if_pos y] at this
    exact this
  · have x : ¬ S'.1 121 3 < S'.1 121 2 := x
    have e2 := (ht.tg (by decide) hg).1
    rw [h3, e2] at x
    have y : ¬ rend isBl g len a < len := fun y => x ((nI_ltI (by omega) (by omega)).mpr y)
    have := h S' ht h3
    rw [if_neg y] at this
    exact this
theorem e_isLetter (c : Int32) (S : Mem) {Qr : QR} {Qx : QX} (h : Qr (some (.int (if 97 ≤ c ∧ c ≤ 122 then 1 else 0))) S) : sX8_isLetter 156 [.int c] S Qr Qx := by
  have lt_le : ∀ x y : Int32, ¬ x < y ↔ y ≤ x := fun x y => by rw [Int32.lt_iff_toInt_lt, Int32.le_iff_toInt_le]; omega
  refine runG rfl 40 (And.intro (fun x => ⟨Or.inl rfl, ?_⟩) (fun x => And.intro (fun y => ⟨Or.inl rfl, ?_⟩) (fun y => ⟨Or.inr rfl, ?_⟩)))
  · rw [if_neg (fun z => ((lt_le _ _).mpr z.1) x)] at h; exact h
  · rw [if_neg (fun z => ((lt_le _ _).mpr z.2) y)] at h; exact h
  · rw [if_pos ⟨(lt_le _ _).mp x, (lt_le _ _).mp y⟩] at h; exact h
theorem e_isDigit (c : Int32) (S : Mem) {Qr : QR} {Qx : QX} (h : Qr (some (.int (if 48 ≤ c ∧ c ≤ 57 then 1 else 0))) S) : sX8_isDigit 156 [.int c] S Qr Qx := by
  have lt_le : ∀ x y : Int32, ¬ x < y ↔ y ≤ x := fun x y => by rw [Int32.lt_iff_toInt_lt, Int32.le_iff_toInt_le]; omega
  refine runG rfl 40 (And.intro (fun x => ⟨Or.inl rfl, ?_⟩) (fun x => And.intro (fun y => ⟨Or.inl rfl, ?_⟩) (fun y => ⟨Or.inr rfl, ?_⟩)))
  · rw [if_neg (fun z => ((lt_le _ _).mpr z.1) x)] at h; exact h
  · rw [if_neg (fun z => ((lt_le _ _).mpr z.2) y)] at h; exact h
  · rw [if_pos ⟨(lt_le _ _).mp x, (lt_le _ _).mp y⟩] at h; exact h
theorem isLe_iff (c : Int32) : isLe c = true ↔ (97 ≤ c ∧ c ≤ 122) := by simp [isLe]
theorem isDi_iff (c : Int32) : isDi c = true ↔ (48 ≤ c ∧ c ≤ 57) := by simp [isDi]
theorem isLe_neg {c : Int32} (h : c < 0) : isLe c = false := by
  have : ¬ isLe c = true := fun x => neg_le (by decide) h ((isLe_iff c).mp x).1
  simpa using this
theorem isDi_neg {c : Int32} (h : c < 0) : isDi c = false := by
  have : ¬ isDi c = true := fun x => neg_le (by decide) h ((isDi_iff c).mp x).1
  simpa using this
theorem e_atLetter {g : Nat → Int32} {len a : Nat} (S : Mem) (hg : tg S g len) (ha : S.1 121 3 = nI a) (hal : a ≤ len) {Qr : QR} {Qx : QX} (h : ∀ S', TS [3] S S' → S'.1 121 3 = nI (rend isBl g len a) → Qr (some (.int (bif isLe (g (rend isBl g len a)) then 1 else 0))) S') : vsp 156 8 (sX8_atLetter 156) [.ref 121] S Qr Qx := by
  have l4 := hg.2.1
  have rl := rend_le (P := isBl) (g := g) hal
  refine ⟨t8, runG rfl 40 ⟨⟨Nat.le_of_ble_eq_true rfl, Nat.le_of_ble_eq_true rfl, Nat.le_of_ble_eq_true rfl⟩, e_atEnd S hg ha hal (fun S' ht h3 => ?_)⟩⟩
  have gT := ht.tg (by decide) hg
  have k := h S' ht h3
  by_cases y : rend isBl g len a < len
  · rw [if_pos y]
    have v : vp_in (S'.1 121 3) 400 := by rw [h3]; exact vp_nI (by omega)
    have cl : (S'.1 121 3).toNatClampNeg = rend isBl g len a := by rw [h3]; exact nI_clamp (by omega)
    refine And.intro (fun x => absurd rfl x) (fun _ => ⟨t8, t8, 400, t9, v, ⟨Nat.le_of_ble_eq_true rfl, Nat.le_of_ble_eq_true rfl, Nat.le_of_ble_eq_true rfl⟩, e_isLetter _ _ ?_⟩)
    have e := gT.lo y (c := 97) (by decide) 122
    rw [cl]
    by_cases z : isLe (g (rend isBl g len a)) = true
    · rw [z] at k
      rw [if_pos (e.mpr ((isLe_iff _).mp z))]
      exact And.intro (fun x => absurd x (by decide)) (fun _ => ⟨Or.inr rfl, k⟩)
    · have z' : isLe (g (rend isBl g len a)) = false := by simpa using z
      rw [z'] at k
      rw [if_neg (fun x => z ((isLe_iff _).mpr (e.mp x)))]
      exact And.intro (fun _ => ⟨Or.inl rfl, k⟩) (fun x => absurd rfl x)
  · rw [if_neg y]
    rw [isLe_neg (hg.2.2.2 _ (by omega))] at k
    exact And.intro (fun _ => ⟨Or.inl rfl, k⟩) (fun x => absurd x (by decide))
theorem e_refuse (why from' : Int32) (S : Mem) {Qr : QR} {Qx : QX} (h : ∀ S', TS [7, 8] S S' → S'.1 121 7 = why → S'.1 121 8 = from' → Qr (some (.int 0)) S') : vsp 156 8 (sX8_refuse 156) [.ref 121, .int why, .int from'] S Qr Qx :=
  ⟨t8, runG rfl 40 ⟨t8, t8, Or.inl rfl, h _ ((TS_u2 (TS_u2 (TS.re (J := [])) 7 why) 8 from').w (by decide)) ((m_o (u2 S.1 121 7 why, S.2) from' (show 7 ≠ 8 by decide)).trans (m_s S 7 why)) (m_s (u2 S.1 121 7 why, S.2) 8 from')⟩⟩
set_option maxHeartbeats 1000000 in
theorem e_readWord {g : Nat → Int32} {len a : Nat} (S : Mem) (hg : tg S g len) (ha : S.1 121 3 = nI a) (hal : a ≤ len) {Qr : QR} {Qx : QX} (h : ∀ S', TS [3, 4] S S' → S'.1 121 4 = nI (rend isBl g len a) → S'.1 121 3 = nI (rend isLe g len (rend isBl g len a)) → Qr none S') : vsp 156 8 (sX8_readWord 156) [.ref 121] S Qr Qx := by
  have l4 := hg.2.1
  have rl := rend_le (P := isBl) (g := g) hal
  refine ⟨t8, runL (α := Nat × Mem) rfl 60 12 0 (fun b => [(0, .ref 121)]) (fun b => b.2) (fun b => len - b.1) (fun b => b.1 ≤ len ∧ rend isLe g len b.1 = rend isLe g len (rend isBl g len a) ∧ TS [3, 4] S b.2 ∧ b.2.1 121 3 = nI b.1 ∧ b.2.1 121 4 = nI (rend isBl g len a)) ?_ ?_⟩
  · rintro ⟨i, T⟩ ⟨hi, hs, ht, h3, h4⟩
    dsimp only at hi hs ht h3 h4
    have gT := ht.tg (by decide) hg
    refine ⟨t8, t8, And.intro (fun a1 => ?_) (fun a1 => ?_)⟩
    · have a1 : T.1 121 2 ≤ T.1 121 3 := a1
      rw [gT.1, h3] at a1
      obtain rfl := le_of_nI (by omega) hi a1
      rw [rend_no (fun x => absurd x (by omega))] at hs
      exact ⟨rfl, h T ht h4 (by rw [h3, ← hs])⟩
    · have a1 : ¬ T.1 121 2 ≤ T.1 121 3 := a1
      rw [gT.1, h3] at a1
      have hlt := lt_of_nI (by omega) hi a1
      have v : vp_in (T.1 121 3) 400 := by rw [h3]; exact vp_nI (by omega)
      have cl : (T.1 121 3).toNatClampNeg = i := by rw [h3]; exact nI_clamp (by omega)
      have e := gT.lo hlt (c := 97) (by decide) 122
      refine ⟨t8, t8, 400, t9, v, ⟨Nat.le_of_ble_eq_true rfl, Nat.le_of_ble_eq_true rfl, Nat.le_of_ble_eq_true rfl⟩, e_isLetter _ _ ?_⟩
      rw [cl]
      by_cases z : isLe (g i) = true
      · rw [if_pos (e.mpr ((isLe_iff _).mp z))]
        rw [rend_yes hlt z] at hs
        refine And.intro (fun x => absurd x (by decide)) (fun _ => ⟨t8, t8, rfl, rfl, (i + 1, (u2 T.1 121 3 (T.1 121 3 + 1), T.2)), ⟨⟨hlt, hs, (TS_u2 ht 3 _).w (by decide), ?_, (m_o T (T.1 121 3 + 1) (show 4 ≠ 3 by decide)).trans h4⟩, by show len - (i + 1) < len - i; omega⟩, rfl, rfl, trivial⟩)
        show u2 T.1 121 3 (T.1 121 3 + 1) 121 3 = nI (i + 1)
        rw [u2_s, h3, nI_1]
      · rw [if_neg (fun x => z ((isLe_iff _).mpr (e.mp x)))]
        have z' : isLe (g i) = false := by simpa using z
        rw [rend_no (fun _ => z')] at hs
        exact And.intro (fun _ => ⟨rfl, h T ht h4 (by rw [h3, ← hs])⟩) (fun x => absurd rfl x)
  · refine ⟨⟨Nat.le_of_ble_eq_true rfl, Nat.le_of_ble_eq_true rfl, Nat.le_of_ble_eq_true rfl⟩, e_skip S hg ha hal (fun S' ht h3 => ⟨t8, t8, rfl, rfl, (rend isBl g len a, (u2 S'.1 121 4 (S'.1 121 3), S'.2)), ⟨rl.2, rfl, (TS_u2 ht 4 _).w (by decide), (m_o S' (S'.1 121 3) (show 3 ≠ 4 by decide)).trans h3, (m_s S' 4 (S'.1 121 3)).trans h3⟩, rfl, rfl, trivial⟩)⟩
