/-! ===== what holds between calls ===== -/
abbrev HL : Type := List (Nat → Int64)
def CI (S : Mem) (tp : Nat) (sg : Nat → Int32) (fp : Int32) (r : Nat → Int32) (w : Nat → Int64) (H : HL) : Prop := S.1 0 0 = fp ∧ (∀ i, i < 3 → S.1 0 (1 + i) = r i) ∧ (S.1 121 1 = nI tp ∧ tp ≤ 400 ∧ ∀ i, i < tp → S.1 122 i = sg i) ∧ (∃ n m ns, deskR S w n m ns) ∧ hisC S H
def MI (S : Mem) (tp : Nat) (sg : Nat → Int32) (fp : Int32) (r : Nat → Int32) (w : Nat → Int64) (H : HL) : Prop := S.1 138 5 = fp ∧ (∀ i, i < 3 → S.1 139 i = r i) ∧ (S.1 138 2 = nI tp ∧ ∀ i, i < tp → ¬ S.1 140 i < 0 ∧ (sg i = S.1 140 i ∨ (128 ≤ S.1 140 i ∧ sg i < 0))) ∧ (∀ i, i < 754 → S.2 141 i = w i) ∧ hisM S H
/-- the class's part is as it was; the model's part is -/
def FC (S S' : Mem) : Prop := ∀ c, c < 138 ∨ 155 ≤ c → S'.1 c = S.1 c ∧ S'.2 c = S.2 c
def FM (S S' : Mem) : Prop := ∀ c, 138 ≤ c → S'.1 c = S.1 c ∧ S'.2 c = S.2 c
theorem FC.trans {S T U : Mem} (h : FC S T) (k : FC T U) : FC S U := fun c x => ⟨(k c x).1.trans (h c x).1, (k c x).2.trans (h c x).2⟩
theorem FM.trans {S T U : Mem} (h : FM S T) (k : FM T U) : FM S U := fun c x => ⟨(k c x).1.trans (h c x).1, (k c x).2.trans (h c x).2⟩
theorem FM.re {S : Mem} : FM S S := fun _ _ => ⟨rfl, rfl⟩
theorem FC.re {S : Mem} : FC S S := fun _ _ => ⟨rfl, rfl⟩
theorem CI.fc {S S' : Mem} {tp : Nat} {sg : Nat → Int32} {fp : Int32} {r : Nat → Int32} {w : Nat → Int64} {H : HL} (h : CI S tp sg fp r w H) (f : ∀ c, c < 138 → S'.1 c = S.1 c ∧ S'.2 c = S.2 c) : CI S' tp sg fp r w H := by
  obtain ⟨a, b, ⟨c1, c2, c3⟩, ⟨n, m, ns, d⟩, e⟩ := h
  refine ⟨by rw [(f 0 (by decide)).1]; exact a, fun i hi => by rw [(f 0 (by decide)).1]; exact b i hi, ⟨by rw [(f 121 (by decide)).1]; exact c1, c2, fun i hi => by rw [(f 122 (by decide)).1]; exact c3 i hi⟩, ⟨n, m, ns, d.same (sameDesk_of d.1.2.1 d.1.2.2.2.1 (fun c x y => f c (by omega)))⟩, e.move (f 101 (by decide)).1 (fun c x y => (f c (by omega)).2)⟩
theorem MI.fm {S S' : Mem} {tp : Nat} {sg : Nat → Int32} {fp : Int32} {r : Nat → Int32} {w : Nat → Int64} {H : HL} (h : MI S tp sg fp r w H) (f : ∀ c, 138 ≤ c → c < 155 → S'.1 c = S.1 c ∧ S'.2 c = S.2 c) : MI S' tp sg fp r w H := by
  obtain ⟨a, b, ⟨c1, c2⟩, d, ⟨e1, e2, e3⟩⟩ := h
  refine ⟨by rw [(f 138 (by decide) (by decide)).1]; exact a, fun i hi => by rw [(f 139 (by decide) (by decide)).1]; exact b i hi, ⟨by rw [(f 138 (by decide) (by decide)).1]; exact c1, fun i hi => by rw [(f 140 (by decide) (by decide)).1]; exact c2 i hi⟩, fun i hi => by rw [(f 141 (by decide) (by decide)).2]; exact d i hi, ⟨by rw [(f 138 (by decide) (by decide)).1]; exact e1, e2, fun i hi j hj => by rw [(f _ (by omega) (by omega)).2]; exact e3 i hi j hj⟩⟩
def bmp (r : Nat → Int32) (i : Nat) : Nat → Int32 := fun j => if j = i then r i + 1 else r j
theorem CI.ref {S : Mem} {tp : Nat} {sg : Nat → Int32} {fp : Int32} {r : Nat → Int32} {w : Nat → Int64} {H : HL} (h : CI S tp sg fp r w H) {i : Nat} (hi : i < 3) : CI (refC S i) tp sg fp (bmp r i) w H ∧ FM S (refC S i) := by
  have e : ∀ c, c ≠ 0 → (refC S i).1 c = S.1 c := fun c hc => u2_other S.1 _ _ hc
  obtain ⟨a, b, ⟨c1, c2, c3⟩, ⟨n, m, ns, d⟩, f⟩ := h
  refine ⟨⟨(u2_j S.1 0 0 _ (by omega)).trans a, fun j hj => ?_, ⟨by rw [e 121 (by decide)]; exact c1, c2, fun i hi => by rw [e 122 (by decide)]; exact c3 i hi⟩, ⟨n, m, ns, d.same (sameDesk_of d.1.2.1 d.1.2.2.2.1 (fun c x y => ⟨e c (by omega), rfl⟩))⟩, f.move (e 101 (by decide)) (fun _ _ _ => rfl)⟩, fun c hc => ⟨e c (by omega), rfl⟩⟩
  show u2 S.1 0 (1 + i) (S.1 0 (1 + i) + 1) 0 (1 + j) = bmp r i j
  unfold bmp
  by_cases z : j = i
  · subst z
    rw [u2_s, if_pos rfl, b j hj]
  · rw [u2_j _ _ _ _ (by omega), if_neg z, b j hj]
/-- the model with thrown at 0 -/
def th0 (S : Mem) : Mem := (u2 S.1 138 0 0, S.2)
theorem MI.thr {S : Mem} {tp : Nat} {sg : Nat → Int32} {fp : Int32} {r : Nat → Int32} {w : Nat → Int64} {H : HL} (h : MI S tp sg fp r w H) (v : Int32) : MI (u2 S.1 138 0 v, S.2) tp sg fp r w H ∧ FC S (u2 S.1 138 0 v, S.2) := by
  have e : ∀ c, c ≠ 138 → u2 S.1 138 0 v c = S.1 c := fun c hc => u2_other S.1 _ _ hc
  have k : ∀ j, j ≠ 0 → u2 S.1 138 0 v 138 j = S.1 138 j := fun j hj => u2_j S.1 _ _ _ hj
  obtain ⟨a, b, ⟨c1, c2⟩, d, ⟨e1, e2, e3⟩⟩ := h
  exact ⟨⟨(k 5 (by decide)).trans a, fun i hi => by show u2 S.1 138 0 v 139 i = r i; rw [e 139 (by decide)]; exact b i hi, ⟨(k 2 (by decide)).trans c1, fun i hi => by show ¬ u2 S.1 138 0 v 140 i < 0 ∧ (sg i = u2 S.1 138 0 v 140 i ∨ (128 ≤ u2 S.1 138 0 v 140 i ∧ sg i < 0)); rw [e 140 (by decide)]; exact c2 i hi⟩, d, ⟨(k 13 (by decide)).trans e1, e2, e3⟩⟩, fun c hc => ⟨e c (by omega), rfl⟩⟩
theorem MI.bad {S : Mem} {tp : Nat} {sg : Nat → Int32} {fp : Int32} {r : Nat → Int32} {w : Nat → Int64} {H : HL} (h : MI S tp sg fp r w H) (v : Int32) {i : Nat} (hi : i < 3) : MI (badM S v i) tp sg fp (bmp r i) w H ∧ FC S (badM S v i) ∧ (badM S v i).1 138 0 = v := by
  obtain ⟨h1, f1⟩ := h.thr v
  obtain ⟨a, b, ⟨c1, c2⟩, d, ⟨e1, e2, e3⟩⟩ := h1
  have e : ∀ c, c ≠ 139 → (badM S v i).1 c = u2 S.1 138 0 v c := fun c hc => u2_other _ _ _ hc
  refine ⟨⟨by rw [e 138 (by decide)]; exact a, fun j hj => ?_, ⟨by rw [e 138 (by decide)]; exact c1, fun j hj => by rw [e 140 (by decide)]; exact c2 j hj⟩, d, ⟨by rw [e 138 (by decide)]; exact e1, e2, e3⟩⟩, fun c hc => ⟨(e c (by omega)).trans (f1 c hc).1, rfl⟩, by rw [e 138 (by decide)]; exact u2_s _ _ _ _⟩
  show u2 (u2 S.1 138 0 v) 139 i (S.1 139 i + 1) 139 j = bmp r i j
  have bj := b j hj
  have bi := b i hi
  have eb : u2 S.1 138 0 v 139 = S.1 139 := u2_other _ _ _ (by decide)
  rw [show (u2 S.1 138 0 v, S.2).1 139 = S.1 139 from eb] at bj bi
  unfold bmp
  by_cases z : j = i
  · subst z
    rw [u2_s, if_pos rfl, bj]
  · rw [u2_j _ _ _ _ z, if_neg z, eb, bj]
/-- what is said of a row between calls, behind t calls -/
def rg (w : Nat → Int64) (i B : Nat) : Prop := ∃ v, v ≤ B ∧ w i = lN v
def WFe (w : Nat → Int64) (d t : Nat) : Prop :=
  (w (66 + 7 * d) = 0 ∧ (∀ j, 1 ≤ j → j < 4 → rg w (66 + 7 * d + j) 100000000) ∧ rg w (70 + 7 * d) 50000 ∧ rg w (71 + 7 * d) 50000 ∧ rg w (72 + 7 * d) 100) ∧
  (rg w (101 + 6 * d) 50000 ∧ rg w (102 + 6 * d) 100 ∧ ∀ j, j < 4 → rg w (103 + 6 * d + j) (100000000 * t)) ∧
  (rg w (131 + 55 * d) 50000 ∧ rg w (132 + 55 * d) 100 ∧ rg w (137 + 55 * d) 310000 ∧ rg w (143 + 55 * d) 50000 ∧ rg w (144 + 55 * d) 50000 ∧ rg w (145 + 55 * d) 100)
def WFs (w : Nat → Int64) (p t : Nat) : Prop := ∃ k, k ≤ 40 ∧ w (418 + 83 * p) = lN k ∧ (w 2 = 1 → k ≤ 1) ∧ (∀ i, i < k → (∃ u, 1 ≤ u ∧ u ≤ 260000 * t ∧ w (419 + 83 * p + 2 * i) = lN u) ∧ rg w (420 + 83 * p + 2 * i) (100000000 * t)) ∧ ∀ i, k ≤ i → i < 41 → w (419 + 83 * p + 2 * i) = 0 ∧ w (420 + 83 * p + 2 * i) = 0
def totD (w : Nat → Int64) (d : Nat) : Nat := natS (fun j => cnt w (103 + 6 * d + j)) 4 + natS (fun j => cnt w (66 + 7 * d + j)) 4
def totP (w : Nat → Int64) (p : Nat) : Nat := natS (fun i => cnt w (420 + 83 * p + 2 * i)) 40
def tot (w : Nat → Int64) (n m : Nat) : Nat := natS (totD w) n + natS (totP w) m
def WF (w : Nat → Int64) (t : Nat) : Prop := ∃ n m, WFt w n m ∧ pWhl w n m ∧ 0 < m ∧ rg w 3 t ∧ rg w 4 10000 ∧ (∀ d, d < n → WFe w d t) ∧ (∀ p, p < m → WFs w p t) ∧ tot w n m ≤ 100000000 * t
theorem rg.le {w : Nat → Int64} {i B C : Nat} (h : rg w i B) (hBC : B ≤ C) : rg w i C := by
  obtain ⟨v, a, b⟩ := h
  exact ⟨v, by omega, b⟩
theorem WF.up {w : Nat → Int64} {t t' : Nat} (h : WF w t) (ht : t ≤ t') : WF w t' := by
  obtain ⟨n, m, a, b, c, d, e, f, g, i⟩ := h
  refine ⟨n, m, a, b, c, d.le ht, e, fun k hk => ?_, fun p hp => ?_, by omega⟩
  · obtain ⟨f1, ⟨f2, f3, f4⟩, f5⟩ := f k hk
    exact ⟨f1, ⟨f2, f3, fun j hj => (f4 j hj).le (by omega)⟩, f5⟩
  · obtain ⟨k, g1, g2, g3, g4, g5⟩ := g p hp
    refine ⟨k, g1, g2, g3, fun i hi => ?_, g5⟩
    obtain ⟨⟨u, x, y, z⟩, q⟩ := g4 i hi
    exact ⟨⟨u, x, by omega, z⟩, q.le (by omega)⟩
