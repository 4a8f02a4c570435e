def NW (U : State) : Prop := ∀ w ∈ ngW, va_Nw w U
def strT : List (String × Nat × String) := [("ProcessDesk$Tape", 82, "dept"), ("ProcessDesk$Tape", 91, "mat"), ("ProcessDesk$Tape", 96, "product"), ("ProcessDesk$Tape", 101, "store"), ("ProcessDesk$Tape", 146, "back"), ("ProcessDesk$Tape", 171, "by"), ("ProcessDesk$Tape", 178, "first"), ("ProcessDesk$Tape", 180, "average"), ("ProcessDeskModel", 134, "dept"), ("ProcessDeskModel", 139, "mat"), ("ProcessDeskModel", 144, "product"), ("ProcessDeskModel", 153, "store"), ("ProcessDeskModel", 128, "back"), ("ProcessDeskModel", 132, "by"), ("ProcessDeskModel", 113, "first"), ("ProcessDeskModel", 119, "average"), ("ProcessDesk", 373, "a number that is none such"), ("ProcessDesk", 378, "not as things stand"), ("ProcessDesk", 348, "no such department"), ("ProcessDesk", 361, "no such kind of cost"), ("ProcessDesk", 363, "no such product"), ("ProcessDesk", 369, "no such layer")]
def strB (i : Nat) : List Int32 := match i with
  | 0 => [100, 101, 112, 116]
  | 1 => [109, 97, 116]
  | 2 => [112, 114, 111, 100, 117, 99, 116]
  | 3 => [115, 116, 111, 114, 101]
  | 4 => [98, 97, 99, 107]
  | 5 => [98, 121]
  | 6 => [102, 105, 114, 115, 116]
  | 7 => [97, 118, 101, 114, 97, 103, 101]
  | 8 => [100, 101, 112, 116]
  | 9 => [109, 97, 116]
  | 10 => [112, 114, 111, 100, 117, 99, 116]
  | 11 => [115, 116, 111, 114, 101]
  | 12 => [98, 97, 99, 107]
  | 13 => [98, 121]
  | 14 => [102, 105, 114, 115, 116]
  | 15 => [97, 118, 101, 114, 97, 103, 101]
  | _ => []
def ncT : List (String × String) := [("java/lang/IllegalStateException", "java/lang/IllegalArgumentException"), ("java/lang/IllegalArgumentException", "java/lang/IllegalStateException"), ("java/util/NoSuchElementException", "java/lang/IllegalArgumentException"), ("java/util/NoSuchElementException", "java/lang/IllegalStateException"), ("java/lang/IllegalArgumentException", "java/util/NoSuchElementException"), ("java/lang/IllegalStateException", "java/util/NoSuchElementException")]
def AB (b : Nat) : Nat → Prop := fun q => b ≤ q
def EVs (b : Nat) (sa adV : Nat → Nat) (U : State) (H : Heap) (i : Nat) : Prop := va_O "java/lang/String" (sa i) (AB b) U H ∧ va_OF "java/lang/String" "coder" "B" (.int 0) (sa i) (AB b) U H ∧ va_OF "java/lang/String" "value" "[B" (.ref (adV i)) (sa i) (AB b) U H ∧ va_T .byte (adV i) (strB i).length (fun j => .int ((strB i).getD j 0)) (AB b) U H
def EV (b : Nat) (sa adV : Nat → Nat) (U : State) (H : Heap) : Prop :=
  (∀ (i : Nat) (q : String × Nat × String), strT[i]? = some q → vk_R q.1 q.2.1 q.2.2 (sa i) U) ∧ (∀ i, i < 16 → EVs b sa adV U H i) ∧ va_Z "java/lang/String" "COMPACT_STRINGS" "Z" (.int 1) (AB b) U H ∧ va_Zq "jdk/internal/util/Preconditions" "SIOOBE_FORMATTER" "Ljava/util/function/BiFunction;" (AB b) U H ∧ vx_Zq Bundle.tN "UNASSIGNED_STACK" Bundle.steD (AB b) U H ∧ vx_Zq Bundle.tN "SUPPRESSED_SENTINEL" Bundle.listD (AB b) U H ∧ ∀ q ∈ ncT, va_Nc q.1 q.2 U
theorem EV.go {b : Nat} {sa adV : Nat → Nat} {u U : State} {h H : Heap} (E : EV b sa adV u h) (hW : u.WarmedH U.vm) (hq : ∀ a : Nat, a < h.size → ¬ AB b a → H[a]? = h[a]?) : EV b sa adV U H := by
  obtain ⟨h1, h2, h3, h4, h5, h6, h7⟩ := E
  have hA := hW.alike
  refine ⟨fun i q hi => (h1 i q hi).warm hW, fun i hi => ?_, (h3.moved hA).kept hq, (va_Zq.moved hA h4).kept hq, (vx_Zq.moved hA h5).kept hq, (vx_Zq.moved hA h6).kept hq, fun q hm => (h7 q hm).moved hA⟩
  obtain ⟨g1, g2, g3, g4⟩ := h2 i hi
  exact ⟨(g1.moved hA).kept hq, (g2.moved hA).kept hq, (g3.moved hA).kept hq, (g4.moved hA).kept hq⟩
theorem NW.go {u U : State} (N : NW u) (hW : u.WarmedH U.vm) : NW U := by
  intro w hw
  have h := N w hw
  have hg := (List.mem_filter.mp hw).2
  cases w <;> first | exact va_Nw.warmF hW h | exact va_Nw.warmM hW h | exact va_Nw.warmD hW h | exact va_Nw.warmC hW h | (simp [isNG] at hg)
/-- what a method's start is told -/
def PR (N b : Nat) (D : va_G) (cA sa adV : Nat → Nat) (S : Mem) (U : State) : Prop := MM N b D cA S U.heap ∧ va_K D vwCl (tysW cA) U ∧ NW U ∧ EV b sa adV U U.heap ∧ b ≤ U.heap.size
theorem PR.blind {N b : Nat} {D : va_G} {cA sa adV : Nat → Nat} {S : Mem} {av : List Value} : FrameBlind (va_Pc av (PR N b D cA sa adV S)) := by
  intro a U g mk h
  obtain ⟨h0, h1, h2, h3, h4, h5⟩ := h
  have hW : U.WarmedH (U.calling g mk a).vm := State.WarmedH.refl U
  exact ⟨h0, h1, va_K.moved (u := U) (U := U.calling g mk a) (Vm.Alike.refl U.vm) h2, NW.go (U := U.calling g mk a) h3 hW, EV.go (U := U.calling g mk a) h4 hW (fun _ _ _ => rfl), h5⟩
theorem wl_good : ∀ (ci : Nat) (q : vw_C), vwCl[ci]? = some q → ∀ w ∈ u_ws q.1 q.2.1 q.2.2, w ∈ wG := by
  intro ci q h w hw
  refine List.mem_filter.mpr ⟨wl_words ci q h w hw, ?_⟩
  obtain ⟨k, -, rfl⟩ := List.mem_map.mp hw
  unfold u_lay
  split <;> rfl