/-! A small heap: cells by number; the machine's cell of number i lies at 'gad g i'. 'EE K a pc L S h': from this place of the method, with these locals, this operand stack and this small heap, the walk comes to its end. -/
abbrev MC : Type := (Nat × vp_A) ⊕ (Nat × List Value)
abbrev MH : Type := List MC
def mv (ad : Nat → Nat) : Value → Value
  | .ref a => .ref (ad a)
  | v => v
def ma (ad : Nat → Nat) (a : vp_A) : vp_A := (a.1, match a.2 with
  | .inr (.inr (.inr (.inr f))) => .inr (.inr (.inr (.inr (fun j => (f j).map ad))))
  | x => x)
def mcl (ad : Nat → Nat) (cA : Nat → ClassId) (c : MC) : va_E := match c with
  | .inl p => .inl (cA p.1, ma ad p.2)
  | .inr o => .inr (o.1, o.2.map (mv ad))
def mw (ad : Nat → Nat) (cA : Nat → ClassId) (h : MH) : va_W := h.mapIdx (fun i c => (ad i, mcl ad cA c))
theorem mw_get {ad : Nat → Nat} {cA : Nat → ClassId} {h : MH} {k : Nat} {c : MC} (e : h[k]? = some c) : (mw ad cA h)[k]? = some (ad k, mcl ad cA c) := by
  simp [mw, e]
theorem mw_at {ad : Nat → Nat} {cA : Nat → ClassId} {h : MH} {k : Nat} {q : Nat × va_E} (e : (mw ad cA h)[k]? = some q) : ∃ c, h[k]? = some c ∧ q = (ad k, mcl ad cA c) := by
  simp only [mw, List.getElem?_mapIdx, Option.map_eq_some_iff] at e
  obtain ⟨c, e1, e2⟩ := e
  exact ⟨c, e1, e2.symm⟩
theorem mw_set {ad : Nat → Nat} {cA : Nat → ClassId} {h : MH} {k : Nat} {c : MC} : (mw ad cA h).set k (ad k, mcl ad cA c) = mw ad cA (h.set k c) := by
  apply List.ext_getElem?
  intro i
  simp only [mw, List.getElem?_set, List.getElem?_mapIdx, List.length_mapIdx]
  by_cases hi : k = i
  · subst hi
    by_cases hl : k < h.length
    · simp [hl]
    · simp [hl]
  · simp [hi]
theorem mw_push {ad : Nat → Nat} {cA : Nat → ClassId} {h : MH} {c : MC} : mw ad cA h ++ [(ad h.length, mcl ad cA c)] = mw ad cA (h ++ [c]) := by
  simp [mw, List.mapIdx_append]
theorem mw_len {ad : Nat → Nat} {cA : Nat → ClassId} {h : MH} : (mw ad cA h).length = h.length := by simp [mw]
abbrev Gx : Type := Launch × (Nat → Nat) × Nat × (Nat × (Nat → Int32)) × va_G × (Nat → ClassId)
abbrev gl (g : Gx) : Launch := g.1
abbrev gad (g : Gx) : Nat → Nat := g.2.1
abbrev gb (g : Gx) : Nat := g.2.2.1
abbrev gsc (g : Gx) : Nat × (Nat → Int32) := g.2.2.2.1
abbrev gD (g : Gx) : va_G := g.2.2.2.2.1
abbrev gcA (g : Gx) : Nat → ClassId := g.2.2.2.2.2
def gA (g : Gx) : Nat → Prop := fun q => gb g ≤ q
def gtys (cA : Nat → ClassId) : List (ClassId × FieldType) := [(cA 0, .int), (cA 1, .long), (cA 2, .object "RailSequence$Plant")]
def roL : Nat → Int32 := fun j => ([100, 1, 1, 50, 0, 1, 1] : List Int32).getD j 0
def roM : Nat → Int32 := fun j => ([5000, 1000, 1000, 100, 50, 200, 4] : List Int32).getD j 0
def gro (g : Gx) (i : Nat) : Nat × (Nat → Int32) := match i with
  | 0 => gsc g
  | 1 => (7, roL)
  | _ => (7, roM)
abbrev RO : Nat := 1000000
/-- the strings that exceptions are made with; pairs of classes of which the first is not the second's; words that hold beside AW's -/
def XS : List (Nat × String) := [(40, "target, rise or fall is out of range"), (49, "needs has a bit of no rail"), (57, "there are 8 rails"), (72, "no such rail or property"), (75, "value is out of range"), (84, "no such rail"), (89, "needs has a bit of no earlier rail"), (94, "the rail is neither off nor failed"), (99, "residue is out of range"), (104, "rails has a bit of no rail"), (119, "the rail is not wanted"), (124, "ticks is out of range"), (129, "how is not 0 to 2"), (137, "the number of the tick would be above 20000"), (143, "code is not 33 to 126"), (148, "the buffer has 60 characters"), (157, "the buffer is not a complete text"), (162, "too many rails, or a needed rail is not earlier"), (171, "there is no saved state"), (173, "what is not 0 to 18"), (178, "what is not 0 to 3"), (185, "back is not 0 to 15, or what is not 0 to 3"), (200, "what is not 0 to 9"), (214, "ticks or what is out of range")]
def XN : List (String × String) := [("java/lang/IllegalStateException", "java/lang/IllegalArgumentException"), ("java/lang/IllegalArgumentException", "java/lang/IllegalStateException"), ("java/lang/IllegalArgumentException", "java/lang/IndexOutOfBoundsException"), ("java/lang/IllegalStateException", "java/lang/IndexOutOfBoundsException")]
def XNest : Cond → Bool
  | .fieldLinkNest .. => true
  | .methodLinkNest .. => true
  | .declares .. => true
  | .castable .. => true
  | _ => false
def XW : List Cond := tables_1.filter XNest
theorem XW_warm {w : Cond} (h : XNest w = true) {s U : State} (hW : s.WarmedH U.vm) (hZ : va_Nw w s) : va_Nw w U := by
  cases w <;> first | cases h | exact va_Nw.warmF hW hZ | exact va_Nw.warmM hW hZ | exact va_Nw.warmD hW hZ | exact va_Nw.warmC hW hZ
/-- what holds of every state that a method of ours is begun in -/
def Bg (g : Gx) (U : State) : Prop :=
  va_K (gD g) vwCl (gtys (gcA g)) U ∧ (∀ i, i < 3 → va_X (gad g (RO + i)) (gro g i).1 (gro g i).2 U U.heap ∧ gad g (RO + i) < gb g) ∧ gb g ≤ U.heap.size ∧
  va_Z "RailSequence" "LEAST" "[I" (.ref (gad g (RO + 1))) (gA g) U U.heap ∧ va_Z "RailSequence" "MOST" "[I" (.ref (gad g (RO + 2))) (gA g) U U.heap ∧
  vx_Zq Bundle.tN "UNASSIGNED_STACK" Bundle.steD (gA g) U U.heap ∧ vx_Zq Bundle.tN "SUPPRESSED_SENTINEL" Bundle.listD (gA g) U U.heap ∧
  (∀ i, i < 1000 → gad g i = gb g + i) ∧ (∀ q ∈ XS, ∃ sa, vk_R "RailSequence" q.1 q.2 sa U) ∧ (∀ q ∈ XN, va_Nc q.1 q.2 U) ∧ (∀ w ∈ XW, va_Nw w U) ∧ (gl g).stackTraces = false
