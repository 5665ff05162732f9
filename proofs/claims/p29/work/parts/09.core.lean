/-! A small heap: cells by number; the machine's cell of number i lies at 'gad g i'. 'EE K a pc L S h': from this place of the method, with these locals, this operand stack and this small heap, the walk comes to its end. -/
abbrev MC : Type := (Nat × vp_A) ⊕ (Nat × List Value)
abbrev MH : Type := List MC
def mv (ad : Nat → Nat) : Value → Value
  | .ref a => .ref (ad a)
  | v => v
def ma (ad : Nat → Nat) (a : vp_A) : vp_A := (a.1, match a.2 with
  | .inr (.inr (.inr (.inr f))) => .inr (.inr (.inr (.inr (fun j => (f j).map ad))))
  | x => x)
def mcl (ad : Nat → Nat) (cA : Nat → ClassId) (c : MC) : va_E := match c with
  | .inl p => .inl (cA p.1, ma ad p.2)
  | .inr o => .inr (o.1, o.2.map (mv ad))
def mw (ad : Nat → Nat) (cA : Nat → ClassId) (h : MH) : va_W := h.mapIdx (fun i c => (ad i, mcl ad cA c))
theorem mw_get {ad : Nat → Nat} {cA : Nat → ClassId} {h : MH} {k : Nat} {c : MC} (e : h[k]? = some c) : (mw ad cA h)[k]? = some (ad k, mcl ad cA c) := by
  simp [mw, e]
theorem mw_at {ad : Nat → Nat} {cA : Nat → ClassId} {h : MH} {k : Nat} {q : Nat × va_E} (e : (mw ad cA h)[k]? = some q) : ∃ c, h[k]? = some c ∧ q = (ad k, mcl ad cA c) := by
  simp only [mw, List.getElem?_mapIdx, Option.map_eq_some_iff] at e
  obtain ⟨c, e1, e2⟩ := e
  exact ⟨c, e1, e2.symm⟩
theorem mw_set {ad : Nat → Nat} {cA : Nat → ClassId} {h : MH} {k : Nat} {c : MC} : (mw ad cA h).set k (ad k, mcl ad cA c) = mw ad cA (h.set k c) := by
  apply List.ext_getElem?
  intro i
  simp only [mw, List.getElem?_set, List.getElem?_mapIdx, List.length_mapIdx]
  by_cases hi : k = i
  · subst hi
    by_cases hl : k < h.length
    · simp [hl]
    · simp [hl]
  · simp [hi]
theorem mw_push {ad : Nat → Nat} {cA : Nat → ClassId} {h : MH} {c : MC} : mw ad cA h ++ [(ad h.length, mcl ad cA c)] = mw ad cA (h ++ [c]) := by
  simp [mw, List.mapIdx_append]
theorem mw_len {ad : Nat → Nat} {cA : Nat → ClassId} {h : MH} : (mw ad cA h).length = h.length := by simp [mw]
abbrev Gx : Type := Launch × (Nat → Nat) × Nat × (Nat × (Nat → Int32)) × va_G × (Nat → ClassId)
abbrev gl (g : Gx) : Launch := g.1
abbrev gad (g : Gx) : Nat → Nat := g.2.1
abbrev gb (g : Gx) : Nat := g.2.2.1
abbrev gsc (g : Gx) : Nat × (Nat → Int32) := g.2.2.2.1
abbrev gD (g : Gx) : va_G := g.2.2.2.2.1
abbrev gcA (g : Gx) : Nat → ClassId := g.2.2.2.2.2
def gA (g : Gx) : Nat → Prop := fun q => gb g ≤ q
def gtys (cA : Nat → ClassId) : List (ClassId × FieldType) := [(cA 0, .int), (cA 1, .int), (cA 2, .object "RailSequence$Plant")]
def roL : Nat → Int32 := fun j => ([100, 1, 1, 50, 0, 1, 1] : List Int32).getD j 0
def roM : Nat → Int32 := fun j => ([5000, 1000, 1000, 100, 50, 200, 4] : List Int32).getD j 0
def gro (g : Gx) (i : Nat) : Nat × (Nat → Int32) := match i with
  | 0 => gsc g
  | 1 => (7, roL)
  | _ => (7, roM)
abbrev RO : Nat := 1000000
/-- words that hold beside those of AW -/
def XNest : Cond → Bool
  | .fieldLinkNest .. => true
  | .methodLinkNest .. => true
  | .declares .. => true
  | .castable .. => true
  | _ => false
def XW : List Cond := tables_1.filter XNest
theorem XW_warm {w : Cond} (h : XNest w = true) {s U : State} (hW : s.WarmedH U.vm) (hZ : va_Nw w s) : va_Nw w U := by
  cases w <;> first | exact va_Nw.warmF hW hZ | exact va_Nw.warmM hW hZ | exact va_Nw.warmD hW hZ | exact va_Nw.warmC hW hZ | (simp [XNest] at h; done)
/-- an array of ints that nobody writes -/
def vY (b L : Nat) (xs : Nat → Int32) (U : State) (H : Heap) : Prop := ∃ scr : Cell, H[b]? = some scr ∧ U.isArrayOf scr .int ∧ scr.vm ≠ .unknown ∧ L ≤ scr.slots.size ∧ scr.slots.size.toInt32 = Int32.ofNat L ∧ ∀ j : Nat, j < L → scr.slots[j]? = some (.int (xs j))
theorem vY.kept {b L : Nat} {xs : Nat → Int32} {U : State} {H H1 : Heap} (h : vY b L xs U H) (hq : H1[b]? = H[b]?) : vY b L xs U H1 := by
  obtain ⟨scr, h1, h2⟩ := h
  exact ⟨scr, by rw [hq]; exact h1, h2⟩
theorem vY.moved {b L : Nat} {xs : Nat → Int32} {u U : State} {H : Heap} (hvm : u.vm.Alike U.vm) (h : vY b L xs u H) : vY b L xs U H := by
  obtain ⟨scr, h1, h2, h3⟩ := h
  exact ⟨scr, h1, State.isArrayOf_alike hvm h2, h3⟩
/-- what holds of every state that a method of ours is begun in -/
def Bg (g : Gx) (U : State) : Prop :=
  va_K (gD g) vwCl (gtys (gcA g)) U ∧ (∀ i, i < 3 → vY (gad g (RO + i)) (gro g i).1 (gro g i).2 U U.heap ∧ gad g (RO + i) < gb g) ∧ gb g ≤ U.heap.size ∧
  va_Z "RailSequence" "LEAST" "[I" (.ref (gad g (RO + 1))) (gA g) U U.heap ∧ va_Z "RailSequence" "MOST" "[I" (.ref (gad g (RO + 2))) (gA g) U U.heap ∧
  True ∧ True ∧
  (∀ i, i < 1000 → gad g i = gb g + i) ∧ True ∧ True ∧ (∀ w ∈ XW, va_Nw w U) ∧ True ∧ va_AO "RailSequence$Plant" U
theorem Bg.to {g : Gx} {s U : State} (h : Bg g s) (hW : s.WarmedH U.vm) (hz : s.heap.size ≤ U.heap.size) (hk : ∀ q : Nat, q < s.heap.size → ¬ gA g q → U.heap[q]? = s.heap[q]?) : Bg g U := by
  obtain ⟨h1, h2, h3, h4, h5, h6, h7, h8, h9, h10, h11, h12, h13⟩ := h
  have hvm := hW.alike
  refine ⟨va_K.moved hvm h1, fun i hi => ⟨?_, (h2 i hi).2⟩, Nat.le_trans h3 hz, (h4.moved hvm).kept hk, (h5.moved hvm).kept hk, trivial, trivial, h8, trivial, trivial, fun w hw => XW_warm (List.mem_filter.mp hw).2 hW (h11 w hw), h12, h13.moved hvm⟩
  · obtain ⟨a1, a2⟩ := h2 i hi
    refine (a1.moved hvm).kept (hk _ (Nat.lt_of_lt_of_le a2 h3) (fun z => ?_))
    exact absurd z (Nat.not_le.mpr a2)
/-- the small heap and the machine's -/
def Rel (g : Gx) (fr : Bool) (h : MH) (H : Heap) : Prop :=
  va_P (gD g) vwCl (mw (gad g) (gcA g) h) H ∧ gb g + h.length ≤ H.size ∧ (fr = true → H.size = gb g + h.length) ∧ h.length ≤ 1000
theorem mw_D {g : Gx} (h8 : ∀ i, i < 1000 → gad g i = gb g + i) {h : MH} (hl : h.length ≤ 1000) : va_D (gA g) (mw (gad g) (gcA g) h) := by
  have key : ∀ (k : Nat) (q : Nat × va_E), (mw (gad g) (gcA g) h)[k]? = some q → k < h.length ∧ q.1 = gb g + k := by
    intro k q hq
    obtain ⟨c, e1, rfl⟩ := mw_at hq
    have hk : k < h.length := (List.getElem?_eq_some_iff.mp e1).1
    exact ⟨hk, h8 k (by omega)⟩
  refine ⟨fun i j p q hi hj e => ?_, fun k q hq => ?_⟩
  · have a := (key i p hi).2
    have b := (key j q hj).2
    omega
  · rw [(key k q hq).2]
    exact Nat.le_add_right _ _
/-- where a walk stands: the claim's own words, the machine's, the method's, what its end must meet -/
abbrev Cx : Type := Gx × (Program × Env × Room × State) × (MethodId × Array Value × List Frame × Method × Code) × (State → Prop)
def WW (K : Cx) (H : Heap) (locs : List Loc) (cells slots : Nat) (g : JFrame) : Prop :=
  W K.2.1.1 (gl K.1) K.2.1.2.1 K.2.1.2.2.1 K.2.1.2.2.2 K.2.2.1.1 K.2.2.1.2.1 K.2.2.1.2.2.1 K.2.2.1.2.2.2.1 K.2.2.1.2.2.2.2 H locs cells slots K.2.2.2 g
abbrev kR (K : Cx) : Room := K.2.1.2.2.1
abbrev ks (K : Cx) : State := K.2.1.2.2.2
abbrev km (K : Cx) : MethodId := K.2.2.1.1
abbrev kargs (K : Cx) : Array Value := K.2.2.1.2.1
abbrev kmeth (K : Cx) : Method := K.2.2.1.2.2.2.1
abbrev kc (K : Cx) : Code := K.2.2.1.2.2.2.2
/-- the locals -/
def LR (ad : Nat → Nat) (nL : Nat) (L : List (Option Value)) (ls : Array Slot) : Prop :=
  ls.size = nL ∧ L.length = nL ∧ lv_wf ls ∧ ∀ (i : Nat) (v : Value), L[i]? = some (some v) → ls[i]? = some (.val (mv ad v))
def EE (K : Cx) (a : Bool × Nat × Nat) (pc : Nat) (L : List (Option Value)) (S : List Value) (h : MH) : Prop :=
  ∀ (H : Heap) (ls : Array Slot) (locs : List Loc), Rel K.1 a.1 h H → va_S (gA K.1) (ks K).heap H locs → LR (gad K.1) (kc K).maxLocals L ls →
    WW K H locs a.2.1 a.2.2 (F0 (km K) pc ls (S.map (mv (gad K.1))))
/-- the facts of the method that is walked: its class, its code, its locals, its room -/
def Ok (K : Cx) (own : String) (cc : ByteArray) (nL : Nat) (R : Room) : Prop :=
  K.2.1.1.tables.exec = Jvm.exec ∧ (kc K).code = cc ∧ (kc K).maxLocals = nL ∧ (ks K).vm.findClass own = some (km K).cls ∧ (∀ w ∈ AW, w.before (kargs K) (ks K) = true) ∧ Bg K.1 (ks K) ∧ kR K = R ∧ (kmeth K).locks = false
variable {K : Cx} {own : String} {cc : ByteArray} {nL : Nat} {R : Room} {a : Bool × Nat × Nat} {pc : Nat} {L : List (Option Value)} {S : List Value} {h : MH}
theorem Ok.x (O : Ok K own cc nL R) : K.2.1.1.tables.exec = Jvm.exec := O.1
theorem Ok.b (O : Ok K own cc nL R) : (kc K).code = cc := O.2.1
theorem Ok.ow (O : Ok K own cc nL R) : (ks K).vm.findClass own = some (km K).cls := O.2.2.2.1
theorem Ok.ws (O : Ok K own cc nL R) : ∀ w ∈ AW, w.before (kargs K) (ks K) = true := O.2.2.2.2.1
theorem Ok.bg (O : Ok K own cc nL R) : Bg K.1 (ks K) := O.2.2.2.2.2.1
theorem Ok.k (O : Ok K own cc nL R) : va_K (gD K.1) vwCl (gtys (gcA K.1)) (ks K) := O.bg.1
theorem Ok.A (O : Ok K own cc nL R) : ∀ q, (ks K).heap.size ≤ q → gA K.1 q := fun _ z => Nat.le_trans O.bg.2.2.1 z
theorem Ok.D (O : Ok K own cc nL R) {h : MH} (hl : h.length ≤ 1000) : va_D (gA K.1) (mw (gad K.1) (gcA K.1) h) := mw_D O.bg.2.2.2.2.2.2.2.1 hl
/-! locals -/
def lvl (ad : Nat → Nat) (L : List (Option Value)) : List (Nat × Value) := (List.range L.length).filterMap (fun i => match L[i]? with
  | some (some v) => some (i, mv ad v)
  | _ => none)
theorem lvl_in {ad : Nat → Nat} {L : List (Option Value)} {i : Nat} {v : Value} (h : L[i]? = some (some v)) : (i, mv ad v) ∈ lvl ad L := by
  refine List.mem_filterMap.mpr ⟨i, List.mem_range.mpr (List.getElem?_eq_some_iff.mp h).1, ?_⟩
  rw [h]
theorem lvl_of {ad : Nat → Nat} {L : List (Option Value)} {q : Nat × Value} (h : q ∈ lvl ad L) : ∃ v, L[q.1]? = some (some v) ∧ q.2 = mv ad v := by
  obtain ⟨i, -, h2⟩ := List.mem_filterMap.mp h
  split at h2
  · next v hv =>
    cases h2
    exact ⟨v, hv, rfl⟩
  · cases h2
theorem LR.has {ad : Nat → Nat} {nL : Nat} {L : List (Option Value)} {ls : Array Slot} (h : LR ad nL L ls) : lv_has ls nL (lvl ad L) := by
  refine ⟨h.1, h.2.2.1, fun q hq => ?_⟩
  obtain ⟨v, e1, e2⟩ := lvl_of hq
  rw [e2]
  exact h.2.2.2 _ _ e1
/-- the place before is not the first half of a long -/
def pok (L : List (Option Value)) (i : Nat) : Bool := match i with
  | 0 => true
  | j + 1 => match L[j]? with
    | some (some w) => w.category != 2
    | _ => true
theorem mv_cat {ad : Nat → Nat} (v : Value) : (mv ad v).category = v.category := by cases v <;> rfl
theorem LR.set1 {ad : Nat → Nat} {nL : Nat} {L : List (Option Value)} {ls ls' : Array Slot} {i : Nat} {v : Value} (h : LR ad nL L ls) (hi : i < nL) (hp : pok L i = true)
    (h' : lv_has ls' nL ((i, mv ad v) :: (lvl ad L).filter (fun q => !(q.1 == i) && !(q.1 + 1 == i && q.2.category == 2)))) : LR ad nL (L.set i (some v)) ls' := by
  refine ⟨h'.1, by rw [List.length_set]; exact h.2.1, h'.2.1, fun j w hj => ?_⟩
  rw [List.getElem?_set] at hj
  by_cases hij : i = j
  · subst hij
    rw [if_pos rfl] at hj
    split at hj
    · cases hj
      exact h'.2.2 _ List.mem_cons_self
    · cases hj
  · rw [if_neg hij] at hj
    refine h'.2.2 (j, mv ad w) (List.mem_cons_of_mem _ (List.mem_filter.mpr ⟨lvl_in hj, ?_⟩))
    simp only [Bool.and_eq_true, Bool.not_eq_true', beq_eq_false_iff_ne, ne_eq, Bool.and_eq_false_iff]
    refine ⟨fun z => hij z.symm, ?_⟩
    by_cases hj1 : j + 1 = i
    · right
      subst hj1
      simp only [pok, hj] at hp
      rw [mv_cat]
      simpa using hp
    · exact Or.inl hj1
theorem LR.set2 {ad : Nat → Nat} {nL : Nat} {L : List (Option Value)} {ls ls' : Array Slot} {i : Nat} {v : Value} (h : LR ad nL L ls) (hi : i + 1 < nL) (hp : pok L i = true)
    (h' : lv_has ls' nL ((i, mv ad v) :: (lvl ad L).filter (fun q => !(q.1 == i) && (!(q.1 == i + 1) && !(q.1 + 1 == i && q.2.category == 2))))) : LR ad nL ((L.set i (some v)).set (i + 1) none) ls' := by
  refine ⟨h'.1, by rw [List.length_set, List.length_set]; exact h.2.1, h'.2.1, fun j w hj => ?_⟩
  rw [List.getElem?_set] at hj
  by_cases hij1 : i + 1 = j
  · rw [if_pos hij1] at hj
    split at hj <;> cases hj
  rw [if_neg hij1, List.getElem?_set] at hj
  by_cases hij : i = j
  · subst hij
    rw [if_pos rfl] at hj
    split at hj
    · cases hj
      exact h'.2.2 _ List.mem_cons_self
    · cases hj
  · rw [if_neg hij] at hj
    refine h'.2.2 (j, mv ad w) (List.mem_cons_of_mem _ (List.mem_filter.mpr ⟨lvl_in hj, ?_⟩))
    simp only [Bool.and_eq_true, Bool.not_eq_true', beq_eq_false_iff_ne, ne_eq, Bool.and_eq_false_iff]
    refine ⟨fun z => hij z.symm, fun z => hij1 z.symm, ?_⟩
    by_cases hj1 : j + 1 = i
    · right
      subst hj1
      simp only [pok, hj] at hp
      rw [mv_cat]
      simpa using hp
    · exact Or.inl hj1
/-- fewer known locals -/
def subL : List (Option Value) → List (Option Value) → Prop
  | [], [] => True
  | none :: l, _ :: l' => subL l l'
  | some v :: l, x :: l' => x = some v ∧ subL l l'
  | _, _ => False
theorem subL_get (L' : List (Option Value)) : ∀ L : List (Option Value), subL L' L → L'.length = L.length ∧ ∀ (i : Nat) (v : Value), L'[i]? = some (some v) → L[i]? = some (some v) := by
  induction L' with
  | nil =>
    intro L h
    cases L with
    | nil => exact ⟨rfl, fun i v h => by simp at h⟩
    | cons x l => simp [subL] at h
  | cons y l ih =>
    intro L h
    cases L with
    | nil => cases y <;> simp [subL] at h
    | cons x l' =>
      cases y with
      | none =>
        obtain ⟨e, f⟩ := ih l' (show subL l l' from h)
        refine ⟨by simp [e], fun i v hv => ?_⟩
        cases i with
        | zero => simp at hv
        | succ i => simpa using f i v (by simpa using hv)
      | some w =>
        obtain ⟨hx, h2⟩ := (show x = some w ∧ subL l l' from h)
        subst hx
        obtain ⟨e, f⟩ := ih l' h2
        refine ⟨by simp [e], fun i v hv => ?_⟩
        cases i with
        | zero => simpa using hv
        | succ i => simpa using f i v (by simpa using hv)
theorem E_sub {L' : List (Option Value)} (hs : subL L' L) (k : EE K a pc L' S h) : EE K a pc L S h := by
  intro H ls locs hR hS hL
  obtain ⟨e, f⟩ := subL_get _ _ hs
  exact k H ls locs hR hS ⟨hL.1, e.trans hL.2.1, hL.2.2.1, fun i v hv => hL.2.2.2 i v (f i v hv)⟩
theorem E_widen {cs ss : Nat} (h1 : a.2.1 ≤ cs) (h2 : a.2.2 ≤ ss) (k : EE K (a.1, cs, ss) pc L S h) : EE K a pc L S h := by
  intro H ls locs hR hS hL
  exact W.widen h1 h2 (k H ls locs hR hS hL)
