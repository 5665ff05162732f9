/-! contracts of methods over the small heap, and their calls -/
def Pm (g : Gx) (fr : Bool) (h : MH) (U : State) : Prop := Rel g fr h U.heap ∧ Bg g U
def Qm (g : Gx) (fr : Bool) (v : Option Value) (h : MH) : Array Value → State → Outcome → State → Prop := fun _ st oc t => oc = .returned (v.map (mv (gad g))) ∧ Rel g fr h t.heap ∧ va_F (gA g) st t
def rmm (f lo mc ms : Nat) : Room := { frames := f, cells := mc, slots := ms, locals := lo }
def MM (g : Gx) (y : MethodName) (cc : ByteArray) (maxL : Nat) (ret : Option FieldType) (rf rl mc ms : Nat) (fr fr' : Bool) (args : List Value) (h : MH) (v : Option Value) (h' : MH) : Prop :=
  Met (gl g) y (Cond.code y cc maxL ret :: AW) (rmm rf rl mc ms) (va_Pc (args.map (mv (gad g))) (Pm g fr h)) (Qm g fr' v h') mc ms (gA g)
theorem Pm_blind {g : Gx} {fr : Bool} {h : MH} {vs : List Value} : FrameBlind (va_Pc vs (Pm g fr h)) := by
  intro a U f mk q
  obtain ⟨q1, q2, q3⟩ := q
  refine ⟨q1, q2, Bg.to (s := U) q3 ?_ (Nat.le_refl _) (fun _ _ _ => rfl)⟩
  exact State.WarmedH.refl U
/-- the locals at a method's entry -/
def entL : List Value → Nat → List (Option Value)
  | [], n => List.replicate n none
  | v :: vs, n => match v.category with
    | 2 => some v :: none :: entL vs (n - 2)
    | _ => some v :: entL vs (n - 1)
theorem entL_in {ad : Nat → Nat} : ∀ (vs : List Value) (n o i : Nat) (v : Value), (entL vs n)[i]? = some (some v) → (i + o, mv ad v) ∈ lv_args o (vs.map (mv ad)) := by
  intro vs
  induction vs with
  | nil =>
    intro n o i v h
    simp only [entL, List.getElem?_replicate] at h
    split at h <;> cases h
  | cons w vs ih =>
    intro n o i v h
    have hcat := mv_cat (ad := ad) w
    rcases lv_cat w with hc | hc
    · simp only [entL, hc] at h
      simp only [List.map_cons, lv_args, hcat, hc]
      cases i with
      | zero =>
        simp only [List.getElem?_cons_zero, Option.some.injEq] at h
        subst h
        simp
      | succ i =>
        have h2 := ih _ (o + 1) i v (by simpa using h)
        refine List.mem_cons_of_mem _ ?_
        rw [show i + 1 + o = i + (o + 1) by omega]
        simpa using h2
    · simp only [entL, hc] at h
      simp only [List.map_cons, lv_args, hcat, hc]
      cases i with
      | zero =>
        simp only [List.getElem?_cons_zero, Option.some.injEq] at h
        subst h
        simp
      | succ i =>
        cases i with
        | zero => simp at h
        | succ i =>
          have h2 := ih _ (o + 2) i v (by simpa using h)
          refine List.mem_cons_of_mem _ ?_
          rw [show i + 1 + 1 + o = i + (o + 2) by omega]
          simpa using h2
theorem lg_sl_len {ad : Nat → Nat} (vs : List Value) : (lg_sl (vs.map (mv ad))).length = (lg_sl vs).length := by
  induction vs with
  | nil => rfl
  | cons v vs ih =>
    simp only [lg_sl, List.map_cons, List.flatMap_cons, List.length_append, mv_cat] at ih ⊢
    rw [ih]
    split <;> rfl
theorem entL_len : ∀ (vs : List Value) (n : Nat), (lg_sl vs).length ≤ n → (entL vs n).length = n := by
  intro vs
  induction vs with
  | nil => intro n _; simp [entL]
  | cons v vs ih =>
    intro n h
    simp only [lg_sl, List.flatMap_cons, List.length_append] at h ih
    rcases lv_cat v with hc | hc
    · rw [if_neg (by omega)] at h
      simp only [List.length_cons, List.length_nil] at h
      simp only [entL, hc, List.length_cons]
      rw [ih (n - 1) (by omega)]
      omega
    · rw [if_pos hc] at h
      simp only [List.length_cons, List.length_nil] at h
      simp only [entL, hc, List.length_cons]
      rw [ih (n - 2) (by omega)]
      omega
/-- what the end must meet: an answer, a small heap -/
def Out (K : Cx) (ret : Option FieldType) (fr : Bool) (v : Option Value) (h : MH) : Prop :=
  K.2.2.2 = MQ K.2.2.1.2.2.1 (Qm K.1 fr v h) (kargs K) (ks K) (kR K).cells (kR K).slots (gA K.1) ∧ (kmeth K).sig.returnType = ret
theorem MM_of {g : Gx} {y : MethodName} {cc : ByteArray} {maxL : Nat} {ret : Option FieldType} {rf rl mc ms : Nat} {fr fr' : Bool} {args : List Value} {h : MH} {v : Option Value} {h' : MH} {L : List (Option Value)} (hy : plainName y.cls = true) (hlen : (lg_sl args).length ≤ maxL) (hL : entL args maxL = L)
    (body : ∀ K : Cx, K.1 = g → Ok K y.cls cc maxL (rmm rf rl mc ms) → Out K ret fr' v h' → (kmeth K).name = y.name → EE K (fr, 0, 0) 0 L [] h) : MM g y cc maxL ret rf rl mc ms fr fr' args h v h' := by
  refine Met.ofW (cc := cc) (maxL := maxL) (ret := ret) hy rfl ?_
  intro p e s m argv below meth c s₁ B hml hv
  obtain ⟨rfl, hRel, hBg⟩ := hv
  have hts := atoms_spec (ws := Cond.code y cc maxL ret :: AW) B.pre
  have hl := lv_entry (args.map (mv (gad g))) (n := maxL) (by rw [lg_sl_len]; exact hlen)
  rw [lg_entry_eq]
  subst hL
  refine body (g, (p, e, _, s), (m, _, below, meth, c), MQ below (Qm g fr' v h') _ s mc ms (gA g)) rfl ⟨B.exec, B.bytes, hml, findClass_of_methodNamed B.named, fun w hw => hts w (List.mem_cons_of_mem _ hw), hBg, rfl, B.notSynchronized⟩ ⟨rfl, B.returns⟩ (name_of_methodNamed B.named B.method).1 s.heap _ [] hRel va_S.rf ⟨?_, ?_, hl.2.1, fun i w hw => ?_⟩
  · rw [hml]; exact hl.1
  · rw [hml]; exact entL_len _ _ hlen
  · exact hl.2.2 _ (entL_in args maxL 0 i w hw)
variable {K : Cx} {own : String} {cc : ByteArray} {nL : Nat} {R : Room} {a : Bool × Nat × Nat} {pc : Nat} {L : List (Option Value)} {S : List Value} {h : MH}
theorem Rel.fr {g : Gx} {fr fr' : Bool} {h : MH} {H : Heap} (hfr : fr' = true → fr = true) (hR : Rel g fr h H) : Rel g fr' h H := ⟨hR.1, hR.2.1, fun q => hR.2.2.1 (hfr q), hR.2.2.2⟩
theorem E_iret0 (O : Ok K own cc nL R) {x : Int32} {v : Option Value} {h' : MH} (Z : Out K (some .int) a.1 v h') (hv : v = some (.int x)) (hh : h = h') (hc : a.2.1 ≤ R.cells ∧ a.2.2 ≤ R.slots) (d : decode cc pc = .ok (.ireturn, 1)) : EE K a pc L [.int x] h := by
  intro H ls locs hR hS hL
  subst hh; subst hv
  have hc : a.2.1 ≤ (kR K).cells ∧ a.2.2 ≤ (kR K).slots := by rw [O.2.2.2.2.2.2.1]; exact hc
  unfold WW
  rw [Z.1]
  refine W.widen hc.1 hc.2 ?_
  exact W.iret O.x O.b Z.2 (fun t ht hW => ⟨rfl, by rw [ht]; exact hR, hS.F ht⟩) hS.2.2 d O.2.2.2.2.2.2.2
theorem E_lret0 (O : Ok K own cc nL R) {x : Int64} {v : Option Value} {h' : MH} (Z : Out K (some .long) a.1 v h') (hv : v = some (.long x)) (hh : h = h') (hc : a.2.1 ≤ R.cells ∧ a.2.2 ≤ R.slots) (d : decode cc pc = .ok (.lreturn, 1)) : EE K a pc L [.long x] h := by
  intro H ls locs hR hS hL
  subst hh; subst hv
  have hc : a.2.1 ≤ (kR K).cells ∧ a.2.2 ≤ (kR K).slots := by rw [O.2.2.2.2.2.2.1]; exact hc
  unfold WW
  rw [Z.1]
  refine W.widen hc.1 hc.2 ?_
  exact W.lret O.x O.b Z.2 (fun t ht hW => ⟨rfl, by rw [ht]; exact hR, hS.F ht⟩) hS.2.2 d O.2.2.2.2.2.2.2
theorem E_dret0 (O : Ok K own cc nL R) {x : UInt64} {v : Option Value} {h' : MH} (Z : Out K (some .double) a.1 v h') (hv : v = some (.double x)) (hh : h = h') (hc : a.2.1 ≤ R.cells ∧ a.2.2 ≤ R.slots) (d : decode cc pc = .ok (.dreturn, 1)) : EE K a pc L [.double x] h := by
  intro H ls locs hR hS hL
  subst hh; subst hv
  have hc : a.2.1 ≤ (kR K).cells ∧ a.2.2 ≤ (kR K).slots := by rw [O.2.2.2.2.2.2.1]; exact hc
  unfold WW
  rw [Z.1]
  refine W.widen hc.1 hc.2 ?_
  exact W.dret O.x O.b Z.2 (fun t ht hW => ⟨rfl, by rw [ht]; exact hR, hS.F ht⟩) hS.2.2 d O.2.2.2.2.2.2.2
/-- a boolean's return keeps the lowest bit -/
theorem W_zret1 {p : Program} {l : Launch} {e : Env} {R : Room} {s : State} {m : MethodId} {args : Array Value} {below : List Frame} {meth : Method} {c : Code} {H : Heap} {locs : List Loc} {cells slots : Nat} {cc : ByteArray} {Qc : Array Value → State → Outcome → State → Prop} {free : Addr → Prop} {v : Int32} (hexec : p.tables.exec = Jvm.exec) (hb : c.code = cc) (hr : meth.sig.returnType = some .boolean)
    (hq : ∀ t : State, t.heap = H → s.WarmedH t.vm → Qc args s (.returned (some (.int (v &&& 1)))) t) (hf : ∀ q ∈ locs, free q.base)
    {pc : Nat} {ls : Array Slot} (hdg : decode cc pc = .ok (.ireturn, 1)) (hlocks : meth.locks = false) : W p l e R s m args below meth c H locs cells slots (MQ below Qc args s cells slots free) (F0 m pc ls [.int v]) := by
  intro T hT X
  obtain ⟨fs, hret, hrun, hended, hW, hframe⟩ := X.leave (v := some (.int (v &&& 1))) (fun h => by rw [hr] at h; cases h)
  have hmeth' : T.vm.method? m = some meth := X.method'
  refine ⟨T.setFrames fs, ?_, .returned (some (.int (v &&& 1))), hrun, hended, hq _ hT hW, locs, ⟨⟨_, rfl⟩, hW, hframe⟩, hf⟩
  jvm_step X.here [X.here.top, hexec, hb, hdg, hmeth', hr, narrow]
  (try refine ⟨rfl, ?_⟩); (try refine ⟨rfl, ?_⟩)
  first | (intro acts; rw [hret _ acts rfl rfl rfl]) | rw [hret _ _ rfl rfl rfl]
  exact Steps.refl _
theorem E_zret0 (O : Ok K own cc nL R) {x : Int32} {v : Option Value} {h' : MH} (Z : Out K (some .boolean) a.1 v h') (hv : v = some (.int (x &&& 1))) (hh : h = h') (hc : a.2.1 ≤ R.cells ∧ a.2.2 ≤ R.slots) (d : decode cc pc = .ok (.ireturn, 1)) : EE K a pc L [.int x] h := by
  intro H ls locs hR hS hL
  subst hh; subst hv
  have hc : a.2.1 ≤ (kR K).cells ∧ a.2.2 ≤ (kR K).slots := by rw [O.2.2.2.2.2.2.1]; exact hc
  unfold WW
  rw [Z.1]
  refine W.widen hc.1 hc.2 ?_
  exact W_zret1 O.x O.b Z.2 (fun t ht hW => ⟨rfl, by rw [ht]; exact hR, hS.F ht⟩) hS.2.2 d O.2.2.2.2.2.2.2
theorem E_vret0 (O : Ok K own cc nL R) {v : Option Value} {h' : MH} (Z : Out K none a.1 v h') (hv : v = none) (hh : h = h') (hc : a.2.1 ≤ R.cells ∧ a.2.2 ≤ R.slots) (d : decode cc pc = .ok (.return_, 1)) : EE K a pc L [] h := by
  intro H ls locs hR hS hL
  subst hh; subst hv
  have hc : a.2.1 ≤ (kR K).cells ∧ a.2.2 ≤ (kR K).slots := by rw [O.2.2.2.2.2.2.1]; exact hc
  unfold WW
  rw [Z.1]
  refine W.widen hc.1 hc.2 ?_
  exact W.vret O.x O.b Z.2 (fun t ht hW => ⟨rfl, by rw [ht]; exact hR, hS.F ht⟩) hS.2.2 d O.2.2.2.2.2.2.2
theorem E_iret (O : Ok K own cc nL R) {x : Int32} {out : Int32 × MH} (Z : Out K (some .int) a.1 (some (.int out.1)) out.2) (hf : some (x, h) = some out) (hc : a.2.1 ≤ R.cells ∧ a.2.2 ≤ R.slots) (d : decode cc pc = .ok (.ireturn, 1)) : EE K a pc L [.int x] h := by
  cases hf
  exact E_iret0 O Z rfl rfl hc d
theorem E_iretP (O : Ok K own cc nL R) {x : Int32} {out : Int32} (Z : Out K (some .int) a.1 (some (.int out)) h) (hf : some x = some out) (hc : a.2.1 ≤ R.cells ∧ a.2.2 ≤ R.slots) (d : decode cc pc = .ok (.ireturn, 1)) : EE K a pc L [.int x] h := by
  cases hf
  exact E_iret0 O Z rfl rfl hc d
theorem E_zret (O : Ok K own cc nL R) {x : Int32} {out : Int32 × MH} (Z : Out K (some .boolean) a.1 (some (.int out.1)) out.2) (hf : some ((x &&& 1), h) = some out) (hc : a.2.1 ≤ R.cells ∧ a.2.2 ≤ R.slots) (d : decode cc pc = .ok (.ireturn, 1)) : EE K a pc L [.int x] h := by
  cases hf
  exact E_zret0 O Z rfl rfl hc d
theorem E_zretP (O : Ok K own cc nL R) {x : Int32} {out : Int32} (Z : Out K (some .boolean) a.1 (some (.int out)) h) (hf : some (x &&& 1) = some out) (hc : a.2.1 ≤ R.cells ∧ a.2.2 ≤ R.slots) (d : decode cc pc = .ok (.ireturn, 1)) : EE K a pc L [.int x] h := by
  cases hf
  exact E_zret0 O Z rfl rfl hc d
theorem E_lret (O : Ok K own cc nL R) {x : Int64} {out : Int64 × MH} (Z : Out K (some .long) a.1 (some (.long out.1)) out.2) (hf : some (x, h) = some out) (hc : a.2.1 ≤ R.cells ∧ a.2.2 ≤ R.slots) (d : decode cc pc = .ok (.lreturn, 1)) : EE K a pc L [.long x] h := by
  cases hf
  exact E_lret0 O Z rfl rfl hc d
theorem E_lretP (O : Ok K own cc nL R) {x : Int64} {out : Int64} (Z : Out K (some .long) a.1 (some (.long out)) h) (hf : some x = some out) (hc : a.2.1 ≤ R.cells ∧ a.2.2 ≤ R.slots) (d : decode cc pc = .ok (.lreturn, 1)) : EE K a pc L [.long x] h := by
  cases hf
  exact E_lret0 O Z rfl rfl hc d
theorem E_dret (O : Ok K own cc nL R) {x : UInt64} {out : UInt64 × MH} (Z : Out K (some .double) a.1 (some (.double out.1)) out.2) (hf : some (x, h) = some out) (hc : a.2.1 ≤ R.cells ∧ a.2.2 ≤ R.slots) (d : decode cc pc = .ok (.dreturn, 1)) : EE K a pc L [.double x] h := by
  cases hf
  exact E_dret0 O Z rfl rfl hc d
theorem E_dretP (O : Ok K own cc nL R) {x : UInt64} {out : UInt64} (Z : Out K (some .double) a.1 (some (.double out)) h) (hf : some x = some out) (hc : a.2.1 ≤ R.cells ∧ a.2.2 ≤ R.slots) (d : decode cc pc = .ok (.dreturn, 1)) : EE K a pc L [.double x] h := by
  cases hf
  exact E_dret0 O Z rfl rfl hc d
theorem E_vret (O : Ok K own cc nL R) {out : MH} (Z : Out K none a.1 none out) (hf : some h = some out) (hc : a.2.1 ≤ R.cells ∧ a.2.2 ≤ R.slots) (d : decode cc pc = .ok (.return_, 1)) : EE K a pc L [] h := by
  cases hf
  exact E_vret0 O Z rfl rfl hc d
/-- a call's words -/
def CB (own : String) (index : Nat) (y : MethodName) (bytes : ByteArray) (maxL : Nat) (ret : Option FieldType) (n : Nat) : Prop :=
  Cond.methodLink own index y ∈ AW ∧ Cond.code y bytes maxL ret ∈ AW ∧ Cond.initialized y.cls ∈ AW ∧ (y.cls ≠ "java/lang/invoke/MethodHandle" ∧ y.cls ≠ "java/lang/invoke/VarHandle" ∧ (parseMethodDescriptor y.desc).map (fun d => d.parameters.length) = some n)
def CV (own : String) (index : Nat) (y : MethodName) (bytes : ByteArray) (maxL : Nat) (ret : Option FieldType) (n : Nat) : Prop := CB own index y bytes maxL ret n ∧ Cond.instanceMethod y ∈ AW ∧ Cond.selects y.cls y y ∈ AW
def CS (own : String) (index : Nat) (y : MethodName) (bytes : ByteArray) (maxL : Nat) (ret : Option FieldType) (n : Nat) : Prop := CB own index y bytes maxL ret n ∧ Cond.static y ∈ AW
theorem AW_self {y : MethodName} {bytes : ByteArray} {maxL : Nat} {ret : Option FieldType} (h : Cond.code y bytes maxL ret ∈ AW) : GoodIn AW (Cond.code y bytes maxL ret :: AW) := by
  intro w hw
  rcases List.mem_cons.mp hw with rfl | hw
  · exact ⟨h, good_of_word (List.mem_filter.mp h).2⟩
  · exact ⟨hw, good_of_word (List.mem_filter.mp hw).2⟩
theorem CB.use (O : Ok K own cc nL R) {index : Nat} {y : MethodName} {bytes : ByteArray} {maxL : Nat} {ret : Option FieldType} {n rf rl mc ms : Nat} (w : CB own index y bytes maxL ret n) (hr : rf + 1 ≤ R.frames ∧ 8 + (maxL + 11) + rl ≤ R.locals) :
    CallB (kR K) (ks K) (kargs K) own index y bytes maxL ret (Cond.code y bytes maxL ret :: AW) (rmm rf rl mc ms) mc ms n := by
  rw [show kR K = R from O.2.2.2.2.2.2.1]
  exact callB_of n O.ws (AW_self w.2.1) rfl rfl rfl (O.ws _ w.2.2.1) (O.ws _ w.1) w.2.2.2 hr
theorem Pm_at (O : Ok K own cc nL R) {H : Heap} {locs : List Loc} (hR : Rel K.1 a.1 h H) (hS : va_S (gA K.1) (ks K).heap H locs) {vs : List Value} : ∀ U : State, U.heap = H → (ks K).WarmedH U.vm → va_Pc vs (Pm K.1 a.1 h) vs.toArray U := by
  intro U hU hW
  refine ⟨rfl, by rw [hU]; exact hR, Bg.to O.bg hW (by rw [hU]; exact hS.1) (fun q h1 h2 => by rw [hU]; exact hS.2.1 q h1 h2)⟩
/-- behind a call -/
theorem E_back {H : Heap} {ls : Array Slot} {locs : List Loc} {mc ms : Nat} {fr' : Bool} {v : Option Value} {h' : MH} {av : Array Value} {st0 : List Value} (hS : va_S (gA K.1) (ks K).heap H locs) (hL : LR (gad K.1) (kc K).maxLocals L ls)
    (hrun : va_Run K.2.1.1 (gl K.1) K.2.1.2.1 (kR K) (ks K) (km K) (kargs K) K.2.2.1.2.2.1 (kmeth K) (kc K) H locs a.2.1 a.2.2 mc ms (F0 (km K) pc ls st0) (S.map (mv (gad K.1))) (Qm K.1 fr' v h' av) (gA K.1))
    (kk : EE K (fr', a.2.1 + mc, a.2.2 + ms) (pc + 3) L (v.toList ++ S) h') : WW K H locs a.2.1 a.2.2 (F0 (km K) pc ls st0) := by
  intro T hT X
  obtain ⟨v', st₀, t, T', L', h0, X', hL', e1, e2, ⟨hv, hRel, hF⟩, st⟩ := hrun T hT X
  cases hv
  obtain ⟨hz, hk⟩ := hF
  rw [h0] at hz hk
  have hS' : va_S (gA K.1) (ks K).heap T'.heap (locs ++ L') := ⟨Nat.le_trans hS.1 (by rw [e1]; exact hz), fun q h1 h2 => by rw [e1, hk q (Nat.lt_of_lt_of_le h1 hS.1) h2]; exact hS.2.1 q h1 h2, fun q hq => by
    rcases List.mem_append.mp hq with h | h
    · exact hS.2.2 q h
    · exact hL' q h⟩
  obtain ⟨t2, a1, b1⟩ := kk T'.heap ls _ (by rw [e1]; exact hRel) hS' hL T' rfl X'
  refine ⟨t2, st t2 ?_, b1⟩
  have e : (v.toList ++ S).map (mv (gad K.1)) = (v.map (mv (gad K.1))).toList ++ S.map (mv (gad K.1)) := by cases v <;> rfl
  rw [e] at a1
  exact a1
theorem S_room {S : List Value} {ls : Array Slot} {m : MethodId} {st : List Value} {ad : Nat → Nat} (h : (S.map fun v => v.category).sum ≤ 8) : 2 * (F0 m pc ls st).monitorRoom + ((S.map (mv ad)).map fun v => v.category).sum ≤ 8 := by
  have hcat : ((S.map (mv ad)).map fun v => v.category).sum = (S.map fun v => v.category).sum := by
    rw [List.map_map]
    congr 1
    exact List.map_congr_left (fun v _ => mv_cat v)
  exact lv_room (m := m) (pc := pc) (ls := ls) (rest := st) (by rw [hcat]; exact h)
def vcall {α : Type} (h : MH) (ci b : Nat) (o : Option α) : Option α := if isO h ci b = true then o else none
theorem vcall_of {α : Type} {h : MH} {ci b : Nat} {o : Option α} {r : α} (e : vcall h ci b o = some r) : isO h ci b = true ∧ o = some r := by
  unfold vcall at e
  split at e
  · next hi => exact ⟨hi, e⟩
  · cases e
theorem E_callV {α ρ : Type} (O : Ok K own cc nL R) {index ci b : Nat} {y : MethodName} {bytes : ByteArray} {maxL : Nat} {ret : Option FieldType} {rf rl mc ms : Nat} {fr' : Bool} (As : List Value) {S0 : List Value} {o : Option α} {f : α → Option ρ} {out : ρ} (mk : α → Option Value × MH) (w : CV own index y bytes maxL ret As.length) (hci : (vwCl[ci]?).map (fun r => r.1) = some y.cls)
    (hM : ∀ r, o = some r → MM K.1 y bytes maxL ret rf rl mc ms a.1 fr' (.ref b :: As) h (mk r).1 (mk r).2) (d : decode cc pc = .ok (.invokevirtual index, 3)) (hf : (vcall h ci b o).bind f = some out) (hst : S0 = As.reverse ++ .ref b :: S)
    (hr : rf + 1 ≤ R.frames ∧ 8 + (maxL + 11) + rl ≤ R.locals) (hc : a.2.1 + mc ≤ R.cells ∧ a.2.2 + ms ≤ R.slots) (hsum : (S.map fun v => v.category).sum ≤ 8) (kk : ∀ r, f r = some out → EE K (fr', a.2.1 + mc, a.2.2 + ms) (pc + 3) L ((mk r).1.toList ++ S) (mk r).2) : EE K a pc L S0 h := by
  intro H ls locs hR hS hL
  subst hst
  obtain ⟨r, e1, e2⟩ := ob hf
  obtain ⟨e1, e3⟩ := vcall_of e1
  obtain ⟨fs, g1⟩ := isO_of e1
  obtain ⟨q, hq1, hq2⟩ := Option.map_eq_some_iff.mp hci
  have hc : a.2.1 + mc ≤ (kR K).cells ∧ a.2.2 + ms ≤ (kR K).slots := by rw [O.2.2.2.2.2.2.1]; exact hc
  have hrecv := va_recv O.k hR.1 hq1 (mw_get g1)
  rw [hq2] at hrecv
  have hrun := va_runV (e := K.2.1.2.1) (below := K.2.2.1.2.2.1) (meth := kmeth K) (As := As.map (mv (gad K.1))) (rest := S.map (mv (gad K.1))) (locs := locs) (cells := a.2.1) (slots := a.2.2) ⟨O.x, O.b, O.2.2.1, O.ow, O.ws⟩ (hM r e3) ⟨CB.use O w.1 hr, O.ws _ w.2.1, O.ws _ w.2.2⟩ ⟨Pm_blind, hrecv, Pm_at O hR hS⟩ (g := F0 (km K) pc ls ((As.reverse ++ .ref b :: S).map (mv (gad K.1)))) rfl (by simp) (by show ls.size = _; rw [hL.1, O.2.2.1]) (by show List.map _ _ = _; simp [mv]) (S_room hsum) d hc
  exact E_back hS hL hrun (kk r e2)
theorem E_callS {α ρ : Type} (O : Ok K own cc nL R) {index : Nat} {y : MethodName} {bytes : ByteArray} {maxL : Nat} {ret : Option FieldType} {rf rl mc ms : Nat} {fr' : Bool} (As : List Value) {S0 : List Value} {o : Option α} {f : α → Option ρ} {out : ρ} (mk : α → Option Value × MH) (w : CS own index y bytes maxL ret As.length)
    (hM : ∀ r, o = some r → MM K.1 y bytes maxL ret rf rl mc ms a.1 fr' As h (mk r).1 (mk r).2) (d : decode cc pc = .ok (.invokestatic index, 3)) (hf : o.bind f = some out) (hst : S0 = As.reverse ++ S)
    (hr : rf + 1 ≤ R.frames ∧ 8 + (maxL + 11) + rl ≤ R.locals) (hc : a.2.1 + mc ≤ R.cells ∧ a.2.2 + ms ≤ R.slots) (hsum : (S.map fun v => v.category).sum ≤ 8) (kk : ∀ r, f r = some out → EE K (fr', a.2.1 + mc, a.2.2 + ms) (pc + 3) L ((mk r).1.toList ++ S) (mk r).2) : EE K a pc L S0 h := by
  intro H ls locs hR hS hL
  subst hst
  obtain ⟨r, e3, e2⟩ := ob hf
  have hc : a.2.1 + mc ≤ (kR K).cells ∧ a.2.2 + ms ≤ (kR K).slots := by rw [O.2.2.2.2.2.2.1]; exact hc
  have hrun := va_runS (e := K.2.1.2.1) (below := K.2.2.1.2.2.1) (meth := kmeth K) (As := As.map (mv (gad K.1))) (rest := S.map (mv (gad K.1))) (locs := locs) (cells := a.2.1) (slots := a.2.2) ⟨O.x, O.b, O.2.2.1, O.ow, O.ws⟩ (hM r e3) ⟨CB.use O w.1 hr, O.ws _ w.2⟩ ⟨Pm_blind, Pm_at O hR hS⟩ (g := F0 (km K) pc ls ((As.reverse ++ S).map (mv (gad K.1)))) rfl (by simp) (by show ls.size = _; rw [hL.1, O.2.2.1]) (by show List.map _ _ = _; simp) (S_room hsum) d hc
  exact E_back hS hL hrun (kk r e2)
theorem E_callV_i {ρ : Type} (O : Ok K own cc nL R) {index ci b : Nat} {y : MethodName} {bytes : ByteArray} {maxL : Nat} {ret : Option FieldType} {rf rl : Nat} (As : List Value) {S0 : List Value} {o : Option (Int32 × MH)} {f : Int32 × MH → Option ρ} {out : ρ} (w : CV own index y bytes maxL ret As.length) (hci : (vwCl[ci]?).map (fun r => r.1) = some y.cls)
    (hM : ∀ r, o = some r → MM K.1 y bytes maxL ret rf rl 0 0 a.1 a.1 (.ref b :: As) h (some (.int r.1)) r.2) (d : decode cc pc = .ok (.invokevirtual index, 3)) (hf : (vcall h ci b o).bind f = some out) (hst : S0 = As.reverse ++ .ref b :: S)
    (hr : rf + 1 ≤ R.frames ∧ 8 + (maxL + 11) + rl ≤ R.locals) (hc : a.2.1 ≤ R.cells ∧ a.2.2 ≤ R.slots) (hsum : (S.map fun v => v.category).sum ≤ 8) (kk : ∀ r, f r = some out → EE K a (pc + 3) L (.int r.1 :: S) r.2) : EE K a pc L S0 h := E_callV O As (fun r => (some (.int r.1), r.2)) w hci hM d hf hst hr hc hsum kk
theorem E_callS_i {ρ : Type} (O : Ok K own cc nL R) {index : Nat} {y : MethodName} {bytes : ByteArray} {maxL : Nat} {ret : Option FieldType} {rf rl : Nat} (As : List Value) {S0 : List Value} {o : Option (Int32 × MH)} {f : Int32 × MH → Option ρ} {out : ρ} (w : CS own index y bytes maxL ret As.length)
    (hM : ∀ r, o = some r → MM K.1 y bytes maxL ret rf rl 0 0 a.1 a.1 As h (some (.int r.1)) r.2) (d : decode cc pc = .ok (.invokestatic index, 3)) (hf : o.bind f = some out) (hst : S0 = As.reverse ++ S)
    (hr : rf + 1 ≤ R.frames ∧ 8 + (maxL + 11) + rl ≤ R.locals) (hc : a.2.1 ≤ R.cells ∧ a.2.2 ≤ R.slots) (hsum : (S.map fun v => v.category).sum ≤ 8) (kk : ∀ r, f r = some out → EE K a (pc + 3) L (.int r.1 :: S) r.2) : EE K a pc L S0 h := E_callS O As (fun r => (some (.int r.1), r.2)) w hM d hf hst hr hc hsum kk
theorem E_callV_iP {ρ : Type} (O : Ok K own cc nL R) {index ci b : Nat} {y : MethodName} {bytes : ByteArray} {maxL : Nat} {ret : Option FieldType} {rf rl : Nat} (As : List Value) {S0 : List Value} {o : Option (Int32)} {f : Int32 → Option ρ} {out : ρ} (w : CV own index y bytes maxL ret As.length) (hci : (vwCl[ci]?).map (fun r => r.1) = some y.cls)
    (hM : ∀ r, o = some r → MM K.1 y bytes maxL ret rf rl 0 0 a.1 a.1 (.ref b :: As) h (some (.int r)) h) (d : decode cc pc = .ok (.invokevirtual index, 3)) (hf : (vcall h ci b o).bind f = some out) (hst : S0 = As.reverse ++ .ref b :: S)
    (hr : rf + 1 ≤ R.frames ∧ 8 + (maxL + 11) + rl ≤ R.locals) (hc : a.2.1 ≤ R.cells ∧ a.2.2 ≤ R.slots) (hsum : (S.map fun v => v.category).sum ≤ 8) (kk : ∀ r, f r = some out → EE K a (pc + 3) L (.int r :: S) h) : EE K a pc L S0 h := E_callV O As (fun r => (some (.int r), h)) w hci hM d hf hst hr hc hsum kk
theorem E_callS_iP {ρ : Type} (O : Ok K own cc nL R) {index : Nat} {y : MethodName} {bytes : ByteArray} {maxL : Nat} {ret : Option FieldType} {rf rl : Nat} (As : List Value) {S0 : List Value} {o : Option (Int32)} {f : Int32 → Option ρ} {out : ρ} (w : CS own index y bytes maxL ret As.length)
    (hM : ∀ r, o = some r → MM K.1 y bytes maxL ret rf rl 0 0 a.1 a.1 As h (some (.int r)) h) (d : decode cc pc = .ok (.invokestatic index, 3)) (hf : o.bind f = some out) (hst : S0 = As.reverse ++ S)
    (hr : rf + 1 ≤ R.frames ∧ 8 + (maxL + 11) + rl ≤ R.locals) (hc : a.2.1 ≤ R.cells ∧ a.2.2 ≤ R.slots) (hsum : (S.map fun v => v.category).sum ≤ 8) (kk : ∀ r, f r = some out → EE K a (pc + 3) L (.int r :: S) h) : EE K a pc L S0 h := E_callS O As (fun r => (some (.int r), h)) w hM d hf hst hr hc hsum kk
theorem E_callV_l {ρ : Type} (O : Ok K own cc nL R) {index ci b : Nat} {y : MethodName} {bytes : ByteArray} {maxL : Nat} {ret : Option FieldType} {rf rl : Nat} (As : List Value) {S0 : List Value} {o : Option (Int64 × MH)} {f : Int64 × MH → Option ρ} {out : ρ} (w : CV own index y bytes maxL ret As.length) (hci : (vwCl[ci]?).map (fun r => r.1) = some y.cls)
    (hM : ∀ r, o = some r → MM K.1 y bytes maxL ret rf rl 0 0 a.1 a.1 (.ref b :: As) h (some (.long r.1)) r.2) (d : decode cc pc = .ok (.invokevirtual index, 3)) (hf : (vcall h ci b o).bind f = some out) (hst : S0 = As.reverse ++ .ref b :: S)
    (hr : rf + 1 ≤ R.frames ∧ 8 + (maxL + 11) + rl ≤ R.locals) (hc : a.2.1 ≤ R.cells ∧ a.2.2 ≤ R.slots) (hsum : (S.map fun v => v.category).sum ≤ 8) (kk : ∀ r, f r = some out → EE K a (pc + 3) L (.long r.1 :: S) r.2) : EE K a pc L S0 h := E_callV O As (fun r => (some (.long r.1), r.2)) w hci hM d hf hst hr hc hsum kk
theorem E_callS_l {ρ : Type} (O : Ok K own cc nL R) {index : Nat} {y : MethodName} {bytes : ByteArray} {maxL : Nat} {ret : Option FieldType} {rf rl : Nat} (As : List Value) {S0 : List Value} {o : Option (Int64 × MH)} {f : Int64 × MH → Option ρ} {out : ρ} (w : CS own index y bytes maxL ret As.length)
    (hM : ∀ r, o = some r → MM K.1 y bytes maxL ret rf rl 0 0 a.1 a.1 As h (some (.long r.1)) r.2) (d : decode cc pc = .ok (.invokestatic index, 3)) (hf : o.bind f = some out) (hst : S0 = As.reverse ++ S)
    (hr : rf + 1 ≤ R.frames ∧ 8 + (maxL + 11) + rl ≤ R.locals) (hc : a.2.1 ≤ R.cells ∧ a.2.2 ≤ R.slots) (hsum : (S.map fun v => v.category).sum ≤ 8) (kk : ∀ r, f r = some out → EE K a (pc + 3) L (.long r.1 :: S) r.2) : EE K a pc L S0 h := E_callS O As (fun r => (some (.long r.1), r.2)) w hM d hf hst hr hc hsum kk
theorem E_callV_lP {ρ : Type} (O : Ok K own cc nL R) {index ci b : Nat} {y : MethodName} {bytes : ByteArray} {maxL : Nat} {ret : Option FieldType} {rf rl : Nat} (As : List Value) {S0 : List Value} {o : Option (Int64)} {f : Int64 → Option ρ} {out : ρ} (w : CV own index y bytes maxL ret As.length) (hci : (vwCl[ci]?).map (fun r => r.1) = some y.cls)
    (hM : ∀ r, o = some r → MM K.1 y bytes maxL ret rf rl 0 0 a.1 a.1 (.ref b :: As) h (some (.long r)) h) (d : decode cc pc = .ok (.invokevirtual index, 3)) (hf : (vcall h ci b o).bind f = some out) (hst : S0 = As.reverse ++ .ref b :: S)
    (hr : rf + 1 ≤ R.frames ∧ 8 + (maxL + 11) + rl ≤ R.locals) (hc : a.2.1 ≤ R.cells ∧ a.2.2 ≤ R.slots) (hsum : (S.map fun v => v.category).sum ≤ 8) (kk : ∀ r, f r = some out → EE K a (pc + 3) L (.long r :: S) h) : EE K a pc L S0 h := E_callV O As (fun r => (some (.long r), h)) w hci hM d hf hst hr hc hsum kk
theorem E_callS_lP {ρ : Type} (O : Ok K own cc nL R) {index : Nat} {y : MethodName} {bytes : ByteArray} {maxL : Nat} {ret : Option FieldType} {rf rl : Nat} (As : List Value) {S0 : List Value} {o : Option (Int64)} {f : Int64 → Option ρ} {out : ρ} (w : CS own index y bytes maxL ret As.length)
    (hM : ∀ r, o = some r → MM K.1 y bytes maxL ret rf rl 0 0 a.1 a.1 As h (some (.long r)) h) (d : decode cc pc = .ok (.invokestatic index, 3)) (hf : o.bind f = some out) (hst : S0 = As.reverse ++ S)
    (hr : rf + 1 ≤ R.frames ∧ 8 + (maxL + 11) + rl ≤ R.locals) (hc : a.2.1 ≤ R.cells ∧ a.2.2 ≤ R.slots) (hsum : (S.map fun v => v.category).sum ≤ 8) (kk : ∀ r, f r = some out → EE K a (pc + 3) L (.long r :: S) h) : EE K a pc L S0 h := E_callS O As (fun r => (some (.long r), h)) w hM d hf hst hr hc hsum kk
theorem E_callV_d {ρ : Type} (O : Ok K own cc nL R) {index ci b : Nat} {y : MethodName} {bytes : ByteArray} {maxL : Nat} {ret : Option FieldType} {rf rl : Nat} (As : List Value) {S0 : List Value} {o : Option (UInt64 × MH)} {f : UInt64 × MH → Option ρ} {out : ρ} (w : CV own index y bytes maxL ret As.length) (hci : (vwCl[ci]?).map (fun r => r.1) = some y.cls)
    (hM : ∀ r, o = some r → MM K.1 y bytes maxL ret rf rl 0 0 a.1 a.1 (.ref b :: As) h (some (.double r.1)) r.2) (d : decode cc pc = .ok (.invokevirtual index, 3)) (hf : (vcall h ci b o).bind f = some out) (hst : S0 = As.reverse ++ .ref b :: S)
    (hr : rf + 1 ≤ R.frames ∧ 8 + (maxL + 11) + rl ≤ R.locals) (hc : a.2.1 ≤ R.cells ∧ a.2.2 ≤ R.slots) (hsum : (S.map fun v => v.category).sum ≤ 8) (kk : ∀ r, f r = some out → EE K a (pc + 3) L (.double r.1 :: S) r.2) : EE K a pc L S0 h := E_callV O As (fun r => (some (.double r.1), r.2)) w hci hM d hf hst hr hc hsum kk
theorem E_callS_d {ρ : Type} (O : Ok K own cc nL R) {index : Nat} {y : MethodName} {bytes : ByteArray} {maxL : Nat} {ret : Option FieldType} {rf rl : Nat} (As : List Value) {S0 : List Value} {o : Option (UInt64 × MH)} {f : UInt64 × MH → Option ρ} {out : ρ} (w : CS own index y bytes maxL ret As.length)
    (hM : ∀ r, o = some r → MM K.1 y bytes maxL ret rf rl 0 0 a.1 a.1 As h (some (.double r.1)) r.2) (d : decode cc pc = .ok (.invokestatic index, 3)) (hf : o.bind f = some out) (hst : S0 = As.reverse ++ S)
    (hr : rf + 1 ≤ R.frames ∧ 8 + (maxL + 11) + rl ≤ R.locals) (hc : a.2.1 ≤ R.cells ∧ a.2.2 ≤ R.slots) (hsum : (S.map fun v => v.category).sum ≤ 8) (kk : ∀ r, f r = some out → EE K a (pc + 3) L (.double r.1 :: S) r.2) : EE K a pc L S0 h := E_callS O As (fun r => (some (.double r.1), r.2)) w hM d hf hst hr hc hsum kk
theorem E_callV_dP {ρ : Type} (O : Ok K own cc nL R) {index ci b : Nat} {y : MethodName} {bytes : ByteArray} {maxL : Nat} {ret : Option FieldType} {rf rl : Nat} (As : List Value) {S0 : List Value} {o : Option (UInt64)} {f : UInt64 → Option ρ} {out : ρ} (w : CV own index y bytes maxL ret As.length) (hci : (vwCl[ci]?).map (fun r => r.1) = some y.cls)
    (hM : ∀ r, o = some r → MM K.1 y bytes maxL ret rf rl 0 0 a.1 a.1 (.ref b :: As) h (some (.double r)) h) (d : decode cc pc = .ok (.invokevirtual index, 3)) (hf : (vcall h ci b o).bind f = some out) (hst : S0 = As.reverse ++ .ref b :: S)
    (hr : rf + 1 ≤ R.frames ∧ 8 + (maxL + 11) + rl ≤ R.locals) (hc : a.2.1 ≤ R.cells ∧ a.2.2 ≤ R.slots) (hsum : (S.map fun v => v.category).sum ≤ 8) (kk : ∀ r, f r = some out → EE K a (pc + 3) L (.double r :: S) h) : EE K a pc L S0 h := E_callV O As (fun r => (some (.double r), h)) w hci hM d hf hst hr hc hsum kk
theorem E_callS_dP {ρ : Type} (O : Ok K own cc nL R) {index : Nat} {y : MethodName} {bytes : ByteArray} {maxL : Nat} {ret : Option FieldType} {rf rl : Nat} (As : List Value) {S0 : List Value} {o : Option (UInt64)} {f : UInt64 → Option ρ} {out : ρ} (w : CS own index y bytes maxL ret As.length)
    (hM : ∀ r, o = some r → MM K.1 y bytes maxL ret rf rl 0 0 a.1 a.1 As h (some (.double r)) h) (d : decode cc pc = .ok (.invokestatic index, 3)) (hf : o.bind f = some out) (hst : S0 = As.reverse ++ S)
    (hr : rf + 1 ≤ R.frames ∧ 8 + (maxL + 11) + rl ≤ R.locals) (hc : a.2.1 ≤ R.cells ∧ a.2.2 ≤ R.slots) (hsum : (S.map fun v => v.category).sum ≤ 8) (kk : ∀ r, f r = some out → EE K a (pc + 3) L (.double r :: S) h) : EE K a pc L S0 h := E_callS O As (fun r => (some (.double r), h)) w hM d hf hst hr hc hsum kk
theorem E_callV_v {ρ : Type} (O : Ok K own cc nL R) {index ci b : Nat} {y : MethodName} {bytes : ByteArray} {maxL : Nat} {ret : Option FieldType} {rf rl : Nat} (As : List Value) {S0 : List Value} {o : Option MH} {f : MH → Option ρ} {out : ρ} (w : CV own index y bytes maxL ret As.length) (hci : (vwCl[ci]?).map (fun r => r.1) = some y.cls)
    (hM : ∀ r, o = some r → MM K.1 y bytes maxL ret rf rl 0 0 a.1 a.1 (.ref b :: As) h none r) (d : decode cc pc = .ok (.invokevirtual index, 3)) (hf : (vcall h ci b o).bind f = some out) (hst : S0 = As.reverse ++ .ref b :: S)
    (hr : rf + 1 ≤ R.frames ∧ 8 + (maxL + 11) + rl ≤ R.locals) (hc : a.2.1 ≤ R.cells ∧ a.2.2 ≤ R.slots) (hsum : (S.map fun v => v.category).sum ≤ 8) (kk : ∀ r, f r = some out → EE K a (pc + 3) L S r) : EE K a pc L S0 h := E_callV O As (fun r => (none, r)) w hci hM d hf hst hr hc hsum kk
