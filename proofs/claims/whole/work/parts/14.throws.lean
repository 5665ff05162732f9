/-! methods that throw, methods that catch -/
variable {K : Cx} {own : String} {cc : ByteArray} {nL : Nat} {R : Room} {a : Bool × Nat × Nat} {pc : Nat} {L : List (Option Value)} {S : List Value} {h : MH}
def XE (k : Nat) : String := match k with
  | 0 => "java/lang/IllegalArgumentException"
  | 1 => "java/lang/IllegalStateException"
  | _ => "java/lang/IndexOutOfBoundsException"
abbrev XR : Type := (Nat × MH) ⊕ (Int32 × MH)
def QX (g : Gx) (r : XR) : Array Value → State → Outcome → State → Prop := fun _ st oc t => ∃ p, r = .inr p ∧ oc = .returned (some (.int p.1)) ∧ Rel g false p.2 t.heap ∧ va_F (gA g) st t
def CX (g : Gx) (r : XR) : String → State → State → Prop := fun E st t => ∃ p, r = .inl p ∧ E = XE p.1 ∧ Rel g false p.2 t.heap ∧ va_F (gA g) st t
def MX (g : Gx) (y : MethodName) (cc : ByteArray) (maxL : Nat) (ret : Option FieldType) (rf rl : Nat) (fr : Bool) (args : List Value) (h : MH) (r : XR) : Prop :=
  vx_Met (gl g) y (Cond.code y cc maxL ret :: AW) (rmm rf rl 1 6) (va_Pc (args.map (mv (gad g))) (Pm g fr h)) (QX g r) (CX g r) 1 6 (gA g)
def OutX (K : Cx) (ret : Option FieldType) (r : XR) : Prop :=
  K.2.2.2 = vx_MQ K.2.2.1.2.2.1 (QX K.1 r) (CX K.1 r) (kargs K) (ks K) (kR K).cells (kR K).slots (gA K.1) ∧ (kmeth K).sig.returnType = ret ∧ ∀ x ∈ (kc K).exceptionTable.toList, False
theorem MX_of {g : Gx} {y : MethodName} {cc : ByteArray} {maxL : Nat} {ret : Option FieldType} {rf rl : Nat} {fr : Bool} {args : List Value} {h : MH} {r : XR} {L : List (Option Value)} (hy : plainName y.cls = true) (hlen : (lg_sl args).length ≤ maxL) (hL : entL args maxL = L)
    (body : ∀ K : Cx, K.1 = g → Ok K y.cls cc maxL (rmm rf rl 1 6) → OutX K ret r → EE K (false, 0, 0) 0 L [] h) : MX g y cc maxL ret rf rl fr args h r := by
  refine vx_ofW (cc := cc) (maxL := maxL) (ret := ret) hy rfl ?_
  intro p e s m argv below meth c s₁ B hml htab hv
  obtain ⟨rfl, hRel, hBg⟩ := hv
  have hts := atoms_spec (ws := Cond.code y cc maxL ret :: AW) B.pre
  have hl := lv_entry (args.map (mv (gad g))) (n := maxL) (by rw [lg_sl_len]; exact hlen)
  rw [lg_entry_eq]
  subst hL
  refine body (g, (p, e, _, s), (m, _, below, meth, c), vx_MQ below (QX g r) (CX g r) _ s 1 6 (gA g)) rfl ⟨B.exec, B.bytes, hml, findClass_of_methodNamed B.named, fun w hw => hts w (List.mem_cons_of_mem _ hw), hBg, rfl, B.notSynchronized⟩ ⟨rfl, B.returns, htab⟩ s.heap _ [] (hRel.fr (fun q => by cases q)) va_S.rf ⟨?_, ?_, hl.2.1, fun i w hw => ?_⟩
  · rw [hml]; exact hl.1
  · rw [hml]; exact entL_len _ _ hlen
  · exact hl.2.2 _ (entL_in args maxL 0 i w hw)
theorem E_xret (O : Ok K own cc nL R) {x : Int32} {r : XR} (Z : OutX K (some .int) r) (hf : some (.inr (x, h)) = some r) (hc : a.2.1 ≤ R.cells ∧ a.2.2 ≤ R.slots) (d : decode cc pc = .ok (.ireturn, 1)) : EE K a pc L [.int x] h := by
  intro H ls locs hR hS hL
  cases hf
  have hc : a.2.1 ≤ (kR K).cells ∧ a.2.2 ≤ (kR K).slots := by rw [O.2.2.2.2.2.2.1]; exact hc
  unfold WW
  rw [Z.1]
  refine W.widen hc.1 hc.2 ?_
  refine vx_ret ?_
  exact W.iret O.x O.b Z.2.1 (fun t ht hW => ⟨_, rfl, rfl, by rw [ht]; exact hR.fr (fun q => by cases q), hS.F ht⟩) hS.2.2 d O.2.2.2.2.2.2.2
abbrev xNames : List String := ["java/lang/RuntimeException", "java/lang/Exception"]
def XT (own : String) (k ik ic : Nat) : Prop := Bundle.fit (XE k) = true ∧ Cond.classLink own ik (XE k) ∈ AW ∧ Cond.initialized (XE k) ∈ AW ∧ (∀ w ∈ vx_atS own ic (XE k) xNames, w ∈ AW ∨ w ∈ XW) ∧ ∀ w ∈ Cond.classLink own ik (XE k) :: Cond.initialized (XE k) :: vx_atS own ic (XE k) xNames, vx_ot w = true
theorem XW_use {w : Cond} (h : w ∈ XW) {A : Array Value} {U : State} (hZ : va_Nw w U) : w.before A U = true := by
  have h2 := (List.mem_filter.mp h).2
  cases w <;> first | exact va_Nw.use rfl hZ | (simp [XNest] at h2; done)
theorem E_throw (O : Ok K "RailSequence" cc nL R) {r : XR} {rt : Option FieldType} (Z : OutX K rt r) (k ik is ic : Nat) (text : String) (F : XT "RailSequence" k ik ic) (hs : (is, text) ∈ XS) (hf : some (.inl (k, h)) = some r)
    (d0 : decode cc pc = .ok (.new ik, 3)) (d3 : decode cc (pc + 3) = .ok (.dup, 1)) (d4 : decode cc (pc + 4) = .ok (.ldc is, 2)) (d6 : decode cc (pc + 6) = .ok (.invokespecial ic, 3)) (d9 : decode cc (pc + 9) = .ok (.athrow, 1))
    (hfr : 5 < R.frames) (hlo : 82 ≤ R.locals) (hc : a.2.1 + 1 ≤ R.cells ∧ a.2.2 + 6 ≤ R.slots) : EE K a pc L [] h := by
  intro H ls locs hR hS hL
  cases hf
  have hRR : kR K = R := O.2.2.2.2.2.2.1
  rw [← hRR] at hfr hlo hc
  obtain ⟨sa, hstr⟩ := O.bg.2.2.2.2.2.2.2.2.1 _ hs
  have hst : (gl K.1).stackTraces = false := O.bg.2.2.2.2.2.2.2.2.2.2.2.1
  unfold WW
  rw [Z.1]
  exact vx_throwS (names := xNames) (sa := sa) O.x O.b hst O.ow F.1 (by decide) (O.ws _ F.2.1) (O.ws _ F.2.2.1) hstr (fun w hw => (F.2.2.2.1 w hw).elim (O.ws w) (fun z => XW_use z (O.bg.2.2.2.2.2.2.2.2.2.2.1 w z))) F.2.2.2.2 O.bg.2.2.2.2.2.1 O.bg.2.2.2.2.2.2.1 hS hL.1 d0 d3 d4 d6 d9 (fun x hx => (Z.2.2 x hx).elim) hfr hlo hc.1 hc.2 O.2.2.2.2.2.2.2
    (fun t ht hz hk => ⟨_, rfl, rfl, ⟨hR.1.kept (fun k q hq => hk _ (hR.1 k q hq).lt), Nat.le_trans hR.2.1 hz, (fun q => by cases q), hR.2.2.2⟩, ⟨Nat.le_trans hS.1 hz, fun q h1 h2 => by rw [hk q (Nat.lt_of_lt_of_le h1 hS.1)]; exact hS.2.1 q h1 h2⟩⟩) hS.2.2 hc.1 hc.2
/-- a throw that has come to this place -/
def EX (K : Cx) (a : Bool × Nat × Nat) (pc : Nat) (L : List (Option Value)) (S : List Value) (k : Nat) (h : MH) : Prop :=
  ∀ (H : Heap) (ls : Array Slot) (locs : List Loc), Rel K.1 a.1 h H → va_S (gA K.1) (ks K).heap H locs → LR (gad K.1) (kc K).maxLocals L ls → ∀ (q : Addr) (ce : Cell), H[q]? = some ce → ce.vm = .none → (ks K).vm.findClass (XE k) = some ce.cls →
    vx_W K.2.1.1 (gl K.1) K.2.1.2.1 (kR K) (ks K) (km K) (kargs K) K.2.2.1.2.2.1 (kmeth K) (kc K) H locs a.2.1 a.2.2 K.2.2.2 (F0 (km K) pc ls (S.map (mv (gad K.1)))) q
theorem E_callVX {ρ : Type} (O : Ok K own cc nL R) {index ci b : Nat} {y : MethodName} {bytes : ByteArray} {maxL : Nat} {ret : Option FieldType} {rf rl : Nat} (As : List Value) {S0 : List Value} {o : Option XR} {fL : Nat × MH → Option ρ} {fR : Int32 × MH → Option ρ} {out : ρ} (w : CV own index y bytes maxL ret As.length) (hci : (vwCl[ci]?).map (fun r => r.1) = some y.cls)
    (hM : ∀ r, o = some r → MX K.1 y bytes maxL ret rf rl a.1 (.ref b :: As) h r) (d : decode cc pc = .ok (.invokevirtual index, 3)) (hf : (vcall h ci b o).bind (Sum.elim fL fR) = some out) (hst : S0 = As.reverse ++ .ref b :: S)
    (hr : rf + 1 ≤ R.frames ∧ 8 + (maxL + 11) + rl ≤ R.locals) (hc : a.2.1 + 1 ≤ R.cells ∧ a.2.2 + 6 ≤ R.slots) (hsum : (S.map fun v => v.category).sum ≤ 8) (kk : ∀ p, fR p = some out → EE K (false, a.2.1 + 1, a.2.2 + 6) (pc + 3) L (.int p.1 :: S) p.2) (kx : ∀ p, fL p = some out → EX K (false, a.2.1 + 1, a.2.2 + 6) pc L S p.1 p.2) : EE K a pc L S0 h := by
  intro H ls locs hR hS hL
  subst hst
  obtain ⟨r, e1, e2⟩ := ob hf
  obtain ⟨e1, e3⟩ := vcall_of e1
  obtain ⟨fs, g1⟩ := isO_of e1
  obtain ⟨q, hq1, hq2⟩ := Option.map_eq_some_iff.mp hci
  have hc : a.2.1 + 1 ≤ (kR K).cells ∧ a.2.2 + 6 ≤ (kR K).slots := by rw [O.2.2.2.2.2.2.1]; exact hc
  have hrecv := va_recv O.k hR.1 hq1 (mw_get g1)
  rw [hq2] at hrecv
  have hrun := vx_runV (e := K.2.1.2.1) (below := K.2.2.1.2.2.1) (meth := kmeth K) (As := As.map (mv (gad K.1))) (rest := S.map (mv (gad K.1))) (locs := locs) (cells := a.2.1) (slots := a.2.2) ⟨O.x, O.b, O.2.2.1, O.ow, O.ws⟩ (hM r e3) ⟨CB.use O w.1 hr, O.ws _ w.2.1, O.ws _ w.2.2⟩ ⟨Pm_blind, hrecv, Pm_at O hR hS⟩ (g := F0 (km K) pc ls ((As.reverse ++ .ref b :: S).map (mv (gad K.1)))) rfl (by simp) (by show ls.size = _; rw [hL.1, O.2.2.1]) (by show List.map _ _ = _; simp [mv]) (S_room hsum) d hc
  intro T hT X
  rcases hrun T hT X with ⟨v', st₀, t, T', L', h0, X', hL', e4, e5, ⟨p, hp, hv, hRel, hF⟩, st⟩ | ⟨q, st₀, t, T', L', E, ce, h0, X', hL', e4, e5, ⟨p, hp, hE, hRel, hF⟩, hce, hcv, hcl, st⟩
  · cases hv
    subst hp
    obtain ⟨k1, k2, k3⟩ := vx_keep h0 e4 hS (fun _ _ z => z) (fun _ z => z) hL' hF
    obtain ⟨t2, a1, b1⟩ := kk p e2 T'.heap ls _ (by rw [e4]; exact hRel) k3 hL T' rfl X'
    exact ⟨t2, st t2 a1, b1⟩
  · subst hp
    subst hE
    obtain ⟨k1, k2, k3⟩ := vx_keep h0 e4 hS (fun _ _ z => z) (fun _ z => z) hL' hF
    obtain ⟨t2, a1, b1⟩ := kx p e2 T'.heap ls _ (by rw [e4]; exact hRel) k3 hL q ce (by rw [e4]; exact hce) hcv hcl T' rfl X'
    exact ⟨t2, st.trans a1, b1⟩
theorem LR.setn {ad : Nat → Nat} {nL : Nat} {L : List (Option Value)} {ls ls' : Array Slot} {i : Nat} {v : Value} (h : LR ad nL L ls) (hp : pok L i = true)
    (h' : lv_has ls' nL ((i, v) :: (lvl ad L).filter (fun q => !(q.1 == i) && !(q.1 + 1 == i && q.2.category == 2)))) : LR ad nL (L.set i none) ls' := by
  refine ⟨h'.1, by rw [List.length_set]; exact h.2.1, h'.2.1, fun j w hj => ?_⟩
  rw [List.getElem?_set] at hj
  by_cases hij : i = j
  · rw [if_pos hij] at hj
    split at hj <;> cases hj
  · rw [if_neg hij] at hj
    refine h'.2.2 (j, mv ad w) (List.mem_cons_of_mem _ (List.mem_filter.mpr ⟨lvl_in hj, ?_⟩))
    simp only [Bool.and_eq_true, Bool.not_eq_true', beq_eq_false_iff_ne, ne_eq, Bool.and_eq_false_iff]
    refine ⟨fun z => hij z.symm, ?_⟩
    by_cases hj1 : j + 1 = i
    · right
      subst hj1
      simp only [pok, hj] at hp
      rw [mv_cat]
      simpa using hp
    · exact Or.inl hj1
/-- caught: the handler's first instruction lays the exception into a place that nobody reads -/
theorem E_catch (O : Ok K own cc nL R) {hh : List (Nat × Nat × Nat × Nat)} (hT : (kc K).exceptionTable.toList = tableOf hh) {k i len : Nat} {name : String} (pre : List (Nat × Nat × Nat × Nat)) (x : Nat × Nat × Nat × Nat) (suf : List (Nat × Nat × Nat × Nat)) (L' : List (Option Value)) (hsplit : hh = pre ++ x :: suf)
    (hpass : ∀ z ∈ pre, z.2.2.2 ≠ 0 ∧ ∃ nm : String, Cond.classLink own z.2.2.2 nm ∈ AW ∧ (XE k, nm) ∈ XN) (hx : covers ⟨x.1, x.2.1, x.2.2.1, x.2.2.2⟩ pc = true) (h0 : x.2.2.2 ≠ 0) (hlink : Cond.classLink own x.2.2.2 name ∈ AW) (hname : XE k = name) (hcast : Cond.castable name name ∈ XW)
    (hn : i < nL) (hpk : pok L i = true) (hl : L.set i none = L') (d : decode cc x.2.2.1 = .ok (.astore i, 2) ∧ len = 2 ∨ (∃ kf : Fin 4, (kf : Nat) = i ∧ decode cc x.2.2.1 = .ok (.astore_n kf, 1)) ∧ len = 1) (kk : EE K a (x.2.2.1 + len) L' [] h) : EX K a pc L S k h := by
  intro H ls locs hR hS hL q ce hce hcv hcl
  subst hl; subst hname; subst hsplit
  have hn' : i < (kc K).maxLocals := by rw [O.2.2.1]; exact hn
  refine vx_catch (own := own) (name := XE k) (E := XE k) O.ow (tableOf pre) ⟨x.1, x.2.1, x.2.2.1, x.2.2.2⟩ (tableOf suf) (by rw [hT]; simp [tableOf]) (fun z hz => ?_) hx h0 (O.ws _ hlink) (XW_use hcast (O.bg.2.2.2.2.2.2.2.2.2.2.1 _ hcast)) hce hcv hcl ?_
  · obtain ⟨z', hz', rfl⟩ := List.mem_map.mp hz
    obtain ⟨g1, nm, g2, g3⟩ := hpass z' hz'
    exact Or.inr ⟨g1, nm, O.ws _ g2, O.bg.2.2.2.2.2.2.2.2.2.1 _ g3⟩
  · rcases d with ⟨d, rfl⟩ | ⟨⟨kf, hk, d⟩, rfl⟩
    · exact lv_astore O.x O.b d hL.has hn' rfl (fun ls' h' => kk H ls' locs hR hS (hL.setn hpk h'))
    · exact lv_astore_n O.x O.b d hk hL.has hn' rfl (fun ls' h' => kk H ls' locs hR hS (hL.setn hpk h'))
/-- a helper of the law: it has a table, it returns -/
def MH_ (g : Gx) (y : MethodName) (cc : ByteArray) (maxL : Nat) (ret : Option FieldType) (hh : List (Nat × Nat × Nat × Nat)) (rf rl : Nat) (fr : Bool) (args : List Value) (h : MH) (v : Option Value) (h' : MH) : Prop :=
  Met (gl g) y (Cond.codeWith y cc maxL ret hh :: AW) (rmm rf rl 1 6) (va_Pc (args.map (mv (gad g))) (Pm g fr h)) (Qm g false v h') 1 6 (gA g)
theorem MH_of {g : Gx} {y : MethodName} {cc : ByteArray} {maxL : Nat} {ret : Option FieldType} {hh : List (Nat × Nat × Nat × Nat)} {rf rl : Nat} {fr : Bool} {args : List Value} {h : MH} {v : Option Value} {h' : MH} {L : List (Option Value)} (hy : plainName y.cls = true) (hlen : (lg_sl args).length ≤ maxL) (hL : entL args maxL = L)
    (body : ∀ K : Cx, K.1 = g → Ok K y.cls cc maxL (rmm rf rl 1 6) → Out K ret false v h' → (kc K).exceptionTable.toList = tableOf hh → EE K (false, 0, 0) 0 L [] h) : MH_ g y cc maxL ret hh rf rl fr args h v h' := by
  unfold MH_ Met
  refine MetFree.of_bodyS (code := cc) (maxLocals := maxL) (ret := ret) hy ?_ ?_
  · intro args s m h hn
    obtain ⟨m9, meth, c, hn9, h1, h2, h3, h4, -, h5, h6, -⟩ := Cond.codeWith_spec (atoms_spec (ws := Cond.codeWith y cc maxL ret hh :: AW) h _ List.mem_cons_self)
    cases hn.symm.trans hn9
    exact ⟨meth, c, h1, h2, h3, h4, h5, h6⟩
  · intro p e s m argv below meth c s₁ B hml hP _
    have hh0 : s₁.heap = s.heap := by rw [B.state]; rfl
    have hts := atoms_spec (ws := Cond.codeWith y cc maxL ret hh :: AW) B.pre
    have htab := vx_table (x := y) B (hts _ List.mem_cons_self)
    obtain ⟨rfl, hRel, hBg⟩ := hP
    have hl := lv_entry (args.map (mv (gad g))) (n := maxL) (by rw [lg_sl_len]; exact hlen)
    subst hL
    have hw : WW (g, (p, e, rmm rf rl 1 6, s), (m, (args.map (mv (gad g))).toArray, below, meth, c), MQ below (Qm g false v h') (args.map (mv (gad g))).toArray s 1 6 (gA g)) s.heap [] 0 0 (F0 m 0 ((lg_sl (args.map (mv (gad g))) ++ List.replicate (maxL - (lg_sl (args.map (mv (gad g)))).length) Slot.unset).toArray) []) := by
      refine body (g, (p, e, rmm rf rl 1 6, s), (m, (args.map (mv (gad g))).toArray, below, meth, c), MQ below (Qm g false v h') (args.map (mv (gad g))).toArray s 1 6 (gA g)) rfl ⟨B.exec, B.bytes, hml, findClass_of_methodNamed B.named, fun w hw => hts w (List.mem_cons_of_mem _ hw), hBg, rfl, B.notSynchronized⟩ ⟨rfl, B.returns⟩ htab s.heap _ [] (hRel.fr (fun q => by cases q)) va_S.rf ⟨?_, ?_, hl.2.1, fun i w hw => ?_⟩
      · rw [hml]; exact hl.1
      · rw [hml]; exact entL_len _ _ hlen
      · exact hl.2.2 _ (entL_in args maxL 0 i w hw)
    rw [← lg_entry_eq] at hw
    obtain ⟨t, a1, o, b1, b2, b3⟩ := hw s₁ hh0 (Stand.of_body B)
    exact ⟨t, o, a1, b1, b2, b3.1, b3.2⟩
def CW (own : String) (index : Nat) (y : MethodName) (bytes : ByteArray) (maxL : Nat) (ret : Option FieldType) (hh : List (Nat × Nat × Nat × Nat)) (n : Nat) : Prop :=
  Cond.methodLink own index y ∈ AW ∧ Cond.codeWith y bytes maxL ret hh ∈ AW ∧ Cond.initialized y.cls ∈ AW ∧ Cond.static y ∈ AW ∧ (y.cls ≠ "java/lang/invoke/MethodHandle" ∧ y.cls ≠ "java/lang/invoke/VarHandle" ∧ (parseMethodDescriptor y.desc).map (fun d => d.parameters.length) = some n)
theorem E_callSW {ρ : Type} (O : Ok K own cc nL R) {index : Nat} {y : MethodName} {bytes : ByteArray} {maxL : Nat} {ret : Option FieldType} {hh : List (Nat × Nat × Nat × Nat)} {rf rl : Nat} (As : List Value) {S0 : List Value} {o : Option (Int32 × MH)} {f : Int32 × MH → Option ρ} {out : ρ} (w : CW own index y bytes maxL ret hh As.length)
    (hM : ∀ r, o = some r → MH_ K.1 y bytes maxL ret hh rf rl a.1 As h (some (.int r.1)) r.2) (d : decode cc pc = .ok (.invokestatic index, 3)) (hf : o.bind f = some out) (hst : S0 = As.reverse ++ S)
    (hr : rf + 1 ≤ R.frames ∧ 8 + (maxL + 11) + rl ≤ R.locals) (hc : a.2.1 + 1 ≤ R.cells ∧ a.2.2 + 6 ≤ R.slots) (hsum : (S.map fun v => v.category).sum ≤ 8) (kk : ∀ r, f r = some out → EE K (false, a.2.1 + 1, a.2.2 + 6) (pc + 3) L (.int r.1 :: S) r.2) : EE K a pc L S0 h := by
  intro H ls locs hR hS hL
  subst hst
  obtain ⟨r, e3, e2⟩ := ob hf
  have hc : a.2.1 + 1 ≤ (kR K).cells ∧ a.2.2 + 6 ≤ (kR K).slots := by rw [O.2.2.2.2.2.2.1]; exact hc
  have hr' : (rmm rf rl 1 6).frames + 1 ≤ (kR K).frames ∧ 8 + (maxL + 11) + (rmm rf rl 1 6).locals ≤ (kR K).locals := by rw [O.2.2.2.2.2.2.1]; exact hr
  obtain ⟨w1, w2, w3, w4, w5⟩ := w
  have hG : GoodIn AW (Cond.codeWith y bytes maxL ret hh :: AW) := by
    intro w hw
    rcases List.mem_cons.mp hw with rfl | hw
    · exact ⟨w2, good_of_word (List.mem_filter.mp w2).2⟩
    · exact ⟨hw, good_of_word (List.mem_filter.mp hw).2⟩
  have hcsw : vx_CSW (kR K) (ks K) (kargs K) own index y bytes maxL ret hh (Cond.codeWith y bytes maxL ret hh :: AW) (rmm rf rl 1 6) 1 6 As.length := by
    refine ⟨⟨rfl, rfl, hr'.1, hr'.2, pay_in O.ws hG, List.mem_cons_self⟩, O.ws _ w2, O.ws _ w3, ⟨w5.1, w5.2.1⟩, fun sig h => ?_, O.ws _ w1, O.ws _ w4⟩
    have h2 := w5.2.2
    rw [h] at h2
    exact (Option.some.inj h2).symm
  have hrun := vx_runSW (e := K.2.1.2.1) (below := K.2.2.1.2.2.1) (meth := kmeth K) (As := As.map (mv (gad K.1))) (rest := S.map (mv (gad K.1))) (locs := locs) (cells := a.2.1) (slots := a.2.2) ⟨O.x, O.b, O.2.2.1, O.ow, O.ws⟩ (hM r e3) hcsw ⟨Pm_blind, Pm_at O hR hS⟩ (g := F0 (km K) pc ls ((As.reverse ++ S).map (mv (gad K.1)))) rfl (by simp) (by show ls.size = _; rw [hL.1, O.2.2.1]) (by show List.map _ _ = _; simp) (S_room hsum) d hc
  exact E_back (v := some (.int r.1)) hS hL hrun (kk r e2)
theorem E_frw {cs ss : Nat} (k : EE K (false, cs, ss) pc L S h) : EE K (true, cs, ss) pc L S h := fun H ls locs hR hS hL => k H ls locs (hR.fr (fun q => by cases q)) hS hL
theorem E_icmp_geF (O : Ok K own cc nL R) {x y : Int32} {off : Int} (tgt : Nat) (d : decode cc pc = .ok (.if_icmp .ge off, 3)) (ht : (pc : Int) + off = (tgt : Int)) (hn : ¬ y ≤ x) (kk : EE K a (pc + 3) L S h) : EE K a pc L (.int y :: .int x :: S) h := fun H ls locs hR hS hL => lv_icmp_ge O.x O.b d ht (fun c => absurd c hn) (fun _ => kk H ls locs hR hS hL)
theorem E_icmp_geT (O : Ok K own cc nL R) {x y : Int32} {off : Int} (tgt : Nat) (d : decode cc pc = .ok (.if_icmp .ge off, 3)) (ht : (pc : Int) + off = (tgt : Int)) (hn : y ≤ x) (kk : EE K a tgt L S h) : EE K a pc L (.int y :: .int x :: S) h := fun H ls locs hR hS hL => lv_icmp_ge O.x O.b d ht (fun _ => kk H ls locs hR hS hL) (fun c => absurd hn c)
