/-! what is made; static fields; the library's own -/
variable {K : Cx} {own : String} {cc : ByteArray} {nL : Nat} {R : Room} {a : Bool × Nat × Nat} {pc : Nat} {L : List (Option Value)} {S : List Value} {h : MH}
def nO (h : MH) (ci : Nat) (fs : List Value) : Option MH := if h.length < 1000 then some (h ++ [.inr (ci, fs)]) else none
def nA (h : MH) (t : Nat) (x : vp_A) : Option MH := if h.length < 1000 then some (h ++ [.inl (t, x)]) else none
theorem Rel.push {g : Gx} (h8 : ∀ i, i < 1000 → gad g i = gb g + i) {h : MH} {H H1 : Heap} {c : MC} (hR : Rel g true h H) (hl : h.length < 1000) (hc : va_at (gD g) vwCl (gad g h.length, mcl (gad g) (gcA g) c) H1) (z : H1.size = H.size + 1) (oq : ∀ q : Nat, q < H.size → H1[q]? = H[q]?) : Rel g true (h ++ [c]) H1 := by
  have hz := hR.2.2.1 rfl
  refine ⟨?_, by rw [z, hz, List.length_append]; simp; omega, fun _ => by rw [z, hz, List.length_append]; simp; omega, by rw [List.length_append]; simp; omega⟩
  rw [← mw_push]
  refine (hR.1.kept (fun k q hq => oq _ (hR.1 k q hq).lt)).app (fun k q hq => ?_)
  cases k with
  | zero =>
    simp only [List.getElem?_cons_zero, Option.some.injEq] at hq
    subst hq
    exact hc
  | succ k => simp at hq
theorem va_S.push {A : Nat → Prop} {H0 H H1 : Heap} {locs : List Loc} (hS : va_S A H0 H locs) (z : H1.size = H.size + 1) (oq : ∀ q : Nat, q < H.size → H1[q]? = H[q]?) : va_S A H0 H1 locs := ⟨Nat.le_trans hS.1 (by omega), fun x h1 h2 => (oq x (Nat.lt_of_lt_of_le h1 hS.1)).trans (hS.2.1 x h1 h2), hS.2.2⟩
def NW (own : String) (index ci : Nat) (fs : List Value) : Prop := ∃ (r : vw_C) (ty : Nat → FieldType), vwCl[ci]? = some r ∧ (∀ w ∈ u_ws r.1 r.2.1 r.2.2, w ∈ AW) ∧ (∀ k, k < r.2.2 → parseFieldDescriptor (r.2.1 k).2.2.1 = some (ty k)) ∧ Cond.classLink own index r.1 ∈ AW ∧ Cond.instantiable r.1 r.2.2 ∈ AW ∧ Cond.initialized r.1 ∈ AW ∧ (∀ j, j < r.2.2 → defaultValue (ty j) = vp_V fs j) ∧ (∀ ad : Nat → Nat, fs.map (mv ad) = fs) ∧ r.2.2 = fs.length
theorem E_new (O : Ok K own cc nL R) {index ci : Nat} {fs : List Value} {cs ss : Nat} {ρ : Type} {f : MH → Option ρ} {out : ρ} (F : NW own index ci fs) (d : decode cc pc = .ok (.new index, 3)) (hf : (nO h ci fs).bind f = some out) (hc : cs + 1 ≤ R.cells ∧ ss + fs.length ≤ R.slots) (kk : ∀ h', f h' = some out → EE K (true, cs + 1, ss + fs.length) (pc + 3) L (.ref h.length :: S) h') : EE K (true, cs, ss) pc L S h := by
  intro H ls locs hR hS hL
  obtain ⟨h', e1, e2⟩ := ob hf
  unfold nO at e1
  split at e1
  case isFalse => cases e1
  rename_i hl
  cases e1
  obtain ⟨⟨C, T, N⟩, ty, f1, f2, f3, f4, f5, f6, f7, f8, f9⟩ := F
  dsimp only at f2 f3 f4 f5 f6 f7 f9
  have hc : cs + 1 ≤ (kR K).cells ∧ ss + fs.length ≤ (kR K).slots := by rw [O.2.2.2.2.2.2.1]; exact hc
  have hKn := O.k.1 ci _ f1
  subst f9
  refine W.newcK O.x O.b O.ow (O.ws _ f4) (O.ws _ f5) (O.ws _ f6) rfl d hc.1 hc.2 hKn.2.1 rfl fun H1 kC hkC e1 z1 o1 => ?_
  have h8 := O.bg.2.2.2.2.2.2.2.1
  have hz := hR.2.2.1 rfl
  have hsz : H.size = gad K.1 h.length := by rw [hz, h8 _ hl]
  have hat : va_at (gD K.1) vwCl (gad K.1 h.length, mcl (gad K.1) (gcA K.1) (.inr (ci, fs))) H1 := by
    rw [hsz] at e1
    refine ⟨_, f1, ?_⟩
    show t_OB _ _ _ _ _ (vp_V (fs.map (mv (gad K.1))))
    rw [f8]
    exact (u_born ty O.ws f2 hKn hkC e1 f3).to f7
  have hg := kk _ e2 H1 ls locs (hR.push h8 hl hat z1 o1) (va_S.push hS z1 o1) hL
  rw [show (F0 (km K) pc ls (S.map (mv (gad K.1)))).stack = S.map (mv (gad K.1)) from rfl, hsz]
  exact hg
theorem gcA_int (O : Ok K own cc nL R) {i : Nat} {cA : ClassId} {ty : FieldType} (hi : (gtys (gcA K.1))[i]? = some (gcA K.1 i, ty)) (hn : (ks K).vm.findClass ("[" ++ ty.toString) = some cA) : cA = gcA K.1 i := by
  have h2 := (O.k.2 i _ hi).2
  cases ty with
  | object C =>
    obtain ⟨kA, comp, h1, h2, h3, h4⟩ := h2
    exact Option.some.inj (hn.symm.trans h4)
  | _ => exact Option.some.inj (hn.symm.trans h2)
theorem E_newaI (O : Ok K own cc nL R) {n : Int32} {N cs ss : Nat} {ρ : Type} {f : MH → Option ρ} {out : ρ} (harr : Cond.arrayClass .int ∈ AW) (d : decode cc pc = .ok (.newarray .int, 2)) (hn : ¬ n < 0) (hN : n.toNatClampNeg = N) (hb : N ≤ 60000) (hf : (nA h 0 (N, .inl (fun _ => 0))).bind f = some out) (hc : cs + 1 ≤ R.cells ∧ ss + N ≤ R.slots) (kk : ∀ h', f h' = some out → EE K (true, cs + 1, ss + N) (pc + 2) L (.ref h.length :: S) h') : EE K (true, cs, ss) pc L (.int n :: S) h := by
  intro H ls locs hR hS hL
  obtain ⟨h', e1, e2⟩ := ob hf
  unfold nA at e1
  split at e1
  case isFalse => cases e1
  rename_i hl
  cases e1
  have hc : cs + 1 ≤ (kR K).cells ∧ ss + N ≤ (kR K).slots := by rw [O.2.2.2.2.2.2.1]; exact hc
  have h8 := O.bg.2.2.2.2.2.2.2.1
  have hz := hR.2.2.1 rfl
  have hsz : H.size = gad K.1 h.length := by rw [hz, h8 _ hl]
  refine va_newaK (atype := .int) O.x O.b (O.ws _ harr) rfl d rfl hn hN (by show N * _ ≤ _; simp only [newarray.typeOf, componentBytes]; omega) hc.1 hc.2 rfl fun H1 cA e1 z1 o1 hAr hNm => ?_
  have hcA : cA = gcA K.1 0 := gcA_int (ty := .int) O rfl hNm
  subst hcA
  have hat : va_at (gD K.1) vwCl (gad K.1 h.length, mcl (gad K.1) (gcA K.1) (.inl (0, (N, .inl (fun _ => 0))))) H1 := by
    rw [hsz] at e1
    exact e1
  have hg := kk _ e2 H1 ls locs (hR.push h8 hl hat z1 o1) (va_S.push hS z1 o1) hL
  rw [hsz]
  exact hg
theorem E_newaR (O : Ok K own cc nL R) {index : Nat} {n : Int32} {N cs ss : Nat} {ρ : Type} {f : MH → Option ρ} {out : ρ} (hcl : Cond.classLink own index "RailSequence$Plant" ∈ AW) (d : decode cc pc = .ok (.anewarray index, 3)) (hn : ¬ n < 0) (hN : n.toNatClampNeg = N) (hb : N ≤ 60000) (hf : (nA h 2 (N, .inr (.inr (.inr (.inr (fun _ => none)))))).bind f = some out) (hc : cs + 1 ≤ R.cells ∧ ss + N ≤ R.slots) (kk : ∀ h', f h' = some out → EE K (true, cs + 1, ss + N) (pc + 3) L (.ref h.length :: S) h') : EE K (true, cs, ss) pc L (.int n :: S) h := by
  intro H ls locs hR hS hL
  obtain ⟨h', e1, e2⟩ := ob hf
  unfold nA at e1
  split at e1
  case isFalse => cases e1
  rename_i hl
  cases e1
  have hc : cs + 1 ≤ (kR K).cells ∧ ss + N ≤ (kR K).slots := by rw [O.2.2.2.2.2.2.1]; exact hc
  have h8 := O.bg.2.2.2.2.2.2.2.1
  have hz := hR.2.2.1 rfl
  have hsz : H.size = gad K.1 h.length := by rw [hz, h8 _ hl]
  subst hN
  refine W.anew O.x O.b O.ow (O.ws _ hcl) (va_AO.use O.bg.2.2.2.2.2.2.2.2.2.2.2.2) rfl d rfl hn (by omega) hc.1 hc.2 fun cA kA comp f1 f2 f3 f4 => ?_
  have hcA : cA = gcA K.1 2 := gcA_int (ty := .object "RailSequence$Plant") O rfl f1
  subst hcA
  generalize hH1 : H.push ({ cls := gcA K.1 2, slots := Array.replicate n.toNatClampNeg .null, vm := .none } : Cell) = H1
  have z1 : H1.size = H.size + 1 := by rw [← hH1, Array.size_push]
  have e1 : H1[H.size]? = some (arrV (gcA K.1 2) n.toNatClampNeg (fun _ => .null)) := by rw [← hH1, Array.getElem?_push_size, ← arrV_new]
  have o1 : ∀ q : Nat, q < H.size → H1[q]? = H[q]? := fun q hq => by rw [← hH1, Array.getElem?_push, if_neg (Nat.ne_of_lt hq)]
  have hat : va_at (gD K.1) vwCl (gad K.1 h.length, mcl (gad K.1) (gcA K.1) (.inl (2, (n.toNatClampNeg, .inr (.inr (.inr (.inr (fun _ => none)))))))) H1 := by
    rw [hsz] at e1
    exact e1
  have hg := kk _ e2 H1 ls locs (hR.push h8 hl hat z1 o1) (va_S.push hS z1 o1) hL
  rw [hsz]
  exact hg
theorem E_objInit (O : Ok K own cc nL R) {idx b : Nat} (hlink : Cond.methodLink own idx Lib.objectInit ∈ AW) (hinst : Cond.instanceMethod Lib.objectInit ∈ AW) (hcode : Cond.code Lib.objectInit ⟨#[0xb1]⟩ 1 none ∈ AW) (hfr : 1 ≤ R.frames) (hlo : (S.map fun v => v.category).sum + 12 ≤ R.locals) (d : decode cc pc = .ok (.invokespecial idx, 3)) (kk : EE K a (pc + 3) L S h) : EE K a pc L (.ref b :: S) h := by
  intro H ls locs hR hS hL
  have hRR : kR K = R := O.2.2.2.2.2.2.1
  have hcat : ((S.map (mv (gad K.1))).map fun v => v.category).sum = (S.map fun v => v.category).sum := by
    rw [List.map_map]
    congr 1
    exact List.map_congr_left (fun v _ => mv_cat v)
  rw [← hRR] at hfr hlo
  exact W.objInit O.x O.b O.ow (O.ws _ hlink) (O.ws _ hinst) (O.ws _ hcode) rfl (hL.1) rfl d hfr (by show 2 * 0 + _ + 12 ≤ (kR K).locals; rw [hcat]; omega) (kk H ls locs hR hS hL)
/-- a constructor's call -/
theorem E_callI {ρ : Type} (O : Ok K own cc nL R) {index b : Nat} {y : MethodName} {bytes : ByteArray} {maxL : Nat} {rf rl mc ms : Nat} {fr' : Bool} {o : Option MH} {f : MH → Option ρ} {out : ρ} (w : CB own index y bytes maxL none 0) (hy1 : y.name = "<init>") (hin : Cond.instanceMethod y ∈ AW)
    (hM : ∀ r, o = some r → MM K.1 y bytes maxL none rf rl mc ms a.1 fr' [.ref b] h none r) (d : decode cc pc = .ok (.invokespecial index, 3)) (hf : o.bind f = some out)
    (hr : rf + 1 ≤ R.frames ∧ 8 + (maxL + 11) + rl ≤ R.locals) (hc : a.2.1 + mc ≤ R.cells ∧ a.2.2 + ms ≤ R.slots) (hsum : (S.map fun v => v.category).sum ≤ 8) (kk : ∀ r, f r = some out → EE K (fr', a.2.1 + mc, a.2.2 + ms) (pc + 3) L S r) : EE K a pc L (.ref b :: S) h := by
  intro H ls locs hR hS hL
  obtain ⟨r, e3, e2⟩ := ob hf
  have hc : a.2.1 + mc ≤ (kR K).cells ∧ a.2.2 + ms ≤ (kR K).slots := by rw [O.2.2.2.2.2.2.1]; exact hc
  have hrun := va_runI (e := K.2.1.2.1) (below := K.2.2.1.2.2.1) (meth := kmeth K) (As := []) (rest := S.map (mv (gad K.1))) (locs := locs) (cells := a.2.1) (slots := a.2.2) ⟨O.x, O.b, O.2.2.1, O.ow, O.ws⟩ (hM r e3) ⟨CB.use O w hr, hy1, O.ws _ hin⟩ ⟨Pm_blind, Pm_at O hR hS⟩ (g := F0 (km K) pc ls ((.ref b :: S).map (mv (gad K.1)))) rfl rfl (by show ls.size = _; rw [hL.1, O.2.2.1]) rfl (S_room hsum) d hc
  exact E_back hS hL hrun (kk r e2)
/-- a nest mate's constructor -/
def CN (own : String) (index : Nat) (y : MethodName) (host : String) (bytes : ByteArray) (maxL : Nat) : Prop :=
  Cond.methodLinkNest own index y host ∈ XW ∧ Cond.code y bytes maxL none ∈ AW ∧ Cond.initialized y.cls ∈ AW ∧ Cond.instanceMethod y ∈ AW ∧ y.name = "<init>" ∧ (y.cls ≠ "java/lang/invoke/MethodHandle" ∧ y.cls ≠ "java/lang/invoke/VarHandle" ∧ (parseMethodDescriptor y.desc).map (fun d => d.parameters.length) = some 0)
theorem E_callIN {ρ : Type} (O : Ok K own cc nL R) {index b : Nat} {y : MethodName} {host : String} {bytes : ByteArray} {maxL : Nat} {rf rl mc ms : Nat} {fr' : Bool} {o : Option MH} {f : MH → Option ρ} {out : ρ} (w : CN own index y host bytes maxL)
    (hM : ∀ r, o = some r → MM K.1 y bytes maxL none rf rl mc ms a.1 fr' [.ref b] h none r) (d : decode cc pc = .ok (.invokespecial index, 3)) (hf : o.bind f = some out)
    (hr : rf + 1 ≤ R.frames ∧ 8 + (maxL + 11) + rl ≤ R.locals) (hc : a.2.1 + mc ≤ R.cells ∧ a.2.2 + ms ≤ R.slots) (hsum : (S.map fun v => v.category).sum ≤ 8) (kk : ∀ r, f r = some out → EE K (fr', a.2.1 + mc, a.2.2 + ms) (pc + 3) L S r) : EE K a pc L (.ref b :: S) h := by
  intro H ls locs hR hS hL
  obtain ⟨r, e3, e2⟩ := ob hf
  have hc : a.2.1 + mc ≤ (kR K).cells ∧ a.2.2 + ms ≤ (kR K).slots := by rw [O.2.2.2.2.2.2.1]; exact hc
  have hnest := O.bg.2.2.2.2.2.2.2.2.2.2.1 _ w.1
  have hr' : (rmm rf rl mc ms).frames + 1 ≤ (kR K).frames ∧ 8 + (maxL + 11) + (rmm rf rl mc ms).locals ≤ (kR K).locals := by rw [O.2.2.2.2.2.2.1]; exact hr
  have hrun := va_runIN (e := K.2.1.2.1) (below := K.2.2.1.2.2.1) (meth := kmeth K) (As := []) (rest := S.map (mv (gad K.1))) (locs := locs) (cells := a.2.1) (slots := a.2.2) ⟨O.x, O.b, O.2.2.1, O.ow, O.ws⟩ (hM r e3) ⟨va_cnB 0 O.ws (AW_self w.2.1) rfl rfl rfl hnest (O.ws _ w.2.2.1) w.2.2.2.2.2 hr', w.2.2.2.2.1, O.ws _ w.2.2.2.1⟩ ⟨Pm_blind, Pm_at O hR hS⟩ (g := F0 (km K) pc ls ((.ref b :: S).map (mv (gad K.1)))) rfl rfl (by show ls.size = _; rw [hL.1, O.2.2.1]) rfl (S_room hsum) d hc
  exact E_back hS hL hrun (kk r e2)
theorem E_getsLEAST (O : Ok K own cc nL R) {index : Nat} (hw : Cond.fieldLink own index "RailSequence" "LEAST" "[I" ∈ AW) (d : decode cc pc = .ok (.getstatic index, 3)) (kk : EE K a (pc + 3) L (.ref (RO + 1) :: S) h) : EE K a pc L S h := by
  intro H ls locs hR hS hL
  exact va_gets O.x O.b O.bg.2.2.2.1 hS O.ow (O.ws _ hw) (fun _ z => z) d (kk H ls locs hR hS hL)
theorem E_getsLEASTN (O : Ok K own cc nL R) {index : Nat} (hw : Cond.fieldLinkNest own index "RailSequence" "LEAST" "[I" "RailSequence" ∈ XW) (d : decode cc pc = .ok (.getstatic index, 3)) (kk : EE K a (pc + 3) L (.ref (RO + 1) :: S) h) : EE K a pc L S h := by
  intro H ls locs hR hS hL
  have hn := va_Nw.use (A := kargs K) rfl (O.bg.2.2.2.2.2.2.2.2.2.2.1 _ hw)
  exact va_getsN O.x O.b O.bg.2.2.2.1 hS O.ow hn (fun _ z => z) d (kk H ls locs hR hS hL)
theorem E_getsMOST (O : Ok K own cc nL R) {index : Nat} (hw : Cond.fieldLink own index "RailSequence" "MOST" "[I" ∈ AW) (d : decode cc pc = .ok (.getstatic index, 3)) (kk : EE K a (pc + 3) L (.ref (RO + 2) :: S) h) : EE K a pc L S h := by
  intro H ls locs hR hS hL
  exact va_gets O.x O.b O.bg.2.2.2.2.1 hS O.ow (O.ws _ hw) (fun _ z => z) d (kk H ls locs hR hS hL)
theorem E_getsMOSTN (O : Ok K own cc nL R) {index : Nat} (hw : Cond.fieldLinkNest own index "RailSequence" "MOST" "[I" "RailSequence" ∈ XW) (d : decode cc pc = .ok (.getstatic index, 3)) (kk : EE K a (pc + 3) L (.ref (RO + 2) :: S) h) : EE K a pc L S h := by
  intro H ls locs hR hS hL
  have hn := va_Nw.use (A := kargs K) rfl (O.bg.2.2.2.2.2.2.2.2.2.2.1 _ hw)
  exact va_getsN O.x O.b O.bg.2.2.2.2.1 hS O.ow hn (fun _ z => z) d (kk H ls locs hR hS hL)
def mmax (x y : Int32) : Int32 := if x < y then y else x
theorem E_max (O : Ok K own cc nL R) {index : Nat} {x y : Int32} (hlink : Cond.methodLink own index Lib.Math.max.name ∈ AW) (hstat : Cond.static Lib.Math.max.name ∈ AW) (hini : Cond.initialized "java/lang/Math" ∈ AW) (hcode : Cond.code Lib.Math.max.name Lib.Math.max.code 2 (some .int) ∈ AW) (hfr : 1 ≤ R.frames) (hlo : (S.map fun v => v.category).sum + 13 ≤ R.locals) (hc : a.2.1 ≤ R.cells ∧ a.2.2 ≤ R.slots) (d : decode cc pc = .ok (.invokestatic index, 3)) (kk : EE K a (pc + 3) L (.int (mmax x y) :: S) h) : EE K a pc L (.int y :: .int x :: S) h := by
  intro H ls locs hR hS hL
  have hRR : kR K = R := O.2.2.2.2.2.2.1
  have hcat : ((S.map (mv (gad K.1))).map fun v => v.category).sum = (S.map fun v => v.category).sum := by
    rw [List.map_map]
    congr 1
    exact List.map_congr_left (fun v _ => mv_cat v)
  rw [← hRR] at hfr hlo hc
  exact va_mmax O.x O.b hL.1.symm O.ow (O.ws _ hlink) (O.ws _ hstat) (O.ws _ hini) (O.ws _ hcode) hfr (by rw [hcat]; exact hlo) hc.1 hc.2 d (kk H ls locs hR hS hL)
def mmin (x y : Int32) : Int32 := if y < x then y else x
theorem E_min (O : Ok K own cc nL R) {index : Nat} {x y : Int32} (hlink : Cond.methodLink own index Lib.Math.min.name ∈ AW) (hstat : Cond.static Lib.Math.min.name ∈ AW) (hini : Cond.initialized "java/lang/Math" ∈ AW) (hcode : Cond.code Lib.Math.min.name Lib.Math.min.code 2 (some .int) ∈ AW) (hfr : 1 ≤ R.frames) (hlo : (S.map fun v => v.category).sum + 13 ≤ R.locals) (hc : a.2.1 ≤ R.cells ∧ a.2.2 ≤ R.slots) (d : decode cc pc = .ok (.invokestatic index, 3)) (kk : EE K a (pc + 3) L (.int (mmin x y) :: S) h) : EE K a pc L (.int y :: .int x :: S) h := by
  intro H ls locs hR hS hL
  have hRR : kR K = R := O.2.2.2.2.2.2.1
  have hcat : ((S.map (mv (gad K.1))).map fun v => v.category).sum = (S.map fun v => v.category).sum := by
    rw [List.map_map]
    congr 1
    exact List.map_congr_left (fun v _ => mv_cat v)
  rw [← hRR] at hfr hlo hc
  exact va_mmin O.x O.b hL.1.symm O.ow (O.ws _ hlink) (O.ws _ hstat) (O.ws _ hini) (O.ws _ hcode) hfr (by rw [hcat]; exact hlo) hc.1 hc.2 d (kk H ls locs hR hS hL)
theorem E_d2rl (O : Ok K own cc nL R) {index : Nat} {x : UInt64} (hlink : Cond.methodLink own index ⟨"java/lang/Double", "doubleToRawLongBits", "(D)J"⟩ ∈ AW) (hnat : Cond.native ⟨"java/lang/Double", "doubleToRawLongBits", "(D)J"⟩ ∈ AW) (hstat : Cond.static ⟨"java/lang/Double", "doubleToRawLongBits", "(D)J"⟩ ∈ AW) (hini : Cond.initialized "java/lang/Double" ∈ AW) (hfr : 1 ≤ R.frames) (hlo : (S.map fun v => v.category).sum + 15 ≤ R.locals) (d : decode cc pc = .ok (.invokestatic index, 3)) (kk : EE K a (pc + 3) L (.long x.toInt64 :: S) h) : EE K a pc L (.double x :: S) h := by
  intro H ls locs hR hS hL
  have hRR : kR K = R := O.2.2.2.2.2.2.1
  have hcat : ((S.map (mv (gad K.1))).map fun v => v.category).sum = (S.map fun v => v.category).sum := by
    rw [List.map_map]
    congr 1
    exact List.map_congr_left (fun v _ => mv_cat v)
  rw [← hRR] at hfr hlo
  exact vn_d2l O.x O.b hL.1.symm O.ow (O.ws _ hlink) (O.ws _ hnat) (O.ws _ hstat) (O.ws _ hini) hfr (by rw [hcat]; exact hlo) d (kk H ls locs hR hS hL)
