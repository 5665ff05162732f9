/-! fields and arrays of the small heap -/
def hF (h : MH) (ci b k : Nat) : Option Value := match h[b]? with
  | some (.inr o) => if o.1 = ci then o.2[k]? else none
  | _ => none
def hI (h : MH) (ci b k : Nat) : Option Int32 := match hF h ci b k with
  | some (.int x) => some x
  | _ => none
def hR (h : MH) (ci b k : Nat) : Option Nat := match hF h ci b k with
  | some (.ref x) => some x
  | _ => none
def hL (h : MH) (ci b k : Nat) : Option Int64 := match hF h ci b k with
  | some (.long x) => some x
  | _ => none
def hP (h : MH) (ci b k : Nat) (v : Value) : Option MH := match h[b]? with
  | some (.inr o) => if o.1 = ci ∧ k < o.2.length then some (h.set b (.inr (ci, o.2.set k v))) else none
  | _ => none
def aC (h : MH) (t b : Nat) : Option vp_A := match h[b]? with
  | some (.inl p) => if p.1 = t then some p.2 else none
  | _ => none
def rA (n : Nat) (f : Nat → Int32) (j : Int32) : Option Int32 := if j < 0 ∨ n ≤ j.toNatClampNeg then none else some (f j.toNatClampNeg)
def aI (h : MH) (b : Nat) (j : Int32) : Option Int32 := match aC h 0 b with
  | some (n, .inl f) => rA n f j
  | _ => none
def sI (h : MH) (b : Nat) (j x : Int32) : Option MH := match aC h 0 b with
  | some (n, .inl f) => if j < 0 ∨ n ≤ j.toNatClampNeg then none else some (h.set b (.inl (0, n, .inl (upd f j.toNatClampNeg x))))
  | _ => none
def aL (h : MH) (b : Nat) (j : Int32) : Option Int64 := match aC h 1 b with
  | some (n, .inr (.inl f)) => if j < 0 ∨ n ≤ j.toNatClampNeg then none else some (f j.toNatClampNeg)
  | _ => none
def sL (h : MH) (b : Nat) (j : Int32) (x : Int64) : Option MH := match aC h 1 b with
  | some (n, .inr (.inl f)) => if j < 0 ∨ n ≤ j.toNatClampNeg then none else some (h.set b (.inl (1, n, .inr (.inl (vp_updL f j.toNatClampNeg x)))))
  | _ => none
def aR (h : MH) (b : Nat) (j : Int32) : Option Nat := match aC h 2 b with
  | some (n, .inr (.inr (.inr (.inr f)))) => if j < 0 ∨ n ≤ j.toNatClampNeg then none else f j.toNatClampNeg
  | _ => none
def isO (h : MH) (ci b : Nat) : Bool := match h[b]? with
  | some (.inr o) => o.1 == ci
  | _ => false
def sR (h : MH) (b : Nat) (j : Int32) (x : Nat) : Option MH := match aC h 2 b with
  | some (n, .inr (.inr (.inr (.inr f)))) => if j < 0 ∨ n ≤ j.toNatClampNeg ∨ isO h 1 x = false then none else some (h.set b (.inl (2, n, .inr (.inr (.inr (.inr (va_up f j.toNatClampNeg (some x))))))))
  | _ => none
def cpA (h : MH) (b : Nat) (sp : Int32) (b1 : Nat) (dp n : Int32) : Option MH := match aC h 0 b, aC h 0 b1 with
  | some (n0, .inl f), some (n1, .inl g) => if sp < 0 ∨ dp < 0 ∨ n < 0 ∨ n0 < sp.toNatClampNeg + n.toNatClampNeg ∨ n1 < dp.toNatClampNeg + n.toNatClampNeg then none else some (h.set b1 (.inl (0, n1, .inl (va_cpy f g sp.toNatClampNeg dp.toNatClampNeg n.toNatClampNeg))))
  | _, _ => none
theorem hF_of {h : MH} {ci b k : Nat} {v : Value} (e : hF h ci b k = some v) : ∃ fs, h[b]? = some (.inr (ci, fs)) ∧ fs[k]? = some v := by
  unfold hF at e
  split at e
  · next o ho =>
    split at e
    · next hc =>
      obtain ⟨c, fs⟩ := o
      dsimp only at hc
      subst hc
      exact ⟨fs, ho, e⟩
    · cases e
  · cases e
theorem hI_of {h : MH} {ci b k : Nat} {v : Int32} (e : hI h ci b k = some v) : hF h ci b k = some (.int v) := by
  unfold hI at e
  split at e
  · next x hx => cases e; exact hx
  · cases e
theorem hR_of {h : MH} {ci b k : Nat} {v : Nat} (e : hR h ci b k = some v) : hF h ci b k = some (.ref v) := by
  unfold hR at e
  split at e
  · next x hx => cases e; exact hx
  · cases e
theorem hL_of {h : MH} {ci b k : Nat} {v : Int64} (e : hL h ci b k = some v) : hF h ci b k = some (.long v) := by
  unfold hL at e
  split at e
  · next x hx => cases e; exact hx
  · cases e
theorem hP_of {h h' : MH} {ci b k : Nat} {v : Value} (e : hP h ci b k v = some h') : ∃ fs, h[b]? = some (.inr (ci, fs)) ∧ k < fs.length ∧ h' = h.set b (.inr (ci, fs.set k v)) := by
  unfold hP at e
  split at e
  · next o ho =>
    split at e
    · next hc =>
      obtain ⟨c, fs⟩ := o
      dsimp only at hc
      obtain ⟨rfl, hk⟩ := hc
      cases e
      exact ⟨fs, ho, hk, rfl⟩
    · cases e
  · cases e
theorem aC_of {h : MH} {t b : Nat} {x : vp_A} (e : aC h t b = some x) : h[b]? = some (.inl (t, x)) := by
  unfold aC at e
  split at e
  · next p hp =>
    split at e
    · next ht =>
      obtain ⟨t', x'⟩ := p
      dsimp only at ht
      subst ht
      cases e
      exact hp
    · cases e
  · cases e
theorem rA_of {n : Nat} {f : Nat → Int32} {j v : Int32} (e : rA n f j = some v) : vp_in j n ∧ v = f j.toNatClampNeg := by
  unfold rA at e
  split at e
  · cases e
  · next hn => cases e; exact ⟨hn, rfl⟩
theorem aI_of {h : MH} {b : Nat} {j v : Int32} (e : aI h b j = some v) : ∃ n f, h[b]? = some (.inl (0, n, .inl f)) ∧ vp_in j n ∧ v = f j.toNatClampNeg := by
  unfold aI at e
  split at e
  · next n f hx =>
    obtain ⟨h1, h2⟩ := rA_of e
    exact ⟨n, f, aC_of hx, h1, h2⟩
  · cases e
theorem sI_of {h h' : MH} {b : Nat} {j x : Int32} (e : sI h b j x = some h') : ∃ n f, h[b]? = some (.inl (0, n, .inl f)) ∧ vp_in j n ∧ h' = h.set b (.inl (0, n, .inl (upd f j.toNatClampNeg x))) := by
  unfold sI at e
  split at e
  · next n f hx =>
    split at e
    · cases e
    · next hn => cases e; exact ⟨n, f, aC_of hx, hn, rfl⟩
  · cases e
theorem aL_of {h : MH} {b : Nat} {j : Int32} {v : Int64} (e : aL h b j = some v) : ∃ n f, h[b]? = some (.inl (1, n, .inr (.inl f))) ∧ vp_in j n ∧ v = f j.toNatClampNeg := by
  unfold aL at e
  split at e
  · next n f hx =>
    split at e
    · cases e
    · next hn => cases e; exact ⟨n, f, aC_of hx, hn, rfl⟩
  · cases e
theorem sL_of {h h' : MH} {b : Nat} {j : Int32} {x : Int64} (e : sL h b j x = some h') : ∃ n f, h[b]? = some (.inl (1, n, .inr (.inl f))) ∧ vp_in j n ∧ h' = h.set b (.inl (1, n, .inr (.inl (vp_updL f j.toNatClampNeg x)))) := by
  unfold sL at e
  split at e
  · next n f hx =>
    split at e
    · cases e
    · next hn => cases e; exact ⟨n, f, aC_of hx, hn, rfl⟩
  · cases e
theorem aR_of {h : MH} {b : Nat} {j : Int32} {v : Nat} (e : aR h b j = some v) : ∃ n f, h[b]? = some (.inl (2, n, .inr (.inr (.inr (.inr f))))) ∧ vp_in j n ∧ f j.toNatClampNeg = some v := by
  unfold aR at e
  split at e
  · next n f hx =>
    split at e
    · cases e
    · next hn => exact ⟨n, f, aC_of hx, hn, e⟩
  · cases e
theorem isO_of {h : MH} {ci b : Nat} (e : isO h ci b = true) : ∃ fs, h[b]? = some (.inr (ci, fs)) := by
  unfold isO at e
  split at e
  · next o ho =>
    obtain ⟨c, fs⟩ := o
    have e : c = ci := by simpa using e
    subst e
    exact ⟨fs, ho⟩
  · cases e
theorem sR_of {h h' : MH} {b x : Nat} {j : Int32} (e : sR h b j x = some h') : ∃ n f fs, h[b]? = some (.inl (2, n, .inr (.inr (.inr (.inr f))))) ∧ vp_in j n ∧ h[x]? = some (.inr (1, fs)) ∧ h' = h.set b (.inl (2, n, .inr (.inr (.inr (.inr (va_up f j.toNatClampNeg (some x))))))) := by
  unfold sR at e
  split at e
  · next n f hx =>
    split at e
    · cases e
    · next hn =>
      have hn2 : vp_in j n := fun z => hn (z.elim Or.inl (fun z => Or.inr (Or.inl z)))
      have hi : isO h 1 x = true := by
        cases hb : isO h 1 x with
        | true => rfl
        | false => exact absurd (Or.inr (Or.inr hb)) hn
      obtain ⟨fs, hfs⟩ := isO_of hi
      cases e
      exact ⟨n, f, fs, aC_of hx, hn2, hfs, rfl⟩
  · cases e
theorem cpA_of {h h' : MH} {b b1 : Nat} {sp dp n : Int32} (e : cpA h b sp b1 dp n = some h') : ∃ n0 f n1 g, h[b]? = some (.inl (0, n0, .inl f)) ∧ h[b1]? = some (.inl (0, n1, .inl g)) ∧ ¬ sp < 0 ∧ ¬ dp < 0 ∧ ¬ n < 0 ∧ sp.toNatClampNeg + n.toNatClampNeg ≤ n0 ∧ dp.toNatClampNeg + n.toNatClampNeg ≤ n1 ∧ h' = h.set b1 (.inl (0, n1, .inl (va_cpy f g sp.toNatClampNeg dp.toNatClampNeg n.toNatClampNeg))) := by
  unfold cpA at e
  split at e
  · next n0 f n1 g h1 h2 =>
    split at e
    · cases e
    · next hn =>
      simp only [not_or, Nat.not_lt] at hn
      cases e
      exact ⟨n0, f, n1, g, aC_of h1, aC_of h2, hn.1, hn.2.1, hn.2.2.1, hn.2.2.2.1, hn.2.2.2.2, rfl⟩
  · cases e
variable {K : Cx} {own : String} {cc : ByteArray} {nL : Nat} {R : Room} {a : Bool × Nat × Nat} {pc : Nat} {L : List (Option Value)} {S : List Value} {h : MH}
theorem Rel.get {g : Gx} {fr : Bool} {h : MH} {H : Heap} (hR : Rel g fr h H) {b : Nat} {c : MC} (e : h[b]? = some c) : va_at (gD g) vwCl (gad g b, mcl (gad g) (gcA g) c) H := hR.1 b _ (mw_get e)
theorem Rel.set {g : Gx} {fr : Bool} {h : MH} {H H1 : Heap} (h8 : ∀ i, i < 1000 → gad g i = gb g + i) (hR : Rel g fr h H) {b : Nat} {c c' : MC} (e : h[b]? = some c) (he : va_at (gD g) vwCl (gad g b, mcl (gad g) (gcA g) c') H1) (z : H1.size = H.size) (oq : ∀ q : Nat, q ≠ gad g b → H1[q]? = H[q]?) : Rel g fr (h.set b c') H1 := by
  refine ⟨?_, by rw [List.length_set, z]; exact hR.2.1, fun q => by rw [List.length_set, z]; exact hR.2.2.1 q, by rw [List.length_set]; exact hR.2.2.2⟩
  have := hR.1.set (mw_D h8 hR.2.2.2) (mw_get e) he oq
  rwa [mw_set] at this
/-- what the tables say of a field that is read, written, written in a constructor -/
def FL (own : String) (index ci k : Nat) : Prop := ∃ r : vw_C, vwCl[ci]? = some r ∧ (∀ w ∈ u_ws r.1 r.2.1 r.2.2, w ∈ AW) ∧ k < r.2.2 ∧ Cond.fieldLink own index (r.2.1 k).1 (r.2.1 k).2.1 (r.2.1 k).2.2.1 ∈ AW
def FW (own : String) (index ci k : Nat) (ty : FieldType) : Prop := ∃ (r : vw_C) (ty0 : Nat → FieldType), vwCl[ci]? = some r ∧ (∀ w ∈ u_ws r.1 r.2.1 r.2.2, w ∈ AW) ∧ k < r.2.2 ∧ Cond.fieldLink own index (r.2.1 k).1 (r.2.1 k).2.1 (r.2.1 k).2.2.1 ∈ AW ∧
  (∀ k, k < r.2.2 → parseFieldDescriptor (r.2.1 k).2.2.1 = some (ty0 k)) ∧ (∀ a, a < r.2.2 → ∀ b, b < r.2.2 → a ≠ b → (r.2.1 a).2.1 ≠ (r.2.1 b).2.1) ∧ ty0 k = ty
def FN (own : String) (index ci k : Nat) (ty : FieldType) : Prop := FW own index ci k ty ∧ ∀ r : vw_C, vwCl[ci]? = some r → (r.2.1 k).2.2.2 = false
def FF (own : String) (index ci k : Nat) (ty : FieldType) : Prop := FW own index ci k ty ∧ ∀ r : vw_C, vwCl[ci]? = some r → (r.2.1 k).2.2.2 = true ∧ (r.2.1 k).1 = own
theorem E_getF (O : Ok K own cc nL R) {index ci b k : Nat} {v : Value} (F : FL own index ci k) (d : decode cc pc = .ok (.getfield index, 3)) (e : hF h ci b k = some v) (kk : EE K a (pc + 3) L (v :: S) h) : EE K a pc L (.ref b :: S) h := by
  intro H ls locs hR hS hL
  obtain ⟨fs, e1, e2⟩ := hF_of e
  obtain ⟨r, f1, f2, f3, f4⟩ := F
  exact va_get O.x O.b O.ws f2 O.ow O.k hR.1 b (mw_get e1) f1 k f3 (O.ws _ f4) (fun _ z => z) (v := mv (gad K.1) v) (by rw [List.getElem?_map, e2]; rfl) d (kk H ls locs hR hS hL)
theorem E_getI (O : Ok K own cc nL R) {index ci b k : Nat} {ρ : Type} {f : Int32 → Option ρ} {out : ρ} (F : FL own index ci k) (d : decode cc pc = .ok (.getfield index, 3)) (hf : (hI h ci b k).bind f = some out) (kk : ∀ x, f x = some out → EE K a (pc + 3) L (.int x :: S) h) : EE K a pc L (.ref b :: S) h := by
  obtain ⟨x, e1, e2⟩ := ob hf
  exact E_getF O F d (hI_of e1) (kk x e2)
theorem E_getR (O : Ok K own cc nL R) {index ci b k : Nat} {ρ : Type} {f : Nat → Option ρ} {out : ρ} (F : FL own index ci k) (d : decode cc pc = .ok (.getfield index, 3)) (hf : (hR h ci b k).bind f = some out) (kk : ∀ x, f x = some out → EE K a (pc + 3) L (.ref x :: S) h) : EE K a pc L (.ref b :: S) h := by
  obtain ⟨x, e1, e2⟩ := ob hf
  exact E_getF O F d (hR_of e1) (kk x e2)
theorem E_getL (O : Ok K own cc nL R) {index ci b k : Nat} {ρ : Type} {f : Int64 → Option ρ} {out : ρ} (F : FL own index ci k) (d : decode cc pc = .ok (.getfield index, 3)) (hf : (hL h ci b k).bind f = some out) (kk : ∀ x, f x = some out → EE K a (pc + 3) L (.long x :: S) h) : EE K a pc L (.ref b :: S) h := by
  obtain ⟨x, e1, e2⟩ := ob hf
  exact E_getF O F d (hL_of e1) (kk x e2)
theorem mv_nar {ad : Nat → Nat} {ty : FieldType} {v : Value} (hn : narrow ty v = v) (hf : fits ty v = true) : narrow ty (mv ad v) = mv ad v ∧ fits ty (mv ad v) = true := by
  cases v <;> first | exact ⟨hn, hf⟩ | (cases ty <;> first | exact ⟨rfl, rfl⟩ | cases hf)
theorem E_put (O : Ok K own cc nL R) {index ci b k : Nat} {ty : FieldType} {v : Value} {ρ : Type} {f : MH → Option ρ} {out : ρ} (F : FN own index ci k ty) (hn : narrow ty v = v) (hfit : fits ty v = true) (d : decode cc pc = .ok (.putfield index, 3)) (hf : (hP h ci b k v).bind f = some out) (kk : ∀ h', f h' = some out → EE K a (pc + 3) L S h') : EE K a pc L (v :: .ref b :: S) h := by
  intro H ls locs hR hS hL
  obtain ⟨h', e1, e2⟩ := ob hf
  obtain ⟨fs, g1, g2, rfl⟩ := hP_of e1
  obtain ⟨⟨⟨C, T, N⟩, ty0, f1, f2, f3, f4, f5, f6, f7⟩, f8⟩ := F
  have hfin := f8 _ f1
  dsimp only at f2 f3 f4 f5 f6 hfin
  have hap := va_apart (own := own) O.ws f2 ty0 f5 f6 O.k f1
  obtain ⟨r, h1, cell, q1, q2, q3, q4⟩ := hR.get g1
  have hr : r = (C, T, N) := Option.some.inj (h1.symm.trans f1)
  subst hr
  obtain ⟨hSl, hfc, kC, hkC, hkind⟩ := O.k.1 ci _ f1
  obtain ⟨cf, kf, fi, fd, hi, hsl⟩ := hSl k f3
  have hlay := O.ws _ (f2 _ (u_in_lay f3))
  unfold u_lay at hlay
  rw [if_neg (by rw [hfin]; decide)] at hlay
  have hst := (u_facts hfc hkC (u_lays O.ws f2 f3) hi).1
  obtain ⟨hn', hfit'⟩ := mv_nar (ad := gad K.1) hn hfit
  have h6 := u_store hfc hkC hkind hlay hi (f5 k f3) (by rw [f7]; exact hn') (by rw [f7]; exact hfit')
  refine W.putK O.x O.b (f := fd) ⟨O.ow, O.ws _ f4, ⟨_, _, _, hi⟩, hst⟩ (by rw [q2]; exact h6) q1 q3 (by rw [hsl]; exact k2_hasslot (q4 k f3)) rfl rfl d fun H' e1 e2' e3 => ?_
  rw [hsl] at e1 ⊢
  refine kk _ e2 H' ls _ (hR.set O.bg.2.2.2.2.2.2.2.1 g1 ⟨_, f1, ?_⟩ e2' e3) (hS.put e2' e3 ((O.D hR.2.2.2).2 b _ (mw_get g1))) hL
  show t_OB _ _ _ _ _ (vp_V ((fs.set k v).map (mv (gad K.1))))
  rw [List.map_set]
  exact t_OB.to (V := updV (vp_V (fs.map (mv (gad K.1)))) k (mv (gad K.1) v)) ⟨_, e1, q2, q3, t_set q4 hap f3 _⟩ (fun j _ => vp_updV_set (by simpa using g2) _ j)
theorem E_putF (O : Ok K own cc nL R) {index ci b k : Nat} {ty : FieldType} {v : Value} {ρ : Type} {f : MH → Option ρ} {out : ρ} (F : FF own index ci k ty) (hini : (kmeth K).name = "<init>") (hn : narrow ty v = v) (hfit : fits ty v = true) (d : decode cc pc = .ok (.putfield index, 3)) (hf : (hP h ci b k v).bind f = some out) (kk : ∀ h', f h' = some out → EE K a (pc + 3) L S h') : EE K a pc L (v :: .ref b :: S) h := by
  intro H ls locs hR hS hL
  obtain ⟨h', e1, e2⟩ := ob hf
  obtain ⟨fs, g1, g2, rfl⟩ := hP_of e1
  obtain ⟨⟨⟨C, T, N⟩, ty0, f1, f2, f3, f4, f5, f6, f7⟩, f8⟩ := F
  obtain ⟨hfin, hdecl⟩ := f8 _ f1
  dsimp only at f2 f3 f4 f5 f6 hfin hdecl
  have hap := va_apart (own := own) O.ws f2 ty0 f5 f6 O.k f1
  obtain ⟨r, h1, cell, q1, q2, q3, q4⟩ := hR.get g1
  have hr : r = (C, T, N) := Option.some.inj (h1.symm.trans f1)
  subst hr
  obtain ⟨hSl, hfc, kC, hkC, hkind⟩ := O.k.1 ci _ f1
  obtain ⟨cf, kf, fi, fd, hi, hsl⟩ := hSl k f3
  have hlay := O.ws _ (f2 _ (u_in_lay f3))
  unfold u_lay at hlay
  rw [if_pos hfin] at hlay
  have hst := (u_facts hfc hkC (u_lays O.ws f2 f3) hi).1
  have hcf : (km K).cls = cf := by
    obtain ⟨_, _, c', _, _, _, -, -, hf', -, -, -, hown2, -⟩ := Cond.laysFinal_spec hlay
    have e1 : c' = cf := by have := hi.symm.trans hf'; simp at this; exact this.1.symm
    rw [hdecl] at hown2
    rw [← e1]; exact Option.some.inj (O.ow.symm.trans hown2)
  obtain ⟨hn', hfit'⟩ := mv_nar (ad := gad K.1) hn hfit
  have h6 := u_fits hfc hkC hkind (Or.inr hlay) hi (f5 k f3) (by rw [f7]; exact hn') (by rw [f7]; exact hfit')
  refine W.putFinK O.x O.b O.ow (O.ws _ f4) hi hst hcf hini (by rw [q2]; exact h6) q1 q3 (by rw [hsl]; exact k2_hasslot (q4 k f3)) rfl rfl d fun H' e1 e2' e3 => ?_
  rw [hsl] at e1 ⊢
  refine kk _ e2 H' ls _ (hR.set O.bg.2.2.2.2.2.2.2.1 g1 ⟨_, f1, ?_⟩ e2' e3) (hS.put e2' e3 ((O.D hR.2.2.2).2 b _ (mw_get g1))) hL
  show t_OB _ _ _ _ _ (vp_V ((fs.set k v).map (mv (gad K.1))))
  rw [List.map_set]
  exact t_OB.to (V := updV (vp_V (fs.map (mv (gad K.1)))) k (mv (gad K.1) v)) ⟨_, e1, q2, q3, t_set q4 hap f3 _⟩ (fun j _ => vp_updV_set (by simpa using g2) _ j)
theorem E_iaload (O : Ok K own cc nL R) {b : Nat} {j : Int32} {ρ : Type} {f : Int32 → Option ρ} {out : ρ} (d : decode cc pc = .ok (.iaload, 1)) (hf : (aI h b j).bind f = some out) (kk : ∀ x, f x = some out → EE K a (pc + 1) L (.int x :: S) h) : EE K a pc L (.int j :: .ref b :: S) h := by
  intro H ls locs hR hS hL
  obtain ⟨x, e1, e2⟩ := ob hf
  obtain ⟨n, fn, g1, g2, rfl⟩ := aI_of e1
  exact va_iald O.x O.b O.k hR.1 b 0 (mw_get g1) rfl g2 d (kk _ e2 H ls locs hR hS hL)
theorem E_ialoadRO (O : Ok K own cc nL R) {i n : Nat} {xs : Nat → Int32} {j : Int32} {ρ : Type} {f : Int32 → Option ρ} {out : ρ} (hi : i < 3) (hx : gro K.1 i = (n, xs)) (d : decode cc pc = .ok (.iaload, 1)) (hf : (rA n xs j).bind f = some out) (kk : ∀ x, f x = some out → EE K a (pc + 1) L (.int x :: S) h) : EE K a pc L (.int j :: .ref (RO + i) :: S) h := by
  intro H ls locs hR hS hL
  obtain ⟨x, e1, e2⟩ := ob hf
  obtain ⟨g2, rfl⟩ := rA_of e1
  obtain ⟨b1, b2⟩ := O.bg.2.1 i hi
  rw [hx] at b1
  obtain ⟨scr, s1, s2, s3, s4, s5, s6⟩ := b1
  have hlt : j.toNatClampNeg < n := Nat.not_le.mp fun q => g2 (Or.inr q)
  exact W.iald (v := .int (xs j.toNatClampNeg)) O.x O.b (by rw [hS.2.1 _ (Nat.lt_of_lt_of_le b2 O.bg.2.2.1) (fun z => absurd z (Nat.not_le.mpr b2))]; exact s1) s2 s3 (fun z => z.elim (fun z => g2 (Or.inl z)) (fun z => absurd (Nat.lt_of_lt_of_le hlt s4) (Nat.not_lt.mpr z))) (s6 _ hlt) rfl rfl d (kk _ e2 H ls locs hR hS hL)
theorem E_alenRO (O : Ok K own cc nL R) {i n : Nat} {xs : Nat → Int32} (hi : i < 3) (hx : gro K.1 i = (n, xs)) (d : decode cc pc = .ok (.arraylength, 1)) (kk : EE K a (pc + 1) L (.int (Int32.ofNat n) :: S) h) : EE K a pc L (.ref (RO + i) :: S) h := by
  intro H ls locs hR hS hL
  obtain ⟨b1, b2⟩ := O.bg.2.1 i hi
  rw [hx] at b1
  obtain ⟨scr, s1, s2, s3, s4, s5, s6⟩ := b1
  exact W.alen (n := Int32.ofNat n) O.x O.b (by rw [hS.2.1 _ (Nat.lt_of_lt_of_le b2 O.bg.2.2.1) (fun z => absurd z (Nat.not_le.mpr b2))]; exact s1) s2 s5 rfl rfl d (kk H ls locs hR hS hL)
theorem E_aaload (O : Ok K own cc nL R) {b : Nat} {j : Int32} {ρ : Type} {f : Nat → Option ρ} {out : ρ} (d : decode cc pc = .ok (.aaload, 1)) (hf : (aR h b j).bind f = some out) (kk : ∀ x, f x = some out → EE K a (pc + 1) L (.ref x :: S) h) : EE K a pc L (.int j :: .ref b :: S) h := by
  intro H ls locs hR hS hL
  obtain ⟨x, e1, e2⟩ := ob hf
  obtain ⟨n, fn, g1, g2, g3⟩ := aR_of e1
  refine va_aldq O.x O.b O.k hR.1 b 2 (mw_get g1) rfl g2 d ?_
  rw [g3]
  exact kk _ e2 H ls locs hR hS hL
theorem E_iastore (O : Ok K own cc nL R) {b : Nat} {j x : Int32} {ρ : Type} {f : MH → Option ρ} {out : ρ} (d : decode cc pc = .ok (.iastore, 1)) (hf : (sI h b j x).bind f = some out) (kk : ∀ h', f h' = some out → EE K a (pc + 1) L S h') : EE K a pc L (.int x :: .int j :: .ref b :: S) h := by
  intro H ls locs hR hS hL
  obtain ⟨h', e1, e2⟩ := ob hf
  obtain ⟨n, fn, g1, g2, rfl⟩ := sI_of e1
  refine W.iast O.x O.b (hR.get g1) ((O.k.2 0 _ rfl).1 n (fun j => .int (fn j))) (fun q => by cases q) (by show ¬ (j < 0 ∨ (arrV _ _ _).slots.size ≤ _); rw [arrV_size]; exact g2) rfl rfl d fun H1 e z oq => ?_
  refine kk _ e2 H1 ls _ (hR.set O.bg.2.2.2.2.2.2.2.1 g1 ?_ z oq) (hS.put z oq ((O.D hR.2.2.2).2 b _ (mw_get g1))) hL
  show H1[gad K.1 b]? = some (vp_cell _ _)
  rw [e]
  show some (Cell.setSlot (arrV _ n (fun j => .int (fn j))) _ _) = some (arrV _ n (fun q => .int (upd fn j.toNatClampNeg x q)))
  rw [arrV_store]
  congr 2
  funext q
  by_cases hq : q = j.toNatClampNeg
  · subst hq
    simp [updV, upd]
  · simp [updV, upd, hq]
theorem E_aastore (O : Ok K own cc nL R) {b : Nat} {j : Int32} {x : Nat} {ρ : Type} {f : MH → Option ρ} {out : ρ} (d : decode cc pc = .ok (.aastore, 1)) (hf : (sR h b j x).bind f = some out) (kk : ∀ h', f h' = some out → EE K a (pc + 1) L S h') : EE K a pc L (.ref x :: .int j :: .ref b :: S) h := by
  intro H ls locs hR hS hL
  obtain ⟨h', e1, e2⟩ := ob hf
  obtain ⟨n, fn, fs, g1, g2, g3, rfl⟩ := sR_of e1
  have hlt : j.toNatClampNeg < n := Nat.not_le.mp fun q => g2 (Or.inr q)
  have h0 : ¬ j < 0 := fun q => g2 (Or.inl q)
  obtain ⟨r', hr', cellV, q1, q2, q3, -⟩ := hR.get g3
  have hc : vwCl[1]? = some (RX1, TX1, 18) := rfl
  have hcls := (O.k.1 1 _ hc).2
  obtain ⟨kA, comp, k1, k2, k3, -⟩ := (O.k.2 2 _ rfl).2
  have hcomp : comp = (gD K.1).1 1 := Option.some.inj (k3.symm.trans hcls.1)
  subst hcomp
  obtain ⟨kC, hkC, -⟩ := hcls.2
  refine W.aast O.x O.b (hR.get g1) (fun q h => by cases h) (fun h => by cases h) k1 k2 rfl hkC ⟨h0, by show _ < (arrV _ _ _).slots.size; rw [arrV_size]; exact hlt⟩ q1 (fun q h => by rw [q3] at h; cases h) (by rw [q2]; exact hkC) (by rw [q2]; exact va_assign hcls) rfl rfl d fun H1 e z oq => ?_
  refine kk _ e2 H1 ls _ (hR.set O.bg.2.2.2.2.2.2.2.1 g1 ?_ z oq) (hS.put z oq ((O.D hR.2.2.2).2 b _ (mw_get g1))) hL
  show H1[gad K.1 b]? = some (vp_cell _ _)
  rw [e]
  show some (Cell.setSlot (arrV _ n (fun j => va_rf ((fn j).map (gad K.1)))) _ _) = some (arrV _ n (fun q => va_rf ((va_up fn j.toNatClampNeg (some x) q).map (gad K.1))))
  rw [arrV_store]
  congr 2
  funext q
  by_cases hq : q = j.toNatClampNeg
  · subst hq
    simp [updV, va_up, va_rf]
  · simp [updV, va_up, hq]
theorem E_acopy (O : Ok K own cc nL R) {index b b1 : Nat} {sp dp n : Int32} {ρ : Type} {f : MH → Option ρ} {out : ρ} (hlink : Cond.methodLink own index arraycopyName ∈ AW) (hnat : Cond.native arraycopyName ∈ AW) (hstat : Cond.static arraycopyName ∈ AW) (hini : Cond.initialized "java/lang/System" ∈ AW) (hfr : 1 ≤ R.frames) (hlo : (S.map fun v => v.category).sum + (nativeFrameWords "java/lang/System" "arraycopy" 5 + 11) ≤ R.locals) (d : decode cc pc = .ok (.invokestatic index, 3))
    (hf : (cpA h b sp b1 dp n).bind f = some out) (kk : ∀ h', f h' = some out → EE K a (pc + 3) L S h') : EE K a pc L (.int n :: .int dp :: .ref b1 :: .int sp :: .ref b :: S) h := by
  intro H ls locs hR hS hL T hT X
  obtain ⟨h', e1, e2⟩ := ob hf
  obtain ⟨n0, fn, n1, gn, g1, g2, h1, h2, h3, h4, h5, rfl⟩ := cpA_of e1
  have hRR : kR K = R := O.2.2.2.2.2.2.1
  have hfr' : 1 ≤ (kR K).frames := by rw [hRR]; exact hfr
  rw [← hRR] at hlo
  have nn : ∀ z : Int32, ¬ z < 0 → z.toInt = (z.toNatClampNeg : Int) := fun z hz => by
    have hz0 : (0 : Int) ≤ z.toInt := by simpa using Int32.le_iff_toInt_le.mp (Int32.not_lt.mp hz)
    show z.toInt = ((z.toInt.toNat : Nat) : Int)
    omega
  have hc0 : H[gad K.1 b]? = some (vp_cell (gcA K.1 0) (n0, .inl fn)) := hR.get g1
  have hc1 : H[gad K.1 b1]? = some (vp_cell (gcA K.1 0) (n1, .inl gn)) := hR.get g2
  obtain ⟨-, k0, hk0, cm0, hkk0⟩ := (O.k.2 0 _ rfl).1 n0 (fun j => .int (fn j))
  have hcat : ((S.map (mv (gad K.1))).map fun v => v.category).sum = (S.map fun v => v.category).sum := by
    rw [List.map_map]
    congr 1
    exact List.map_congr_left (fun v _ => mv_cat v)
  obtain ⟨vm', X', step⟩ := X.arraycopy O.x O.ow (O.ws _ hlink) (O.ws _ hnat) (O.ws _ hstat) (O.ws _ hini) (src := gad K.1 b) (dst := gad K.1 b1) (cs := vp_cell (gcA K.1 0) (n0, .inl fn)) (cd := vp_cell (gcA K.1 0) (n1, .inl gn)) (srcPos := sp) (destPos := dp) (n := n) (by rw [hT]; exact hc0) (by rw [hT]; exact hc1)
    (fun _ h => by cases h) (fun _ h => by cases h) (fun h => by cases h) (fun h => by cases h) hk0 hk0 hkk0 hkk0 (by simp [refKind]) h1 h2 h3
    (by rw [nn sp h1, nn n h3]; show ¬ _ > ((arrV (gcA K.1 0) n0 (fun j => .int (fn j))).slots.size : Int); rw [arrV_size]; omega)
    (by rw [nn dp h2, nn n h3]; show ¬ _ > ((arrV (gcA K.1 0) n1 (fun j => .int (gn j))).slots.size : Int); rw [arrV_size]; omega)
    (fun vm₁ _ i hi => by
      have e : (vp_cell (gcA K.1 0) (n0, .inl fn)).slots.getD (sp.toNatClampNeg + i) .null = .int (fn (sp.toNatClampNeg + i)) := by
        show (arrV (gcA K.1 0) n0 (fun j => .int (fn j))).slots.getD _ _ = _
        rw [Array.getD_eq_getD_getElem?, arrV_read _ _ (by omega)]
        rfl
      rw [e]
      exact ⟨rfl, trivial⟩)
    (g := F0 (km K) pc ls ((.int n :: .int dp :: .ref b1 :: .int sp :: .ref b :: S).map (mv (gad K.1)))) rfl (by show ls.size = _; rw [hL.1]) (rest := S.map (mv (gad K.1))) rfl (by rw [O.b]; exact d) hfr' (by show 2 * 0 + _ + _ ≤ (kR K).locals; rw [hcat]; omega)
  have e3 : copied (vp_cell (gcA K.1 0) (n0, .inl fn)) (vp_cell (gcA K.1 0) (n1, .inl gn)) sp dp n = vp_cell (gcA K.1 0) (n1, .inl (va_cpy fn gn sp.toNatClampNeg dp.toNatClampNeg n.toNatClampNeg)) := va_copied (fun z => .int z) (gcA K.1 0) (gcA K.1 0) fn gn h4
  rw [e3] at X' step
  have hl : gad K.1 b1 < H.size := (Array.getElem?_eq_some_iff.mp hc1).1
  have hAb := (O.D hR.2.2.2).2 b1 _ (mw_get g2)
  have oq : ∀ (cl : Cell) (q : Nat), q ≠ gad K.1 b1 → (H.setIfInBounds (gad K.1 b1) cl)[q]? = H[q]? := fun cl q hq => by simp [Array.getElem?_setIfInBounds, Ne.symm hq]
  have hheap : ∀ cl : Cell, ((T.setVm vm').setCell (gad K.1 b1) cl).heap = H.setIfInBounds (gad K.1 b1) cl := fun cl => by rw [← hT]; rfl
  have hS' : ∀ (cl : Cell) (locs1 : List Loc), (∀ q ∈ locs1, gA K.1 q.base) → va_S (gA K.1) (ks K).heap (H.setIfInBounds (gad K.1 b1) cl) (locs ++ locs1) := fun cl locs1 hq => ⟨by simp; exact hS.1, fun q g1 g2 => by
      rw [oq cl q (fun e => g2 (by rw [e]; exact hAb))]
      exact hS.2.1 q g1 g2, fun q hq' => (List.mem_append.mp hq').elim (fun z => hS.2.2 q z) (fun z => hq q z)⟩
  obtain ⟨t, a1, b1'⟩ := kk _ e2 _ ls _ (hR.set O.bg.2.2.2.2.2.2.2.1 g2 (c' := .inl (0, n1, .inl (va_cpy fn gn sp.toNatClampNeg dp.toNatClampNeg n.toNatClampNeg))) (by show (H.setIfInBounds _ _)[gad K.1 b1]? = some (vp_cell _ _); simp [Array.getElem?_setIfInBounds, hl]; rfl) (by simp) (oq _)) (hS' _ _ (fun q hq => by
        obtain ⟨z, -, hz⟩ := List.mem_map.mp hq
        rw [← hz]
        exact hAb)) hL _ (hheap _) X'
  exact ⟨t, step t a1, b1'⟩
