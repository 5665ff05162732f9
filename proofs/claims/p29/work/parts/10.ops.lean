/-! one instruction, one row, over the small heap -/
variable {K : Cx} {own : String} {cc : ByteArray} {nL : Nat} {R : Room} {a : Bool × Nat × Nat} {pc : Nat} {L : List (Option Value)} {S : List Value} {h : MH}
theorem ob {α β : Type} {x : Option α} {f : α → Option β} {r : β} (hf : x.bind f = some r) : ∃ v, x = some v ∧ f v = some r := by
  cases x with
  | none => cases hf
  | some v => exact ⟨v, rfl, hf⟩
theorem os {α : Type} {x y : α} (hf : some x = some y) : x = y := Option.some.inj hf
theorem E_iadd (O : Ok K own cc nL R) {x y : Int32} (d : decode cc pc = .ok (.iadd, 1))  (kk : EE K a (pc + 1) L (.int (x + y) :: S) h) : EE K a pc L (.int y :: .int x :: S) h := fun H ls locs hR hS hL => lv_iadd O.x O.b d  (kk H ls locs hR hS hL)
theorem E_isub (O : Ok K own cc nL R) {x y : Int32} (d : decode cc pc = .ok (.isub, 1))  (kk : EE K a (pc + 1) L (.int (x - y) :: S) h) : EE K a pc L (.int y :: .int x :: S) h := fun H ls locs hR hS hL => lv_isub O.x O.b d  (kk H ls locs hR hS hL)
theorem E_imul (O : Ok K own cc nL R) {x y : Int32} (d : decode cc pc = .ok (.imul, 1))  (kk : EE K a (pc + 1) L (.int (x * y) :: S) h) : EE K a pc L (.int y :: .int x :: S) h := fun H ls locs hR hS hL => lv_imul O.x O.b d  (kk H ls locs hR hS hL)
theorem E_iand (O : Ok K own cc nL R) {x y : Int32} (d : decode cc pc = .ok (.iand, 1))  (kk : EE K a (pc + 1) L (.int (x &&& y) :: S) h) : EE K a pc L (.int y :: .int x :: S) h := fun H ls locs hR hS hL => lv_iand O.x O.b d  (kk H ls locs hR hS hL)
theorem E_ior (O : Ok K own cc nL R) {x y : Int32} (d : decode cc pc = .ok (.ior, 1))  (kk : EE K a (pc + 1) L (.int (x ||| y) :: S) h) : EE K a pc L (.int y :: .int x :: S) h := fun H ls locs hR hS hL => lv_ior O.x O.b d  (kk H ls locs hR hS hL)
theorem E_ixor (O : Ok K own cc nL R) {x y : Int32} (d : decode cc pc = .ok (.ixor, 1))  (kk : EE K a (pc + 1) L (.int (x ^^^ y) :: S) h) : EE K a pc L (.int y :: .int x :: S) h := fun H ls locs hR hS hL => lv_ixor O.x O.b d  (kk H ls locs hR hS hL)
theorem E_ishl (O : Ok K own cc nL R) {x y : Int32} (d : decode cc pc = .ok (.ishl, 1))  (kk : EE K a (pc + 1) L (.int (x <<< (y &&& 31)) :: S) h) : EE K a pc L (.int y :: .int x :: S) h := fun H ls locs hR hS hL => lv_ishl O.x O.b d  (kk H ls locs hR hS hL)
theorem E_ishr (O : Ok K own cc nL R) {x y : Int32} (d : decode cc pc = .ok (.ishr, 1))  (kk : EE K a (pc + 1) L (.int (x >>> (y &&& 31)) :: S) h) : EE K a pc L (.int y :: .int x :: S) h := fun H ls locs hR hS hL => lv_ishr O.x O.b d  (kk H ls locs hR hS hL)
theorem E_ineg (O : Ok K own cc nL R) {x : Int32} (d : decode cc pc = .ok (.ineg, 1))  (kk : EE K a (pc + 1) L (.int (-x) :: S) h) : EE K a pc L (.int x :: S) h := fun H ls locs hR hS hL => lv_ineg O.x O.b d  (kk H ls locs hR hS hL)
theorem E_ladd (O : Ok K own cc nL R) {x y : Int64} (d : decode cc pc = .ok (.ladd, 1))  (kk : EE K a (pc + 1) L (.long (x + y) :: S) h) : EE K a pc L (.long y :: .long x :: S) h := fun H ls locs hR hS hL => lv_ladd O.x O.b d  (kk H ls locs hR hS hL)
theorem E_lsub (O : Ok K own cc nL R) {x y : Int64} (d : decode cc pc = .ok (.lsub, 1))  (kk : EE K a (pc + 1) L (.long (x - y) :: S) h) : EE K a pc L (.long y :: .long x :: S) h := fun H ls locs hR hS hL => lv_lsub O.x O.b d  (kk H ls locs hR hS hL)
theorem E_lmul (O : Ok K own cc nL R) {x y : Int64} (d : decode cc pc = .ok (.lmul, 1))  (kk : EE K a (pc + 1) L (.long (x * y) :: S) h) : EE K a pc L (.long y :: .long x :: S) h := fun H ls locs hR hS hL => lv_lmul O.x O.b d  (kk H ls locs hR hS hL)
theorem E_lshl (O : Ok K own cc nL R) {x : Int64} {y : Int32} (d : decode cc pc = .ok (.lshl, 1))  (kk : EE K a (pc + 1) L (.long (x <<< (y.toInt64 &&& 63)) :: S) h) : EE K a pc L (.int y :: .long x :: S) h := fun H ls locs hR hS hL => lv_lshl O.x O.b d rfl (kk H ls locs hR hS hL)
theorem E_i2l (O : Ok K own cc nL R) {x : Int32} (d : decode cc pc = .ok (.i2l, 1))  (kk : EE K a (pc + 1) L (.long x.toInt64 :: S) h) : EE K a pc L (.int x :: S) h := fun H ls locs hR hS hL => lv_i2l O.x O.b d rfl (kk H ls locs hR hS hL)
theorem E_lcmp (O : Ok K own cc nL R) {x y : Int64} (d : decode cc pc = .ok (.lcmp, 1))  (kk : EE K a (pc + 1) L (.int (lg_cmp x y) :: S) h) : EE K a pc L (.long y :: .long x :: S) h := fun H ls locs hR hS hL => W.lcmp O.x O.b d  (kk H ls locs hR hS hL)
theorem E_i2d (O : Ok K own cc nL R) {x : Int32} (d : decode cc pc = .ok (.i2d, 1))  (kk : EE K a (pc + 1) L (.double (FP.i2d x) :: S) h) : EE K a pc L (.int x :: S) h := fun H ls locs hR hS hL => lv_i2d O.x O.b d  (kk H ls locs hR hS hL)
theorem E_d2l (O : Ok K own cc nL R) {x : UInt64} (d : decode cc pc = .ok (.d2l, 1))  (kk : EE K a (pc + 1) L (.long (FP.d2l x) :: S) h) : EE K a pc L (.double x :: S) h := fun H ls locs hR hS hL => lv_d2l O.x O.b d  (kk H ls locs hR hS hL)
theorem E_dcmp (O : Ok K own cc nL R) {x y : UInt64} {op : CmpOp} (d : decode cc pc = .ok (.dcmp op, 1))  (kk : EE K a (pc + 1) L (.int (Op.cmpValue (FP.dcmp x y) op) :: S) h) : EE K a pc L (.double y :: .double x :: S) h := fun H ls locs hR hS hL => lv_dcmp O.x O.b d  (kk H ls locs hR hS hL)
theorem E_dconst0 (O : Ok K own cc nL R)  (d : decode cc pc = .ok (.dconst 0, 1))  (kk : EE K a (pc + 1) L (.double 0 :: S) h) : EE K a pc L (S) h := fun H ls locs hR hS hL => lv_dconst0 O.x O.b d  (kk H ls locs hR hS hL)
theorem E_dconst1 (O : Ok K own cc nL R)  (d : decode cc pc = .ok (.dconst 1, 1))  (kk : EE K a (pc + 1) L (.double 4607182418800017408 :: S) h) : EE K a pc L (S) h := fun H ls locs hR hS hL => lv_dconst1 O.x O.b d  (kk H ls locs hR hS hL)
theorem E_lconst (O : Ok K own cc nL R) {n : Fin 2} (v : Int64) (d : decode cc pc = .ok (.lconst n, 1)) (hv : Int64.ofNat (n : Nat) = v) (kk : EE K a (pc + 1) L (.long v :: S) h) : EE K a pc L (S) h := fun H ls locs hR hS hL => lv_lconst O.x O.b d hv (kk H ls locs hR hS hL)
theorem E_iconst (O : Ok K own cc nL R) {n : Int} (v : Int32) (d : decode cc pc = .ok (.iconst n, 1)) (hv : Int32.ofInt n = v) (kk : EE K a (pc + 1) L (.int v :: S) h) : EE K a pc L (S) h := fun H ls locs hR hS hL => lv_iconst O.x O.b d hv (kk H ls locs hR hS hL)
theorem E_bipush (O : Ok K own cc nL R) {n : Int} (v : Int32) (d : decode cc pc = .ok (.bipush n, 2)) (hv : (Int8.ofInt n).toInt32 = v) (kk : EE K a (pc + 2) L (.int v :: S) h) : EE K a pc L (S) h := fun H ls locs hR hS hL => lv_bipush O.x O.b d hv (kk H ls locs hR hS hL)
theorem E_sipush (O : Ok K own cc nL R) {n : Int} (v : Int32) (d : decode cc pc = .ok (.sipush n, 3)) (hv : (Int16.ofInt n).toInt32 = v) (kk : EE K a (pc + 3) L (.int v :: S) h) : EE K a pc L (S) h := fun H ls locs hR hS hL => lv_sipush O.x O.b d hv (kk H ls locs hR hS hL)
/-- an arithmetic of doubles whose answer is no NaN -/
def fdsub (x y : UInt64) : Option UInt64 := if FP.dsub x y &&& 0x7fffffffffffffff ≤ 0x7ff0000000000000 then some (FP.dsub x y) else none
theorem E_dsub (O : Ok K own cc nL R) {x y : UInt64} {ρ : Type} {f : UInt64 → Option ρ} {out : ρ} (d : decode cc pc = .ok (.dsub, 1)) (hf : (fdsub x y).bind f = some out) (kk : ∀ z, f z = some out → EE K a (pc + 1) L (.double z :: S) h) : EE K a pc L (.double y :: .double x :: S) h := by
  intro H ls locs hR hS hL
  unfold fdsub at hf
  split at hf
  · next hn => exact lv_dsub O.x O.b d hn (kk _ hf H ls locs hR hS hL)
  · cases hf
/-- an arithmetic of doubles whose answer is no NaN -/
def fdmul (x y : UInt64) : Option UInt64 := if FP.dmul x y &&& 0x7fffffffffffffff ≤ 0x7ff0000000000000 then some (FP.dmul x y) else none
theorem E_dmul (O : Ok K own cc nL R) {x y : UInt64} {ρ : Type} {f : UInt64 → Option ρ} {out : ρ} (d : decode cc pc = .ok (.dmul, 1)) (hf : (fdmul x y).bind f = some out) (kk : ∀ z, f z = some out → EE K a (pc + 1) L (.double z :: S) h) : EE K a pc L (.double y :: .double x :: S) h := by
  intro H ls locs hR hS hL
  unfold fdmul at hf
  split at hf
  · next hn => exact lv_dmul O.x O.b d hn (kk _ hf H ls locs hR hS hL)
  · cases hf
/-- an arithmetic of doubles whose answer is no NaN -/
def fddiv (x y : UInt64) : Option UInt64 := if FP.ddiv x y &&& 0x7fffffffffffffff ≤ 0x7ff0000000000000 then some (FP.ddiv x y) else none
theorem E_ddiv (O : Ok K own cc nL R) {x y : UInt64} {ρ : Type} {f : UInt64 → Option ρ} {out : ρ} (d : decode cc pc = .ok (.ddiv, 1)) (hf : (fddiv x y).bind f = some out) (kk : ∀ z, f z = some out → EE K a (pc + 1) L (.double z :: S) h) : EE K a pc L (.double y :: .double x :: S) h := by
  intro H ls locs hR hS hL
  unfold fddiv at hf
  split at hf
  · next hn => exact lv_ddiv O.x O.b d hn (kk _ hf H ls locs hR hS hL)
  · cases hf
def fidiv (x y : Int32) : Option Int32 := if y = 0 then none else some (x / y)
def firem (x y : Int32) : Option Int32 := if y = 0 then none else some (x - x / y * y)
theorem E_idiv (O : Ok K own cc nL R) {x y : Int32} {ρ : Type} {f : Int32 → Option ρ} {out : ρ} (d : decode cc pc = .ok (.idiv, 1)) (hf : (fidiv x y).bind f = some out) (kk : ∀ z, f z = some out → EE K a (pc + 1) L (.int z :: S) h) : EE K a pc L (.int y :: .int x :: S) h := by
  intro H ls locs hR hS hL
  unfold fidiv at hf
  split at hf
  · cases hf
  · next hn => exact lv_idiv O.x O.b d hn (kk _ hf H ls locs hR hS hL)
theorem E_irem (O : Ok K own cc nL R) {x y : Int32} {ρ : Type} {f : Int32 → Option ρ} {out : ρ} (d : decode cc pc = .ok (.irem, 1)) (hf : (firem x y).bind f = some out) (kk : ∀ z, f z = some out → EE K a (pc + 1) L (.int z :: S) h) : EE K a pc L (.int y :: .int x :: S) h := by
  intro H ls locs hR hS hL
  unfold firem at hf
  split at hf
  · cases hf
  · next hn => exact lv_irem O.x O.b d hn (kk _ hf H ls locs hR hS hL)
theorem E_ldci (O : Ok K own cc nL R) {index : Nat} (v : Int32) (hw : Cond.constant own index v ∈ AW) (d : decode cc pc = .ok (.ldc index, 2)) (kk : EE K a (pc + 2) L (.int v :: S) h) : EE K a pc L S h := fun H ls locs hR hS hL => lv_ldc O.x O.b O.ow (O.ws _ hw) d (kk H ls locs hR hS hL)
def ushr (x y : Int32) : Int32 := (x.toUInt32 >>> (y.toUInt32 &&& Int32.toUInt32 31)).toInt32
theorem E_iushr (O : Ok K own cc nL R) {x y : Int32} (d : decode cc pc = .ok (.iushr, 1)) (kk : EE K a (pc + 1) L (.int (ushr x y) :: S) h) : EE K a pc L (.int y :: .int x :: S) h := fun H ls locs hR hS hL => lv_iushr O.x O.b d rfl (kk H ls locs hR hS hL)
theorem E_dup (O : Ok K own cc nL R) {v : Value} (d : decode cc pc = .ok (.dup, 1)) (hv : v.category = 1) (kk : EE K a (pc + 1) L (v :: v :: S) h) : EE K a pc L (v :: S) h := fun H ls locs hR hS hL => lv_dup O.x O.b d ((mv_cat v).trans hv) (kk H ls locs hR hS hL)
theorem E_dup2 (O : Ok K own cc nL R) {v u : Value} (d : decode cc pc = .ok (.dup2, 1)) (hv : v.category = 1) (hu : u.category = 1) (kk : EE K a (pc + 1) L (v :: u :: v :: u :: S) h) : EE K a pc L (v :: u :: S) h := fun H ls locs hR hS hL => lv_dup2_11 O.x O.b d ((mv_cat v).trans hv) ((mv_cat u).trans hu) (kk H ls locs hR hS hL)
theorem E_pop (O : Ok K own cc nL R) {v : Value} (d : decode cc pc = .ok (.pop, 1)) (hv : v.category = 1) (kk : EE K a (pc + 1) L S h) : EE K a pc L (v :: S) h := fun H ls locs hR hS hL => lv_pop O.x O.b d ((mv_cat v).trans hv) (kk H ls locs hR hS hL)
theorem E_goto (O : Ok K own cc nL R) {off : Int} (tgt : Nat) (d : decode cc pc = .ok (.goto off, 3)) (ht : (pc : Int) + off = (tgt : Int)) (kk : EE K a tgt L S h) : EE K a pc L S h := fun H ls locs hR hS hL => lv_goto O.x O.b d ht (kk H ls locs hR hS hL)
theorem E_ldc2l (O : Ok K own cc nL R) {index : Nat} (v : Int64) (hw : Cond.constantLong own index v ∈ AW) (d : decode cc pc = .ok (.ldc2_w index, 3)) (kk : EE K a (pc + 3) L (.long v :: S) h) : EE K a pc L S h := fun H ls locs hR hS hL => lv_ldc2 O.x O.b O.ow (O.ws _ hw) d (kk H ls locs hR hS hL)
theorem E_ldc2d (O : Ok K own cc nL R) {index : Nat} (v : UInt64) (hw : Cond.constantDouble own index v ∈ AW) (d : decode cc pc = .ok (.ldc2_w index, 3)) (kk : EE K a (pc + 3) L (.double v :: S) h) : EE K a pc L S h := fun H ls locs hR hS hL => lv_ldc2d O.x O.b O.ow (O.ws _ hw) d (kk H ls locs hR hS hL)
theorem E_iload_n (O : Ok K own cc nL R) {k : Fin 4} (i : Nat) {x : Int32} (d : decode cc pc = .ok (.iload_n k, 1)) (hi : (k : Nat) = i) (hl : L[i]? = some (some (.int x))) (kk : EE K a (pc + 1) L (.int x :: S) h) : EE K a pc L S h := fun H ls locs hR hS hL => lv_iload_n O.x O.b d hi (hL.2.2.2 _ _ hl) (kk H ls locs hR hS hL)
theorem E_iload (O : Ok K own cc nL R) {i : Nat} {x : Int32} (d : decode cc pc = .ok (.iload i, 2)) (hl : L[i]? = some (some (.int x))) (kk : EE K a (pc + 2) L (.int x :: S) h) : EE K a pc L S h := fun H ls locs hR hS hL => lv_iload O.x O.b d (hL.2.2.2 _ _ hl) (kk H ls locs hR hS hL)
theorem E_lload_n (O : Ok K own cc nL R) {k : Fin 4} (i : Nat) {x : Int64} (d : decode cc pc = .ok (.lload_n k, 1)) (hi : (k : Nat) = i) (hl : L[i]? = some (some (.long x))) (kk : EE K a (pc + 1) L (.long x :: S) h) : EE K a pc L S h := fun H ls locs hR hS hL => lv_lload_n O.x O.b d hi (hL.2.2.2 _ _ hl) (kk H ls locs hR hS hL)
theorem E_lload (O : Ok K own cc nL R) {i : Nat} {x : Int64} (d : decode cc pc = .ok (.lload i, 2)) (hl : L[i]? = some (some (.long x))) (kk : EE K a (pc + 2) L (.long x :: S) h) : EE K a pc L S h := fun H ls locs hR hS hL => lv_lload O.x O.b d (hL.2.2.2 _ _ hl) (kk H ls locs hR hS hL)
theorem E_aload_n (O : Ok K own cc nL R) {k : Fin 4} (i : Nat) {x : Nat} (d : decode cc pc = .ok (.aload_n k, 1)) (hi : (k : Nat) = i) (hl : L[i]? = some (some (.ref x))) (kk : EE K a (pc + 1) L (.ref x :: S) h) : EE K a pc L S h := fun H ls locs hR hS hL => lv_aload_n O.x O.b d hi (hL.2.2.2 _ _ hl) (kk H ls locs hR hS hL)
theorem E_aload (O : Ok K own cc nL R) {i : Nat} {x : Nat} (d : decode cc pc = .ok (.aload i, 2)) (hl : L[i]? = some (some (.ref x))) (kk : EE K a (pc + 2) L (.ref x :: S) h) : EE K a pc L S h := fun H ls locs hR hS hL => lv_aload O.x O.b d (hL.2.2.2 _ _ hl) (kk H ls locs hR hS hL)
theorem E_dload_n (O : Ok K own cc nL R) {k : Fin 4} (i : Nat) {x : UInt64} (d : decode cc pc = .ok (.dload_n k, 1)) (hi : (k : Nat) = i) (hl : L[i]? = some (some (.double x))) (kk : EE K a (pc + 1) L (.double x :: S) h) : EE K a pc L S h := fun H ls locs hR hS hL => lv_dload_n O.x O.b d hi (hL.2.2.2 _ _ hl) (kk H ls locs hR hS hL)
theorem E_dload (O : Ok K own cc nL R) {i : Nat} {x : UInt64} (d : decode cc pc = .ok (.dload i, 2)) (hl : L[i]? = some (some (.double x))) (kk : EE K a (pc + 2) L (.double x :: S) h) : EE K a pc L S h := fun H ls locs hR hS hL => lv_dload O.x O.b d (hL.2.2.2 _ _ hl) (kk H ls locs hR hS hL)
theorem E_istore_n (O : Ok K own cc nL R) {k : Fin 4} (i : Nat) {x : Int32} (L' : List (Option Value)) (d : decode cc pc = .ok (.istore_n k, 1)) (hi : (k : Nat) = i) (hn : i < nL) (hp : pok L i = true) (hl : L.set i (some (.int x)) = L') (kk : EE K a (pc + 1) L' S h) : EE K a pc L (.int x :: S) h := by
  intro H ls locs hR hS hL
  subst hl
  have hn' : i < (kc K).maxLocals := by rw [O.2.2.1]; exact hn
  exact lv_istore_n O.x O.b d hi hL.has hn' rfl (fun ls' h' => kk H ls' locs hR hS (hL.set1 hn' hp h'))
theorem E_istore (O : Ok K own cc nL R) {i : Nat} {x : Int32} (L' : List (Option Value)) (d : decode cc pc = .ok (.istore i, 2)) (hn : i < nL) (hp : pok L i = true) (hl : L.set i (some (.int x)) = L') (kk : EE K a (pc + 2) L' S h) : EE K a pc L (.int x :: S) h := by
  intro H ls locs hR hS hL
  subst hl
  have hn' : i < (kc K).maxLocals := by rw [O.2.2.1]; exact hn
  exact lv_istore O.x O.b d hL.has hn' rfl (fun ls' h' => kk H ls' locs hR hS (hL.set1 hn' hp h'))
theorem E_astore_n (O : Ok K own cc nL R) {k : Fin 4} (i : Nat) {x : Nat} (L' : List (Option Value)) (d : decode cc pc = .ok (.astore_n k, 1)) (hi : (k : Nat) = i) (hn : i < nL) (hp : pok L i = true) (hl : L.set i (some (.ref x)) = L') (kk : EE K a (pc + 1) L' S h) : EE K a pc L (.ref x :: S) h := by
  intro H ls locs hR hS hL
  subst hl
  have hn' : i < (kc K).maxLocals := by rw [O.2.2.1]; exact hn
  exact lv_astore_n O.x O.b d hi hL.has hn' rfl (fun ls' h' => kk H ls' locs hR hS (hL.set1 hn' hp h'))
theorem E_astore (O : Ok K own cc nL R) {i : Nat} {x : Nat} (L' : List (Option Value)) (d : decode cc pc = .ok (.astore i, 2)) (hn : i < nL) (hp : pok L i = true) (hl : L.set i (some (.ref x)) = L') (kk : EE K a (pc + 2) L' S h) : EE K a pc L (.ref x :: S) h := by
  intro H ls locs hR hS hL
  subst hl
  have hn' : i < (kc K).maxLocals := by rw [O.2.2.1]; exact hn
  exact lv_astore O.x O.b d hL.has hn' rfl (fun ls' h' => kk H ls' locs hR hS (hL.set1 hn' hp h'))
theorem E_lstore_n (O : Ok K own cc nL R) {k : Fin 4} (i : Nat) {x : Int64} (L' : List (Option Value)) (d : decode cc pc = .ok (.lstore_n k, 1)) (hi : (k : Nat) = i) (hn : i + 1 < nL) (hp : pok L i = true) (hl : (L.set i (some (.long x))).set (i + 1) none = L') (kk : EE K a (pc + 1) L' S h) : EE K a pc L (.long x :: S) h := by
  intro H ls locs hR hS hL
  subst hl
  have hn' : i + 1 < (kc K).maxLocals := by rw [O.2.2.1]; exact hn
  exact lv_lstore_n O.x O.b d hi hL.has hn' rfl (fun ls' h' => kk H ls' locs hR hS (hL.set2 hn' hp h'))
theorem E_lstore (O : Ok K own cc nL R) {i : Nat} {x : Int64} (L' : List (Option Value)) (d : decode cc pc = .ok (.lstore i, 2)) (hn : i + 1 < nL) (hp : pok L i = true) (hl : (L.set i (some (.long x))).set (i + 1) none = L') (kk : EE K a (pc + 2) L' S h) : EE K a pc L (.long x :: S) h := by
  intro H ls locs hR hS hL
  subst hl
  have hn' : i + 1 < (kc K).maxLocals := by rw [O.2.2.1]; exact hn
  exact lv_lstore O.x O.b d hL.has hn' rfl (fun ls' h' => kk H ls' locs hR hS (hL.set2 hn' hp h'))
theorem E_dstore_n (O : Ok K own cc nL R) {k : Fin 4} (i : Nat) {x : UInt64} (L' : List (Option Value)) (d : decode cc pc = .ok (.dstore_n k, 1)) (hi : (k : Nat) = i) (hn : i + 1 < nL) (hp : pok L i = true) (hl : (L.set i (some (.double x))).set (i + 1) none = L') (kk : EE K a (pc + 1) L' S h) : EE K a pc L (.double x :: S) h := by
  intro H ls locs hR hS hL
  subst hl
  have hn' : i + 1 < (kc K).maxLocals := by rw [O.2.2.1]; exact hn
  exact lv_dstore_n O.x O.b d hi hL.has hn' rfl (fun ls' h' => kk H ls' locs hR hS (hL.set2 hn' hp h'))
theorem E_dstore (O : Ok K own cc nL R) {i : Nat} {x : UInt64} (L' : List (Option Value)) (d : decode cc pc = .ok (.dstore i, 2)) (hn : i + 1 < nL) (hp : pok L i = true) (hl : (L.set i (some (.double x))).set (i + 1) none = L') (kk : EE K a (pc + 2) L' S h) : EE K a pc L (.double x :: S) h := by
  intro H ls locs hR hS hL
  subst hl
  have hn' : i + 1 < (kc K).maxLocals := by rw [O.2.2.1]; exact hn
  exact lv_dstore O.x O.b d hL.has hn' rfl (fun ls' h' => kk H ls' locs hR hS (hL.set2 hn' hp h'))
theorem E_iinc (O : Ok K own cc nL R) {i : Nat} {n : Int} {x : Int32} (v : Int32) (L' : List (Option Value)) (d : decode cc pc = .ok (.iinc i n, 3)) (hx : L[i]? = some (some (.int x))) (hn : i < nL) (hp : pok L i = true) (hv : Int32.ofInt n = v) (hl : L.set i (some (.int (x + v))) = L') (kk : EE K a (pc + 3) L' S h) : EE K a pc L S h := by
  intro H ls locs hR hS hL
  subst hl; subst hv
  have hn' : i < (kc K).maxLocals := by rw [O.2.2.1]; exact hn
  have hh : lv_has ls (kc K).maxLocals ((i, .int x) :: lvl (gad K.1) L) := by
    refine ⟨hL.1, hL.2.2.1, fun q hq => ?_⟩
    rcases List.mem_cons.mp hq with rfl | hq
    · exact hL.2.2.2 i _ hx
    · exact hL.has.2.2 q hq
  refine lv_iinc (k := 0) O.x O.b d hh rfl rfl hn' rfl (fun ls' h' => kk H ls' locs hR hS (hL.set1 (v := .int (x + Int32.ofInt n)) hn' hp ?_))
  have e : ((i, Value.int x) :: lvl (gad K.1) L).filter (fun q => !(q.1 == i) && !(q.1 + 1 == i && q.2.category == 2)) = (lvl (gad K.1) L).filter (fun q => !(q.1 == i) && !(q.1 + 1 == i && q.2.category == 2)) := by simp
  rw [e] at h'
  exact h'

theorem E_icmp_eq (O : Ok K own cc nL R) {x y : Int32} {off : Int} (tgt : Nat) {ρ : Type} {A B : Option ρ} {out : ρ} (d : decode cc pc = .ok (.if_icmp .eq off, 3)) (ht : (pc : Int) + off = (tgt : Int)) (hf : (if x = y then A else B) = some out) (kt : A = some out → EE K a tgt L S h) (kf : B = some out → EE K a (pc + 3) L S h) : EE K a pc L (.int y :: .int x :: S) h := fun H ls locs hR hS hL => lv_icmp_eq O.x O.b d ht (fun c => kt (by rw [if_pos c] at hf; exact hf) H ls locs hR hS hL) (fun c => kf (by rw [if_neg c] at hf; exact hf) H ls locs hR hS hL)
theorem E_icmp_ne (O : Ok K own cc nL R) {x y : Int32} {off : Int} (tgt : Nat) {ρ : Type} {A B : Option ρ} {out : ρ} (d : decode cc pc = .ok (.if_icmp .ne off, 3)) (ht : (pc : Int) + off = (tgt : Int)) (hf : (if x = y then B else A) = some out) (kt : A = some out → EE K a tgt L S h) (kf : B = some out → EE K a (pc + 3) L S h) : EE K a pc L (.int y :: .int x :: S) h := fun H ls locs hR hS hL => lv_icmp_ne O.x O.b d ht (fun c => kt (by rw [if_neg c] at hf; exact hf) H ls locs hR hS hL) (fun c => kf (by rw [if_pos c] at hf; exact hf) H ls locs hR hS hL)
theorem E_icmp_lt (O : Ok K own cc nL R) {x y : Int32} {off : Int} (tgt : Nat) {ρ : Type} {A B : Option ρ} {out : ρ} (d : decode cc pc = .ok (.if_icmp .lt off, 3)) (ht : (pc : Int) + off = (tgt : Int)) (hf : (if x < y then A else B) = some out) (kt : A = some out → EE K a tgt L S h) (kf : B = some out → EE K a (pc + 3) L S h) : EE K a pc L (.int y :: .int x :: S) h := fun H ls locs hR hS hL => lv_icmp_lt O.x O.b d ht (fun c => kt (by rw [if_pos c] at hf; exact hf) H ls locs hR hS hL) (fun c => kf (by rw [if_neg c] at hf; exact hf) H ls locs hR hS hL)
theorem E_icmp_ge (O : Ok K own cc nL R) {x y : Int32} {off : Int} (tgt : Nat) {ρ : Type} {A B : Option ρ} {out : ρ} (d : decode cc pc = .ok (.if_icmp .ge off, 3)) (ht : (pc : Int) + off = (tgt : Int)) (hf : (if y ≤ x then A else B) = some out) (kt : A = some out → EE K a tgt L S h) (kf : B = some out → EE K a (pc + 3) L S h) : EE K a pc L (.int y :: .int x :: S) h := fun H ls locs hR hS hL => lv_icmp_ge O.x O.b d ht (fun c => kt (by rw [if_pos c] at hf; exact hf) H ls locs hR hS hL) (fun c => kf (by rw [if_neg c] at hf; exact hf) H ls locs hR hS hL)
theorem E_icmp_gt (O : Ok K own cc nL R) {x y : Int32} {off : Int} (tgt : Nat) {ρ : Type} {A B : Option ρ} {out : ρ} (d : decode cc pc = .ok (.if_icmp .gt off, 3)) (ht : (pc : Int) + off = (tgt : Int)) (hf : (if y < x then A else B) = some out) (kt : A = some out → EE K a tgt L S h) (kf : B = some out → EE K a (pc + 3) L S h) : EE K a pc L (.int y :: .int x :: S) h := fun H ls locs hR hS hL => lv_icmp_gt O.x O.b d ht (fun c => kt (by rw [if_pos c] at hf; exact hf) H ls locs hR hS hL) (fun c => kf (by rw [if_neg c] at hf; exact hf) H ls locs hR hS hL)
theorem E_icmp_le (O : Ok K own cc nL R) {x y : Int32} {off : Int} (tgt : Nat) {ρ : Type} {A B : Option ρ} {out : ρ} (d : decode cc pc = .ok (.if_icmp .le off, 3)) (ht : (pc : Int) + off = (tgt : Int)) (hf : (if x ≤ y then A else B) = some out) (kt : A = some out → EE K a tgt L S h) (kf : B = some out → EE K a (pc + 3) L S h) : EE K a pc L (.int y :: .int x :: S) h := fun H ls locs hR hS hL => lv_icmp_le O.x O.b d ht (fun c => kt (by rw [if_pos c] at hf; exact hf) H ls locs hR hS hL) (fun c => kf (by rw [if_neg c] at hf; exact hf) H ls locs hR hS hL)
theorem E_if_eq (O : Ok K own cc nL R) {x : Int32} {off : Int} (tgt : Nat) {ρ : Type} {A B : Option ρ} {out : ρ} (d : decode cc pc = .ok (.ifCond .eq off, 3)) (ht : (pc : Int) + off = (tgt : Int)) (hf : (if x = 0 then A else B) = some out) (kt : A = some out → EE K a tgt L S h) (kf : B = some out → EE K a (pc + 3) L S h) : EE K a pc L (.int x :: S) h := fun H ls locs hR hS hL => lv_if_eq O.x O.b d ht (fun c => kt (by rw [if_pos c] at hf; exact hf) H ls locs hR hS hL) (fun c => kf (by rw [if_neg c] at hf; exact hf) H ls locs hR hS hL)
theorem E_if_ne (O : Ok K own cc nL R) {x : Int32} {off : Int} (tgt : Nat) {ρ : Type} {A B : Option ρ} {out : ρ} (d : decode cc pc = .ok (.ifCond .ne off, 3)) (ht : (pc : Int) + off = (tgt : Int)) (hf : (if x = 0 then B else A) = some out) (kt : A = some out → EE K a tgt L S h) (kf : B = some out → EE K a (pc + 3) L S h) : EE K a pc L (.int x :: S) h := fun H ls locs hR hS hL => lv_if_ne O.x O.b d ht (fun c => kt (by rw [if_neg c] at hf; exact hf) H ls locs hR hS hL) (fun c => kf (by rw [if_pos c] at hf; exact hf) H ls locs hR hS hL)
theorem E_if_lt (O : Ok K own cc nL R) {x : Int32} {off : Int} (tgt : Nat) {ρ : Type} {A B : Option ρ} {out : ρ} (d : decode cc pc = .ok (.ifCond .lt off, 3)) (ht : (pc : Int) + off = (tgt : Int)) (hf : (if x < 0 then A else B) = some out) (kt : A = some out → EE K a tgt L S h) (kf : B = some out → EE K a (pc + 3) L S h) : EE K a pc L (.int x :: S) h := fun H ls locs hR hS hL => lv_if_lt O.x O.b d ht (fun c => kt (by rw [if_pos c] at hf; exact hf) H ls locs hR hS hL) (fun c => kf (by rw [if_neg c] at hf; exact hf) H ls locs hR hS hL)
theorem E_if_ge (O : Ok K own cc nL R) {x : Int32} {off : Int} (tgt : Nat) {ρ : Type} {A B : Option ρ} {out : ρ} (d : decode cc pc = .ok (.ifCond .ge off, 3)) (ht : (pc : Int) + off = (tgt : Int)) (hf : (if 0 ≤ x then A else B) = some out) (kt : A = some out → EE K a tgt L S h) (kf : B = some out → EE K a (pc + 3) L S h) : EE K a pc L (.int x :: S) h := fun H ls locs hR hS hL => lv_if_ge O.x O.b d ht (fun c => kt (by rw [if_pos c] at hf; exact hf) H ls locs hR hS hL) (fun c => kf (by rw [if_neg c] at hf; exact hf) H ls locs hR hS hL)
theorem E_if_gt (O : Ok K own cc nL R) {x : Int32} {off : Int} (tgt : Nat) {ρ : Type} {A B : Option ρ} {out : ρ} (d : decode cc pc = .ok (.ifCond .gt off, 3)) (ht : (pc : Int) + off = (tgt : Int)) (hf : (if 0 < x then A else B) = some out) (kt : A = some out → EE K a tgt L S h) (kf : B = some out → EE K a (pc + 3) L S h) : EE K a pc L (.int x :: S) h := fun H ls locs hR hS hL => lv_if_gt O.x O.b d ht (fun c => kt (by rw [if_pos c] at hf; exact hf) H ls locs hR hS hL) (fun c => kf (by rw [if_neg c] at hf; exact hf) H ls locs hR hS hL)
theorem E_if_le (O : Ok K own cc nL R) {x : Int32} {off : Int} (tgt : Nat) {ρ : Type} {A B : Option ρ} {out : ρ} (d : decode cc pc = .ok (.ifCond .le off, 3)) (ht : (pc : Int) + off = (tgt : Int)) (hf : (if x ≤ 0 then A else B) = some out) (kt : A = some out → EE K a tgt L S h) (kf : B = some out → EE K a (pc + 3) L S h) : EE K a pc L (.int x :: S) h := fun H ls locs hR hS hL => lv_if_le O.x O.b d ht (fun c => kt (by rw [if_pos c] at hf; exact hf) H ls locs hR hS hL) (fun c => kf (by rw [if_neg c] at hf; exact hf) H ls locs hR hS hL)
theorem E_ite {c : Prop} [Decidable c] {ρ : Type} {A B : Option ρ} {out : ρ} {G : Prop} (hf : (if c then A else B) = some out) (kt : c → A = some out → G) (kf : ¬ c → B = some out → G) : G := by
  by_cases h : c
  · rw [if_pos h] at hf; exact kt h hf
  · rw [if_neg h] at hf; exact kf h hf
theorem E_tswIn (O : Ok K own cc nL R) {x : Int32} {dflt lo hi : Int} {offs : Array Int} {len : Nat} {off : Int} (k : Int32) (tgt : Nat) (hx : x = k) (d : decode cc pc = .ok (.tableswitch dflt lo hi offs, len)) (h1 : ¬ k.toInt < lo) (h2 : ¬ hi < k.toInt) (ho : offs[(k.toInt - lo).toNat]? = some off) (ht : (pc : Int) + off = (tgt : Int)) (kk : EE K a tgt L S h) : EE K a pc L (.int x :: S) h := by
  intro H ls locs hR hS hL
  subst hx
  exact lv_tableIn O.x O.b d h1 h2 ho ht (kk H ls locs hR hS hL)
theorem E_tswOut (O : Ok K own cc nL R) {x : Int32} {dflt lo hi : Int} {offs : Array Int} {len : Nat} (tgt : Nat) (d : decode cc pc = .ok (.tableswitch dflt lo hi offs, len)) (hx : x.toInt < lo ∨ hi < x.toInt) (ht : (pc : Int) + dflt = (tgt : Int)) (kk : EE K a tgt L S h) : EE K a pc L (.int x :: S) h := fun H ls locs hR hS hL => lv_tableOut O.x O.b d hx ht (kk H ls locs hR hS hL)
theorem tsw_out {x : Int32} (lo n : Nat) (hb : lo + n < 1000) (hx : ∀ k, k < n → x ≠ nI (lo + k)) : x.toInt < (lo : Int) ∨ ((lo + n : Nat) : Int) - 1 < x.toInt := by
  rcases Int.lt_or_le x.toInt (lo : Int) with h1 | h1
  · exact Or.inl h1
  rcases Int.lt_or_le (((lo + n : Nat) : Int) - 1) x.toInt with h2 | h2
  · exact Or.inr h2
  exfalso
  refine hx (x.toInt.toNat - lo) (by omega) ?_
  rw [← Int32.toInt_inj, nI_toInt (by omega)]
  omega
