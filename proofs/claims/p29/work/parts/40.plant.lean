/-! the small heap of the law: 141 cells, as a function; a plant at b: 16 cells -/
def wS (P : PV) (k : Nat) (x : Int32) : PV := (fun j => if j = k then x else P.1 j, P.2)
def wA (P : PV) (k i : Nat) (x : Int32) : PV := (P.1, fun j => if j = k then upd (P.2 k) i x else P.2 j)
def wR (P : PV) (k : Nat) (f : Nat → Int32) : PV := (P.1, fun j => if j = k then f else P.2 j)
/-- an index in bounds -/
def bd {α : Type} (n : Nat) (j : Int32) (k : Nat → α) : Option α := if j < 0 ∨ n ≤ j.toNatClampNeg then none else some (k j.toNatClampNeg)
theorem bd_nI {α : Type} {n r : Nat} {k : Nat → α} (h : r < n) (hn : n < 2 ^ 31) : bd n (nI r) k = some (k r) := by
  unfold bd
  rw [if_neg (vp_in_nI h hn), nI_clamp (by omega)]
theorem wS_1 {P : PV} {k j : Nat} {x : Int32} : (wS P k x).1 j = if j = k then x else P.1 j := rfl
theorem wS_2 {P : PV} {k : Nat} {x : Int32} : (wS P k x).2 = P.2 := rfl
theorem wA_1 {P : PV} {k i : Nat} {x : Int32} : (wA P k i x).1 = P.1 := rfl
theorem wA_2 {P : PV} {k i j : Nat} {x : Int32} : (wA P k i x).2 j = if j = k then upd (P.2 k) i x else P.2 j := rfl
theorem wR_1 {P : PV} {k : Nat} {f : Nat → Int32} : (wR P k f).1 = P.1 := rfl
theorem wR_2 {P : PV} {k j : Nat} {f : Nat → Int32} : (wR P k f).2 j = if j = k then f else P.2 j := rfl
section
variable {G : GB} {b : Nat} {P : PV} (hb : b ≤ 122)
theorem p_I0 (hb : b ≤ 122) : hI (hp G b P) 1 b 0 = some (P.1 0) := by
  have h := hp_get (G := G) (P := P) 0 hb (by omega)
  rw [Nat.add_zero] at h
  simp only [hI, hF, h, pc_]
  rfl
theorem p_I1 (hb : b ≤ 122) : hI (hp G b P) 1 b 1 = some (P.1 1) := by
  have h := hp_get (G := G) (P := P) 0 hb (by omega)
  rw [Nat.add_zero] at h
  simp only [hI, hF, h, pc_]
  rfl
theorem p_I2 (hb : b ≤ 122) : hI (hp G b P) 1 b 2 = some (P.1 2) := by
  have h := hp_get (G := G) (P := P) 0 hb (by omega)
  rw [Nat.add_zero] at h
  simp only [hI, hF, h, pc_]
  rfl
theorem p_I3 (hb : b ≤ 122) : hI (hp G b P) 1 b 3 = some (P.1 3) := by
  have h := hp_get (G := G) (P := P) 0 hb (by omega)
  rw [Nat.add_zero] at h
  simp only [hI, hF, h, pc_]
  rfl
theorem p_R4 (hb : b ≤ 122) : hR (hp G b P) 1 b 4 = some (b + 1) := by
  have h := hp_get (G := G) (P := P) 0 hb (by omega)
  rw [Nat.add_zero] at h
  simp only [hR, hF, h, pc_]
  rfl
theorem p_R5 (hb : b ≤ 122) : hR (hp G b P) 1 b 5 = some (b + 2) := by
  have h := hp_get (G := G) (P := P) 0 hb (by omega)
  rw [Nat.add_zero] at h
  simp only [hR, hF, h, pc_]
  rfl
theorem p_R6 (hb : b ≤ 122) : hR (hp G b P) 1 b 6 = some (b + 3) := by
  have h := hp_get (G := G) (P := P) 0 hb (by omega)
  rw [Nat.add_zero] at h
  simp only [hR, hF, h, pc_]
  rfl
theorem p_R7 (hb : b ≤ 122) : hR (hp G b P) 1 b 7 = some (b + 4) := by
  have h := hp_get (G := G) (P := P) 0 hb (by omega)
  rw [Nat.add_zero] at h
  simp only [hR, hF, h, pc_]
  rfl
theorem p_R8 (hb : b ≤ 122) : hR (hp G b P) 1 b 8 = some (b + 5) := by
  have h := hp_get (G := G) (P := P) 0 hb (by omega)
  rw [Nat.add_zero] at h
  simp only [hR, hF, h, pc_]
  rfl
theorem p_R9 (hb : b ≤ 122) : hR (hp G b P) 1 b 9 = some (b + 6) := by
  have h := hp_get (G := G) (P := P) 0 hb (by omega)
  rw [Nat.add_zero] at h
  simp only [hR, hF, h, pc_]
  rfl
theorem p_R10 (hb : b ≤ 122) : hR (hp G b P) 1 b 10 = some (b + 7) := by
  have h := hp_get (G := G) (P := P) 0 hb (by omega)
  rw [Nat.add_zero] at h
  simp only [hR, hF, h, pc_]
  rfl
theorem p_R11 (hb : b ≤ 122) : hR (hp G b P) 1 b 11 = some (b + 8) := by
  have h := hp_get (G := G) (P := P) 0 hb (by omega)
  rw [Nat.add_zero] at h
  simp only [hR, hF, h, pc_]
  rfl
theorem p_R12 (hb : b ≤ 122) : hR (hp G b P) 1 b 12 = some (b + 9) := by
  have h := hp_get (G := G) (P := P) 0 hb (by omega)
  rw [Nat.add_zero] at h
  simp only [hR, hF, h, pc_]
  rfl
theorem p_R13 (hb : b ≤ 122) : hR (hp G b P) 1 b 13 = some (b + 10) := by
  have h := hp_get (G := G) (P := P) 0 hb (by omega)
  rw [Nat.add_zero] at h
  simp only [hR, hF, h, pc_]
  rfl
theorem p_R14 (hb : b ≤ 122) : hR (hp G b P) 1 b 14 = some (b + 11) := by
  have h := hp_get (G := G) (P := P) 0 hb (by omega)
  rw [Nat.add_zero] at h
  simp only [hR, hF, h, pc_]
  rfl
theorem p_R15 (hb : b ≤ 122) : hR (hp G b P) 1 b 15 = some (b + 13) := by
  have h := hp_get (G := G) (P := P) 0 hb (by omega)
  rw [Nat.add_zero] at h
  simp only [hR, hF, h, pc_]
  rfl
theorem p_R16 (hb : b ≤ 122) : hR (hp G b P) 1 b 16 = some (b + 14) := by
  have h := hp_get (G := G) (P := P) 0 hb (by omega)
  rw [Nat.add_zero] at h
  simp only [hR, hF, h, pc_]
  rfl
theorem p_R17 (hb : b ≤ 122) : hR (hp G b P) 1 b 17 = some (b + 15) := by
  have h := hp_get (G := G) (P := P) 0 hb (by omega)
  rw [Nat.add_zero] at h
  simp only [hR, hF, h, pc_]
  rfl
theorem p_Rl (hb : b ≤ 122) : hR (hp G b P) 0 (b + 11) 0 = some (b + 12) := by
  have h := hp_get (G := G) (P := P) 11 hb (by omega)
  simp only [hR, hF, h, pc_]
  rfl
theorem p_Il (hb : b ≤ 122) : hI (hp G b P) 0 (b + 11) 1 = some (P.1 4) := by
  have h := hp_get (G := G) (P := P) 11 hb (by omega)
  simp only [hI, hF, h, pc_]
  rfl
theorem p_O1 (hb : b ≤ 122) : isO (hp G b P) 1 b = true := by
  have h := hp_get (G := G) (P := P) 0 hb (by omega)
  rw [Nat.add_zero] at h
  simp [isO, h, pc_]
theorem p_O0 (hb : b ≤ 122) : isO (hp G b P) 0 (b + 11) = true := by
  have h := hp_get (G := G) (P := P) 11 hb (by omega)
  simp [isO, h, pc_]
theorem p_v1 {α : Type} {o : Option α} (hb : b ≤ 122) : vcall (hp G b P) 1 b o = o := by simp [vcall, p_O1 hb]
theorem p_v0 {α : Type} {o : Option α} (hb : b ≤ 122) : vcall (hp G b P) 0 (b + 11) o = o := by simp [vcall, p_O0 hb]
theorem p_C4 (hb : b ≤ 122) : aC (hp G b P) 0 (b + 1) = some (56, .inl (P.2 4)) := by
  simp only [aC, hp_get (G := G) (P := P) 1 hb (by omega), pc_]
  rfl
theorem p_a4 {j : Int32} (hb : b ≤ 122) : aI (hp G b P) (b + 1) j = bd 56 j (P.2 4) := by
  simp only [aI, p_C4 hb]
  rfl
theorem p_s4 {j x : Int32} (hb : b ≤ 122) : sI (hp G b P) (b + 1) j x = bd 56 j (fun i => hp G b (wA P 4 i x)) := by
  simp only [sI, p_C4 hb, bd]
  split
  · rfl
  · congr 1
    exact hp_set (Q := wA P 4 _ x) 1 (by omega) (fun i hi hn => by
      match i, hi with
      | 0, _ => rfl
      | 1, _ => exact absurd rfl hn
      | 2, _ => rfl
      | 3, _ => rfl
      | 4, _ => rfl
      | 5, _ => rfl
      | 6, _ => rfl
      | 7, _ => rfl
      | 8, _ => rfl
      | 9, _ => rfl
      | 10, _ => rfl
      | 11, _ => rfl
      | 12, _ => rfl
      | 13, _ => rfl
      | 14, _ => rfl
      | 15, _ => rfl
      | i + 16, hi => omega)
theorem p_C5 (hb : b ≤ 122) : aC (hp G b P) 0 (b + 2) = some (8, .inl (P.2 5)) := by
  simp only [aC, hp_get (G := G) (P := P) 2 hb (by omega), pc_]
  rfl
theorem p_a5 {j : Int32} (hb : b ≤ 122) : aI (hp G b P) (b + 2) j = bd 8 j (P.2 5) := by
  simp only [aI, p_C5 hb]
  rfl
theorem p_s5 {j x : Int32} (hb : b ≤ 122) : sI (hp G b P) (b + 2) j x = bd 8 j (fun i => hp G b (wA P 5 i x)) := by
  simp only [sI, p_C5 hb, bd]
  split
  · rfl
  · congr 1
    exact hp_set (Q := wA P 5 _ x) 2 (by omega) (fun i hi hn => by
      match i, hi with
      | 0, _ => rfl
      | 1, _ => rfl
      | 2, _ => exact absurd rfl hn
      | 3, _ => rfl
      | 4, _ => rfl
      | 5, _ => rfl
      | 6, _ => rfl
      | 7, _ => rfl
      | 8, _ => rfl
      | 9, _ => rfl
      | 10, _ => rfl
      | 11, _ => rfl
      | 12, _ => rfl
      | 13, _ => rfl
      | 14, _ => rfl
      | 15, _ => rfl
      | i + 16, hi => omega)
theorem p_C6 (hb : b ≤ 122) : aC (hp G b P) 0 (b + 3) = some (8, .inl (P.2 6)) := by
  simp only [aC, hp_get (G := G) (P := P) 3 hb (by omega), pc_]
  rfl
theorem p_a6 {j : Int32} (hb : b ≤ 122) : aI (hp G b P) (b + 3) j = bd 8 j (P.2 6) := by
  simp only [aI, p_C6 hb]
  rfl
theorem p_s6 {j x : Int32} (hb : b ≤ 122) : sI (hp G b P) (b + 3) j x = bd 8 j (fun i => hp G b (wA P 6 i x)) := by
  simp only [sI, p_C6 hb, bd]
  split
  · rfl
  · congr 1
    exact hp_set (Q := wA P 6 _ x) 3 (by omega) (fun i hi hn => by
      match i, hi with
      | 0, _ => rfl
      | 1, _ => rfl
      | 2, _ => rfl
      | 3, _ => exact absurd rfl hn
      | 4, _ => rfl
      | 5, _ => rfl
      | 6, _ => rfl
      | 7, _ => rfl
      | 8, _ => rfl
      | 9, _ => rfl
      | 10, _ => rfl
      | 11, _ => rfl
      | 12, _ => rfl
      | 13, _ => rfl
      | 14, _ => rfl
      | 15, _ => rfl
      | i + 16, hi => omega)
theorem p_C7 (hb : b ≤ 122) : aC (hp G b P) 0 (b + 4) = some (8, .inl (P.2 7)) := by
  simp only [aC, hp_get (G := G) (P := P) 4 hb (by omega), pc_]
  rfl
theorem p_a7 {j : Int32} (hb : b ≤ 122) : aI (hp G b P) (b + 4) j = bd 8 j (P.2 7) := by
  simp only [aI, p_C7 hb]
  rfl
theorem p_s7 {j x : Int32} (hb : b ≤ 122) : sI (hp G b P) (b + 4) j x = bd 8 j (fun i => hp G b (wA P 7 i x)) := by
  simp only [sI, p_C7 hb, bd]
  split
  · rfl
  · congr 1
    exact hp_set (Q := wA P 7 _ x) 4 (by omega) (fun i hi hn => by
      match i, hi with
      | 0, _ => rfl
      | 1, _ => rfl
      | 2, _ => rfl
      | 3, _ => rfl
      | 4, _ => exact absurd rfl hn
      | 5, _ => rfl
      | 6, _ => rfl
      | 7, _ => rfl
      | 8, _ => rfl
      | 9, _ => rfl
      | 10, _ => rfl
      | 11, _ => rfl
      | 12, _ => rfl
      | 13, _ => rfl
      | 14, _ => rfl
      | 15, _ => rfl
      | i + 16, hi => omega)
theorem p_C8 (hb : b ≤ 122) : aC (hp G b P) 0 (b + 5) = some (8, .inl (P.2 8)) := by
  simp only [aC, hp_get (G := G) (P := P) 5 hb (by omega), pc_]
  rfl
theorem p_a8 {j : Int32} (hb : b ≤ 122) : aI (hp G b P) (b + 5) j = bd 8 j (P.2 8) := by
  simp only [aI, p_C8 hb]
  rfl
theorem p_s8 {j x : Int32} (hb : b ≤ 122) : sI (hp G b P) (b + 5) j x = bd 8 j (fun i => hp G b (wA P 8 i x)) := by
  simp only [sI, p_C8 hb, bd]
  split
  · rfl
  · congr 1
    exact hp_set (Q := wA P 8 _ x) 5 (by omega) (fun i hi hn => by
      match i, hi with
      | 0, _ => rfl
      | 1, _ => rfl
      | 2, _ => rfl
      | 3, _ => rfl
      | 4, _ => rfl
      | 5, _ => exact absurd rfl hn
      | 6, _ => rfl
      | 7, _ => rfl
      | 8, _ => rfl
      | 9, _ => rfl
      | 10, _ => rfl
      | 11, _ => rfl
      | 12, _ => rfl
      | 13, _ => rfl
      | 14, _ => rfl
      | 15, _ => rfl
      | i + 16, hi => omega)
theorem p_C9 (hb : b ≤ 122) : aC (hp G b P) 0 (b + 6) = some (8, .inl (P.2 9)) := by
  simp only [aC, hp_get (G := G) (P := P) 6 hb (by omega), pc_]
  rfl
theorem p_a9 {j : Int32} (hb : b ≤ 122) : aI (hp G b P) (b + 6) j = bd 8 j (P.2 9) := by
  simp only [aI, p_C9 hb]
  rfl
theorem p_s9 {j x : Int32} (hb : b ≤ 122) : sI (hp G b P) (b + 6) j x = bd 8 j (fun i => hp G b (wA P 9 i x)) := by
  simp only [sI, p_C9 hb, bd]
  split
  · rfl
  · congr 1
    exact hp_set (Q := wA P 9 _ x) 6 (by omega) (fun i hi hn => by
      match i, hi with
      | 0, _ => rfl
      | 1, _ => rfl
      | 2, _ => rfl
      | 3, _ => rfl
      | 4, _ => rfl
      | 5, _ => rfl
      | 6, _ => exact absurd rfl hn
      | 7, _ => rfl
      | 8, _ => rfl
      | 9, _ => rfl
      | 10, _ => rfl
      | 11, _ => rfl
      | 12, _ => rfl
      | 13, _ => rfl
      | 14, _ => rfl
      | 15, _ => rfl
      | i + 16, hi => omega)
theorem p_C10 (hb : b ≤ 122) : aC (hp G b P) 0 (b + 7) = some (8, .inl (P.2 10)) := by
  simp only [aC, hp_get (G := G) (P := P) 7 hb (by omega), pc_]
  rfl
theorem p_a10 {j : Int32} (hb : b ≤ 122) : aI (hp G b P) (b + 7) j = bd 8 j (P.2 10) := by
  simp only [aI, p_C10 hb]
  rfl
theorem p_s10 {j x : Int32} (hb : b ≤ 122) : sI (hp G b P) (b + 7) j x = bd 8 j (fun i => hp G b (wA P 10 i x)) := by
  simp only [sI, p_C10 hb, bd]
  split
  · rfl
  · congr 1
    exact hp_set (Q := wA P 10 _ x) 7 (by omega) (fun i hi hn => by
      match i, hi with
      | 0, _ => rfl
      | 1, _ => rfl
      | 2, _ => rfl
      | 3, _ => rfl
      | 4, _ => rfl
      | 5, _ => rfl
      | 6, _ => rfl
      | 7, _ => exact absurd rfl hn
      | 8, _ => rfl
      | 9, _ => rfl
      | 10, _ => rfl
      | 11, _ => rfl
      | 12, _ => rfl
      | 13, _ => rfl
      | 14, _ => rfl
      | 15, _ => rfl
      | i + 16, hi => omega)
theorem p_C11 (hb : b ≤ 122) : aC (hp G b P) 0 (b + 8) = some (8, .inl (P.2 11)) := by
  simp only [aC, hp_get (G := G) (P := P) 8 hb (by omega), pc_]
  rfl
theorem p_a11 {j : Int32} (hb : b ≤ 122) : aI (hp G b P) (b + 8) j = bd 8 j (P.2 11) := by
  simp only [aI, p_C11 hb]
  rfl
theorem p_s11 {j x : Int32} (hb : b ≤ 122) : sI (hp G b P) (b + 8) j x = bd 8 j (fun i => hp G b (wA P 11 i x)) := by
  simp only [sI, p_C11 hb, bd]
  split
  · rfl
  · congr 1
    exact hp_set (Q := wA P 11 _ x) 8 (by omega) (fun i hi hn => by
      match i, hi with
      | 0, _ => rfl
      | 1, _ => rfl
      | 2, _ => rfl
      | 3, _ => rfl
      | 4, _ => rfl
      | 5, _ => rfl
      | 6, _ => rfl
      | 7, _ => rfl
      | 8, _ => exact absurd rfl hn
      | 9, _ => rfl
      | 10, _ => rfl
      | 11, _ => rfl
      | 12, _ => rfl
      | 13, _ => rfl
      | 14, _ => rfl
      | 15, _ => rfl
      | i + 16, hi => omega)
theorem p_C12 (hb : b ≤ 122) : aC (hp G b P) 0 (b + 9) = some (8, .inl (P.2 12)) := by
  simp only [aC, hp_get (G := G) (P := P) 9 hb (by omega), pc_]
  rfl
theorem p_a12 {j : Int32} (hb : b ≤ 122) : aI (hp G b P) (b + 9) j = bd 8 j (P.2 12) := by
  simp only [aI, p_C12 hb]
  rfl
theorem p_s12 {j x : Int32} (hb : b ≤ 122) : sI (hp G b P) (b + 9) j x = bd 8 j (fun i => hp G b (wA P 12 i x)) := by
  simp only [sI, p_C12 hb, bd]
  split
  · rfl
  · congr 1
    exact hp_set (Q := wA P 12 _ x) 9 (by omega) (fun i hi hn => by
      match i, hi with
      | 0, _ => rfl
      | 1, _ => rfl
      | 2, _ => rfl
      | 3, _ => rfl
      | 4, _ => rfl
      | 5, _ => rfl
      | 6, _ => rfl
      | 7, _ => rfl
      | 8, _ => rfl
      | 9, _ => exact absurd rfl hn
      | 10, _ => rfl
      | 11, _ => rfl
      | 12, _ => rfl
      | 13, _ => rfl
      | 14, _ => rfl
      | 15, _ => rfl
      | i + 16, hi => omega)
theorem p_C13 (hb : b ≤ 122) : aC (hp G b P) 0 (b + 10) = some (32, .inl (P.2 13)) := by
  simp only [aC, hp_get (G := G) (P := P) 10 hb (by omega), pc_]
  rfl
theorem p_a13 {j : Int32} (hb : b ≤ 122) : aI (hp G b P) (b + 10) j = bd 32 j (P.2 13) := by
  simp only [aI, p_C13 hb]
  rfl
theorem p_s13 {j x : Int32} (hb : b ≤ 122) : sI (hp G b P) (b + 10) j x = bd 32 j (fun i => hp G b (wA P 13 i x)) := by
  simp only [sI, p_C13 hb, bd]
  split
  · rfl
  · congr 1
    exact hp_set (Q := wA P 13 _ x) 10 (by omega) (fun i hi hn => by
      match i, hi with
      | 0, _ => rfl
      | 1, _ => rfl
      | 2, _ => rfl
      | 3, _ => rfl
      | 4, _ => rfl
      | 5, _ => rfl
      | 6, _ => rfl
      | 7, _ => rfl
      | 8, _ => rfl
      | 9, _ => rfl
      | 10, _ => exact absurd rfl hn
      | 11, _ => rfl
      | 12, _ => rfl
      | 13, _ => rfl
      | 14, _ => rfl
      | 15, _ => rfl
      | i + 16, hi => omega)
theorem p_C14 (hb : b ≤ 122) : aC (hp G b P) 0 (b + 12) = some (64, .inl (P.2 14)) := by
  simp only [aC, hp_get (G := G) (P := P) 12 hb (by omega), pc_]
  rfl
theorem p_a14 {j : Int32} (hb : b ≤ 122) : aI (hp G b P) (b + 12) j = bd 64 j (P.2 14) := by
  simp only [aI, p_C14 hb]
  rfl
theorem p_s14 {j x : Int32} (hb : b ≤ 122) : sI (hp G b P) (b + 12) j x = bd 64 j (fun i => hp G b (wA P 14 i x)) := by
  simp only [sI, p_C14 hb, bd]
  split
  · rfl
  · congr 1
    exact hp_set (Q := wA P 14 _ x) 12 (by omega) (fun i hi hn => by
      match i, hi with
      | 0, _ => rfl
      | 1, _ => rfl
      | 2, _ => rfl
      | 3, _ => rfl
      | 4, _ => rfl
      | 5, _ => rfl
      | 6, _ => rfl
      | 7, _ => rfl
      | 8, _ => rfl
      | 9, _ => rfl
      | 10, _ => rfl
      | 11, _ => rfl
      | 12, _ => exact absurd rfl hn
      | 13, _ => rfl
      | 14, _ => rfl
      | 15, _ => rfl
      | i + 16, hi => omega)
theorem p_C15 (hb : b ≤ 122) : aC (hp G b P) 0 (b + 13) = some (8, .inl (P.2 15)) := by
  simp only [aC, hp_get (G := G) (P := P) 13 hb (by omega), pc_]
  rfl
theorem p_a15 {j : Int32} (hb : b ≤ 122) : aI (hp G b P) (b + 13) j = bd 8 j (P.2 15) := by
  simp only [aI, p_C15 hb]
  rfl
theorem p_s15 {j x : Int32} (hb : b ≤ 122) : sI (hp G b P) (b + 13) j x = bd 8 j (fun i => hp G b (wA P 15 i x)) := by
  simp only [sI, p_C15 hb, bd]
  split
  · rfl
  · congr 1
    exact hp_set (Q := wA P 15 _ x) 13 (by omega) (fun i hi hn => by
      match i, hi with
      | 0, _ => rfl
      | 1, _ => rfl
      | 2, _ => rfl
      | 3, _ => rfl
      | 4, _ => rfl
      | 5, _ => rfl
      | 6, _ => rfl
      | 7, _ => rfl
      | 8, _ => rfl
      | 9, _ => rfl
      | 10, _ => rfl
      | 11, _ => rfl
      | 12, _ => rfl
      | 13, _ => exact absurd rfl hn
      | 14, _ => rfl
      | 15, _ => rfl
      | i + 16, hi => omega)
theorem p_C16 (hb : b ≤ 122) : aC (hp G b P) 0 (b + 14) = some (8, .inl (P.2 16)) := by
  simp only [aC, hp_get (G := G) (P := P) 14 hb (by omega), pc_]
  rfl
theorem p_a16 {j : Int32} (hb : b ≤ 122) : aI (hp G b P) (b + 14) j = bd 8 j (P.2 16) := by
  simp only [aI, p_C16 hb]
  rfl
theorem p_s16 {j x : Int32} (hb : b ≤ 122) : sI (hp G b P) (b + 14) j x = bd 8 j (fun i => hp G b (wA P 16 i x)) := by
  simp only [sI, p_C16 hb, bd]
  split
  · rfl
  · congr 1
    exact hp_set (Q := wA P 16 _ x) 14 (by omega) (fun i hi hn => by
      match i, hi with
      | 0, _ => rfl
      | 1, _ => rfl
      | 2, _ => rfl
      | 3, _ => rfl
      | 4, _ => rfl
      | 5, _ => rfl
      | 6, _ => rfl
      | 7, _ => rfl
      | 8, _ => rfl
      | 9, _ => rfl
      | 10, _ => rfl
      | 11, _ => rfl
      | 12, _ => rfl
      | 13, _ => rfl
      | 14, _ => exact absurd rfl hn
      | 15, _ => rfl
      | i + 16, hi => omega)
theorem p_C17 (hb : b ≤ 122) : aC (hp G b P) 0 (b + 15) = some (8, .inl (P.2 17)) := by
  simp only [aC, hp_get (G := G) (P := P) 15 hb (by omega), pc_]
  rfl
theorem p_a17 {j : Int32} (hb : b ≤ 122) : aI (hp G b P) (b + 15) j = bd 8 j (P.2 17) := by
  simp only [aI, p_C17 hb]
  rfl
theorem p_s17 {j x : Int32} (hb : b ≤ 122) : sI (hp G b P) (b + 15) j x = bd 8 j (fun i => hp G b (wA P 17 i x)) := by
  simp only [sI, p_C17 hb, bd]
  split
  · rfl
  · congr 1
    exact hp_set (Q := wA P 17 _ x) 15 (by omega) (fun i hi hn => by
      match i, hi with
      | 0, _ => rfl
      | 1, _ => rfl
      | 2, _ => rfl
      | 3, _ => rfl
      | 4, _ => rfl
      | 5, _ => rfl
      | 6, _ => rfl
      | 7, _ => rfl
      | 8, _ => rfl
      | 9, _ => rfl
      | 10, _ => rfl
      | 11, _ => rfl
      | 12, _ => rfl
      | 13, _ => rfl
      | 14, _ => rfl
      | 15, _ => exact absurd rfl hn
      | i + 16, hi => omega)
theorem p_P0 {x : Int32} (hb : b ≤ 122) : hP (hp G b P) 1 b 0 (.int x) = some (hp G b (wS P 0 x)) := by
  have h := hp_get (G := G) (P := P) 0 hb (by omega)
  rw [Nat.add_zero] at h
  simp only [hP, h, pc_]
  refine (if_pos ⟨trivial, Nat.le_of_ble_eq_true rfl⟩).trans (congrArg some ?_)
  exact hp_set (P := P) (Q := wS P 0 x) 0 (by omega) (fun i hi hn => by
    match i, hi with
    | 0, _ => exact absurd rfl hn
    | 1, _ => rfl
    | 2, _ => rfl
    | 3, _ => rfl
    | 4, _ => rfl
    | 5, _ => rfl
    | 6, _ => rfl
    | 7, _ => rfl
    | 8, _ => rfl
    | 9, _ => rfl
    | 10, _ => rfl
    | 11, _ => rfl
    | 12, _ => rfl
    | 13, _ => rfl
    | 14, _ => rfl
    | 15, _ => rfl
    | i + 16, hi => omega)
theorem p_P1 {x : Int32} (hb : b ≤ 122) : hP (hp G b P) 1 b 1 (.int x) = some (hp G b (wS P 1 x)) := by
  have h := hp_get (G := G) (P := P) 0 hb (by omega)
  rw [Nat.add_zero] at h
  simp only [hP, h, pc_]
  refine (if_pos ⟨trivial, Nat.le_of_ble_eq_true rfl⟩).trans (congrArg some ?_)
  exact hp_set (P := P) (Q := wS P 1 x) 0 (by omega) (fun i hi hn => by
    match i, hi with
    | 0, _ => exact absurd rfl hn
    | 1, _ => rfl
    | 2, _ => rfl
    | 3, _ => rfl
    | 4, _ => rfl
    | 5, _ => rfl
    | 6, _ => rfl
    | 7, _ => rfl
    | 8, _ => rfl
    | 9, _ => rfl
    | 10, _ => rfl
    | 11, _ => rfl
    | 12, _ => rfl
    | 13, _ => rfl
    | 14, _ => rfl
    | 15, _ => rfl
    | i + 16, hi => omega)
theorem p_P2 {x : Int32} (hb : b ≤ 122) : hP (hp G b P) 1 b 2 (.int x) = some (hp G b (wS P 2 x)) := by
  have h := hp_get (G := G) (P := P) 0 hb (by omega)
  rw [Nat.add_zero] at h
  simp only [hP, h, pc_]
  refine (if_pos ⟨trivial, Nat.le_of_ble_eq_true rfl⟩).trans (congrArg some ?_)
  exact hp_set (P := P) (Q := wS P 2 x) 0 (by omega) (fun i hi hn => by
    match i, hi with
    | 0, _ => exact absurd rfl hn
    | 1, _ => rfl
    | 2, _ => rfl
    | 3, _ => rfl
    | 4, _ => rfl
    | 5, _ => rfl
    | 6, _ => rfl
    | 7, _ => rfl
    | 8, _ => rfl
    | 9, _ => rfl
    | 10, _ => rfl
    | 11, _ => rfl
    | 12, _ => rfl
    | 13, _ => rfl
    | 14, _ => rfl
    | 15, _ => rfl
    | i + 16, hi => omega)
theorem p_P3 {x : Int32} (hb : b ≤ 122) : hP (hp G b P) 1 b 3 (.int x) = some (hp G b (wS P 3 x)) := by
  have h := hp_get (G := G) (P := P) 0 hb (by omega)
  rw [Nat.add_zero] at h
  simp only [hP, h, pc_]
  refine (if_pos ⟨trivial, Nat.le_of_ble_eq_true rfl⟩).trans (congrArg some ?_)
  exact hp_set (P := P) (Q := wS P 3 x) 0 (by omega) (fun i hi hn => by
    match i, hi with
    | 0, _ => exact absurd rfl hn
    | 1, _ => rfl
    | 2, _ => rfl
    | 3, _ => rfl
    | 4, _ => rfl
    | 5, _ => rfl
    | 6, _ => rfl
    | 7, _ => rfl
    | 8, _ => rfl
    | 9, _ => rfl
    | 10, _ => rfl
    | 11, _ => rfl
    | 12, _ => rfl
    | 13, _ => rfl
    | 14, _ => rfl
    | 15, _ => rfl
    | i + 16, hi => omega)
theorem p_Pl {x : Int32} (hb : b ≤ 122) : hP (hp G b P) 0 (b + 11) 1 (.int x) = some (hp G b (wS P 4 x)) := by
  have h := hp_get (G := G) (P := P) 11 hb (by omega)
  simp only [hP, h, pc_]
  refine (if_pos ⟨trivial, Nat.le_of_ble_eq_true rfl⟩).trans (congrArg some ?_)
  exact hp_set (P := P) (Q := wS P 4 x) 11 (by omega) (fun i hi hn => by
    match i, hi with
    | 11, _ => exact absurd rfl hn
    | 0, _ => rfl
    | 1, _ => rfl
    | 2, _ => rfl
    | 3, _ => rfl
    | 4, _ => rfl
    | 5, _ => rfl
    | 6, _ => rfl
    | 7, _ => rfl
    | 8, _ => rfl
    | 9, _ => rfl
    | 10, _ => rfl
    | 12, _ => rfl
    | 13, _ => rfl
    | 14, _ => rfl
    | 15, _ => rfl
    | i + 16, hi => omega)
theorem p_c6_15 {sp dp n : Int32} {a c m : Nat} (hb : b ≤ 122) (h1 : sp = nI a) (h2 : dp = nI c) (h3 : n = nI m) (h4 : a + m ≤ 8) (h5 : c + m ≤ 8) : cpA (hp G b P) (b + 3) sp (b + 13) dp n = some (hp G b (wR P 15 (va_cpy (P.2 6) (P.2 15) a c m))) := by
  subst h1; subst h2; subst h3
  simp only [cpA, p_C6 hb, p_C15 hb]
  rw [nI_clamp (by omega), nI_clamp (by omega), nI_clamp (by omega)]
  rw [if_neg (by
    simp only [nI_pos (show a < 2 ^ 31 by omega), nI_pos (show c < 2 ^ 31 by omega), nI_pos (show m < 2 ^ 31 by omega), false_or]
    omega)]
  congr 1
  exact hp_set (P := P) (Q := wR P 15 _) 13 (by omega) (fun i hi hn => by
    match i, hi with
    | 0, _ => rfl
    | 1, _ => rfl
    | 2, _ => rfl
    | 3, _ => rfl
    | 4, _ => rfl
    | 5, _ => rfl
    | 6, _ => rfl
    | 7, _ => rfl
    | 8, _ => rfl
    | 9, _ => rfl
    | 10, _ => rfl
    | 11, _ => rfl
    | 12, _ => rfl
    | 13, _ => exact absurd rfl hn
    | 14, _ => rfl
    | 15, _ => rfl
    | i + 16, hi => omega)
theorem p_c7_16 {sp dp n : Int32} {a c m : Nat} (hb : b ≤ 122) (h1 : sp = nI a) (h2 : dp = nI c) (h3 : n = nI m) (h4 : a + m ≤ 8) (h5 : c + m ≤ 8) : cpA (hp G b P) (b + 4) sp (b + 14) dp n = some (hp G b (wR P 16 (va_cpy (P.2 7) (P.2 16) a c m))) := by
  subst h1; subst h2; subst h3
  simp only [cpA, p_C7 hb, p_C16 hb]
  rw [nI_clamp (by omega), nI_clamp (by omega), nI_clamp (by omega)]
  rw [if_neg (by
    simp only [nI_pos (show a < 2 ^ 31 by omega), nI_pos (show c < 2 ^ 31 by omega), nI_pos (show m < 2 ^ 31 by omega), false_or]
    omega)]
  congr 1
  exact hp_set (P := P) (Q := wR P 16 _) 14 (by omega) (fun i hi hn => by
    match i, hi with
    | 0, _ => rfl
    | 1, _ => rfl
    | 2, _ => rfl
    | 3, _ => rfl
    | 4, _ => rfl
    | 5, _ => rfl
    | 6, _ => rfl
    | 7, _ => rfl
    | 8, _ => rfl
    | 9, _ => rfl
    | 10, _ => rfl
    | 11, _ => rfl
    | 12, _ => rfl
    | 13, _ => rfl
    | 14, _ => exact absurd rfl hn
    | 15, _ => rfl
    | i + 16, hi => omega)
theorem p_c10_17 {sp dp n : Int32} {a c m : Nat} (hb : b ≤ 122) (h1 : sp = nI a) (h2 : dp = nI c) (h3 : n = nI m) (h4 : a + m ≤ 8) (h5 : c + m ≤ 8) : cpA (hp G b P) (b + 7) sp (b + 15) dp n = some (hp G b (wR P 17 (va_cpy (P.2 10) (P.2 17) a c m))) := by
  subst h1; subst h2; subst h3
  simp only [cpA, p_C10 hb, p_C17 hb]
  rw [nI_clamp (by omega), nI_clamp (by omega), nI_clamp (by omega)]
  rw [if_neg (by
    simp only [nI_pos (show a < 2 ^ 31 by omega), nI_pos (show c < 2 ^ 31 by omega), nI_pos (show m < 2 ^ 31 by omega), false_or]
    omega)]
  congr 1
  exact hp_set (P := P) (Q := wR P 17 _) 15 (by omega) (fun i hi hn => by
    match i, hi with
    | 0, _ => rfl
    | 1, _ => rfl
    | 2, _ => rfl
    | 3, _ => rfl
    | 4, _ => rfl
    | 5, _ => rfl
    | 6, _ => rfl
    | 7, _ => rfl
    | 8, _ => rfl
    | 9, _ => rfl
    | 10, _ => rfl
    | 11, _ => rfl
    | 12, _ => rfl
    | 13, _ => rfl
    | 14, _ => rfl
    | 15, _ => exact absurd rfl hn
    | i + 16, hi => omega)
theorem p_c14_14 {sp dp n : Int32} {a c m : Nat} (hb : b ≤ 122) (h1 : sp = nI a) (h2 : dp = nI c) (h3 : n = nI m) (h4 : a + m ≤ 64) (h5 : c + m ≤ 64) : cpA (hp G b P) (b + 12) sp (b + 12) dp n = some (hp G b (wR P 14 (va_cpy (P.2 14) (P.2 14) a c m))) := by
  subst h1; subst h2; subst h3
  simp only [cpA, p_C14 hb, p_C14 hb]
  rw [nI_clamp (by omega), nI_clamp (by omega), nI_clamp (by omega)]
  rw [if_neg (by
    simp only [nI_pos (show a < 2 ^ 31 by omega), nI_pos (show c < 2 ^ 31 by omega), nI_pos (show m < 2 ^ 31 by omega), false_or]
    omega)]
  congr 1
  exact hp_set (P := P) (Q := wR P 14 _) 12 (by omega) (fun i hi hn => by
    match i, hi with
    | 0, _ => rfl
    | 1, _ => rfl
    | 2, _ => rfl
    | 3, _ => rfl
    | 4, _ => rfl
    | 5, _ => rfl
    | 6, _ => rfl
    | 7, _ => rfl
    | 8, _ => rfl
    | 9, _ => rfl
    | 10, _ => rfl
    | 11, _ => rfl
    | 12, _ => exact absurd rfl hn
    | 13, _ => rfl
    | 14, _ => rfl
    | 15, _ => rfl
    | i + 16, hi => omega)
end

