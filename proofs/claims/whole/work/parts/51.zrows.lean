/-! the model's rails: its rows, what reads and lays a number of a rail -/
theorem b228_0 {α : Type} {k : Nat → α} : bd 228 (0 : Int32) k = some (k 0) := bd_nI (r := 0) (by decide) (by decide)
theorem b228_1 {α : Type} {k : Nat → α} : bd 228 (1 : Int32) k = some (k 1) := bd_nI (r := 1) (by decide) (by decide)
theorem b228_2 {α : Type} {k : Nat → α} : bd 228 (2 : Int32) k = some (k 2) := bd_nI (r := 2) (by decide) (by decide)
theorem b228_3 {α : Type} {k : Nat → α} : bd 228 (3 : Int32) k = some (k 3) := bd_nI (r := 3) (by decide) (by decide)
def rowZ (z : Nat → Int32) (r k : Nat) : Int32 := if k = 8 ∨ 20 ≤ k then 0 else z (68 + 20 * r + k)
def wZ (M : MV) (f : Nat → Int32) : MV := (M.1, fun j => if j = 1 then f else M.2 j)
theorem wZ_1 (M : MV) (f : Nat → Int32) : (wZ M f).1 = M.1 := rfl
theorem wZ_z (M : MV) (f : Nat → Int32) : (wZ M f).2 1 = f := rfl
theorem wZ_n (M : MV) (f : Nat → Int32) {k : Nat} (h : k ≠ 1) : (wZ M f).2 k = M.2 k := if_neg h
theorem wZ_8 (M : MV) (f : Nat → Int32) : (wZ M f).2 8 = M.2 8 := rfl
theorem wZ_wZ (M : MV) (f g : Nat → Int32) : wZ (wZ M f) g = wZ M g := by
  refine Prod.ext rfl (funext fun j => ?_)
  by_cases h : j = 1 <;> simp [wZ, h]
theorem mA_wZ (M : MV) (i : Nat) (x : Int32) : mA M 1 i x = wZ M (upd (M.2 1) i x) := rfl
theorem wZ_self (M : MV) : wZ M (M.2 1) = M := by
  refine Prod.ext rfl (funext fun j => ?_)
  by_cases h : j = 1 <;> simp [wZ, h]
theorem rz_in {z : Nat → Int32} {r k : Nat} (h : ¬ (k = 8 ∨ 20 ≤ k)) : rowZ z r k = z (68 + 20 * r + k) := if_neg h
theorem rz_out {z : Nat → Int32} {r k : Nat} (h : k = 8 ∨ 20 ≤ k) : rowZ z r k = 0 := if_pos h
theorem rz_upd (z : Nat → Int32) (r : Nat) {k : Nat} (hk : k < 20) (h8 : k ≠ 8) (x : Int32) : rowZ (upd z (68 + 20 * r + k) x) = setRow (rowZ z) r (upd (rowZ z r) k x) := by
  funext q j
  by_cases hq : q = r
  · subst hq
    rw [sr_at]
    by_cases hj : j = 8 ∨ 20 ≤ j
    · rw [rz_out hj, upd_n (by omega), rz_out hj]
    · rw [rz_in hj]
      by_cases hjk : j = k
      · subst hjk
        rw [upd_s, upd_s]
      · rw [upd_n (by omega), upd_n hjk, rz_in hj]
  · rw [sr_ne _ _ hq]
    by_cases hj : j = 8 ∨ 20 ≤ j
    · rw [rz_out hj, rz_out hj]
    · rw [rz_in hj, upd_n (by omega), rz_in hj]
theorem rz_updo (z : Nat → Int32) {i : Nat} (h : i < 68 ∨ 228 ≤ i ∨ i % 20 = 16) (x : Int32) {q : Nat} (hq : q < 8) : rowZ (upd z i x) q = rowZ z q := by
  funext j
  by_cases hj : j = 8 ∨ 20 ≤ j
  · rw [rz_out hj, rz_out hj]
  · rw [rz_in hj, upd_n (by omega), rz_in hj]
theorem rz_updl (z : Nat → Int32) {i : Nat} (h : i < 68) (x : Int32) : rowZ (upd z i x) = rowZ z := by
  funext q j
  by_cases hj : j = 8 ∨ 20 ≤ j
  · rw [rz_out hj, rz_out hj]
  · rw [rz_in hj, upd_n (by omega), rz_in hj]
variable {G : Nat → MC} {b : Nat} {M : MV}
theorem m_of0 (hb : b ≤ 134) {r : Nat} (hr : r < 8) : f_X4_of (hm G b M) b (nI r) (0 : Int32) = some (rowZ (M.2 1) r 0) := by
  simp (disch := omega) only [f_X4_of, m_R1 hb, m_a1 hb, ix7, ix4, ix20, ix4l, ix68, ix4p, ixa0, ixa1, ixa2, ixa3, ixa4, ixa5, ixa6, ixa7, ixa8, ixa9, ixa10, ixa11, ixa12, ixa13, ixa14, ixa15, ixa16, ixa17, ixa18, ixa19, ixa20, nI_add, bd_nI, Option.bind_some]
  rfl
theorem m_lay0 (hb : b ≤ 134) {r : Nat} (hr : r < 8) (x : Int32) : f_X4_lay (hm G b M) b (nI r) (0 : Int32) x = some (hm G b (wZ M (upd (M.2 1) (68 + 20 * r + 0) x))) := by
  simp (disch := omega) only [f_X4_lay, m_R1 hb, m_s1 hb, ix7, ix4, ix20, ix4l, ix68, ix4p, ixa0, ixa1, ixa2, ixa3, ixa4, ixa5, ixa6, ixa7, ixa8, ixa9, ixa10, ixa11, ixa12, ixa13, ixa14, ixa15, ixa16, ixa17, ixa18, ixa19, ixa20, nI_add, bd_nI, Option.bind_some, mA_wZ]
theorem m_of1 (hb : b ≤ 134) {r : Nat} (hr : r < 8) : f_X4_of (hm G b M) b (nI r) (1 : Int32) = some (rowZ (M.2 1) r 1) := by
  simp (disch := omega) only [f_X4_of, m_R1 hb, m_a1 hb, ix7, ix4, ix20, ix4l, ix68, ix4p, ixa0, ixa1, ixa2, ixa3, ixa4, ixa5, ixa6, ixa7, ixa8, ixa9, ixa10, ixa11, ixa12, ixa13, ixa14, ixa15, ixa16, ixa17, ixa18, ixa19, ixa20, nI_add, bd_nI, Option.bind_some]
  rfl
theorem m_lay1 (hb : b ≤ 134) {r : Nat} (hr : r < 8) (x : Int32) : f_X4_lay (hm G b M) b (nI r) (1 : Int32) x = some (hm G b (wZ M (upd (M.2 1) (68 + 20 * r + 1) x))) := by
  simp (disch := omega) only [f_X4_lay, m_R1 hb, m_s1 hb, ix7, ix4, ix20, ix4l, ix68, ix4p, ixa0, ixa1, ixa2, ixa3, ixa4, ixa5, ixa6, ixa7, ixa8, ixa9, ixa10, ixa11, ixa12, ixa13, ixa14, ixa15, ixa16, ixa17, ixa18, ixa19, ixa20, nI_add, bd_nI, Option.bind_some, mA_wZ]
theorem m_of2 (hb : b ≤ 134) {r : Nat} (hr : r < 8) : f_X4_of (hm G b M) b (nI r) (2 : Int32) = some (rowZ (M.2 1) r 2) := by
  simp (disch := omega) only [f_X4_of, m_R1 hb, m_a1 hb, ix7, ix4, ix20, ix4l, ix68, ix4p, ixa0, ixa1, ixa2, ixa3, ixa4, ixa5, ixa6, ixa7, ixa8, ixa9, ixa10, ixa11, ixa12, ixa13, ixa14, ixa15, ixa16, ixa17, ixa18, ixa19, ixa20, nI_add, bd_nI, Option.bind_some]
  rfl
theorem m_lay2 (hb : b ≤ 134) {r : Nat} (hr : r < 8) (x : Int32) : f_X4_lay (hm G b M) b (nI r) (2 : Int32) x = some (hm G b (wZ M (upd (M.2 1) (68 + 20 * r + 2) x))) := by
  simp (disch := omega) only [f_X4_lay, m_R1 hb, m_s1 hb, ix7, ix4, ix20, ix4l, ix68, ix4p, ixa0, ixa1, ixa2, ixa3, ixa4, ixa5, ixa6, ixa7, ixa8, ixa9, ixa10, ixa11, ixa12, ixa13, ixa14, ixa15, ixa16, ixa17, ixa18, ixa19, ixa20, nI_add, bd_nI, Option.bind_some, mA_wZ]
theorem m_of3 (hb : b ≤ 134) {r : Nat} (hr : r < 8) : f_X4_of (hm G b M) b (nI r) (3 : Int32) = some (rowZ (M.2 1) r 3) := by
  simp (disch := omega) only [f_X4_of, m_R1 hb, m_a1 hb, ix7, ix4, ix20, ix4l, ix68, ix4p, ixa0, ixa1, ixa2, ixa3, ixa4, ixa5, ixa6, ixa7, ixa8, ixa9, ixa10, ixa11, ixa12, ixa13, ixa14, ixa15, ixa16, ixa17, ixa18, ixa19, ixa20, nI_add, bd_nI, Option.bind_some]
  rfl
theorem m_lay3 (hb : b ≤ 134) {r : Nat} (hr : r < 8) (x : Int32) : f_X4_lay (hm G b M) b (nI r) (3 : Int32) x = some (hm G b (wZ M (upd (M.2 1) (68 + 20 * r + 3) x))) := by
  simp (disch := omega) only [f_X4_lay, m_R1 hb, m_s1 hb, ix7, ix4, ix20, ix4l, ix68, ix4p, ixa0, ixa1, ixa2, ixa3, ixa4, ixa5, ixa6, ixa7, ixa8, ixa9, ixa10, ixa11, ixa12, ixa13, ixa14, ixa15, ixa16, ixa17, ixa18, ixa19, ixa20, nI_add, bd_nI, Option.bind_some, mA_wZ]
theorem m_of4 (hb : b ≤ 134) {r : Nat} (hr : r < 8) : f_X4_of (hm G b M) b (nI r) (4 : Int32) = some (rowZ (M.2 1) r 4) := by
  simp (disch := omega) only [f_X4_of, m_R1 hb, m_a1 hb, ix7, ix4, ix20, ix4l, ix68, ix4p, ixa0, ixa1, ixa2, ixa3, ixa4, ixa5, ixa6, ixa7, ixa8, ixa9, ixa10, ixa11, ixa12, ixa13, ixa14, ixa15, ixa16, ixa17, ixa18, ixa19, ixa20, nI_add, bd_nI, Option.bind_some]
  rfl
theorem m_lay4 (hb : b ≤ 134) {r : Nat} (hr : r < 8) (x : Int32) : f_X4_lay (hm G b M) b (nI r) (4 : Int32) x = some (hm G b (wZ M (upd (M.2 1) (68 + 20 * r + 4) x))) := by
  simp (disch := omega) only [f_X4_lay, m_R1 hb, m_s1 hb, ix7, ix4, ix20, ix4l, ix68, ix4p, ixa0, ixa1, ixa2, ixa3, ixa4, ixa5, ixa6, ixa7, ixa8, ixa9, ixa10, ixa11, ixa12, ixa13, ixa14, ixa15, ixa16, ixa17, ixa18, ixa19, ixa20, nI_add, bd_nI, Option.bind_some, mA_wZ]
theorem m_of5 (hb : b ≤ 134) {r : Nat} (hr : r < 8) : f_X4_of (hm G b M) b (nI r) (5 : Int32) = some (rowZ (M.2 1) r 5) := by
  simp (disch := omega) only [f_X4_of, m_R1 hb, m_a1 hb, ix7, ix4, ix20, ix4l, ix68, ix4p, ixa0, ixa1, ixa2, ixa3, ixa4, ixa5, ixa6, ixa7, ixa8, ixa9, ixa10, ixa11, ixa12, ixa13, ixa14, ixa15, ixa16, ixa17, ixa18, ixa19, ixa20, nI_add, bd_nI, Option.bind_some]
  rfl
theorem m_lay5 (hb : b ≤ 134) {r : Nat} (hr : r < 8) (x : Int32) : f_X4_lay (hm G b M) b (nI r) (5 : Int32) x = some (hm G b (wZ M (upd (M.2 1) (68 + 20 * r + 5) x))) := by
  simp (disch := omega) only [f_X4_lay, m_R1 hb, m_s1 hb, ix7, ix4, ix20, ix4l, ix68, ix4p, ixa0, ixa1, ixa2, ixa3, ixa4, ixa5, ixa6, ixa7, ixa8, ixa9, ixa10, ixa11, ixa12, ixa13, ixa14, ixa15, ixa16, ixa17, ixa18, ixa19, ixa20, nI_add, bd_nI, Option.bind_some, mA_wZ]
theorem m_of6 (hb : b ≤ 134) {r : Nat} (hr : r < 8) : f_X4_of (hm G b M) b (nI r) (6 : Int32) = some (rowZ (M.2 1) r 6) := by
  simp (disch := omega) only [f_X4_of, m_R1 hb, m_a1 hb, ix7, ix4, ix20, ix4l, ix68, ix4p, ixa0, ixa1, ixa2, ixa3, ixa4, ixa5, ixa6, ixa7, ixa8, ixa9, ixa10, ixa11, ixa12, ixa13, ixa14, ixa15, ixa16, ixa17, ixa18, ixa19, ixa20, nI_add, bd_nI, Option.bind_some]
  rfl
theorem m_lay6 (hb : b ≤ 134) {r : Nat} (hr : r < 8) (x : Int32) : f_X4_lay (hm G b M) b (nI r) (6 : Int32) x = some (hm G b (wZ M (upd (M.2 1) (68 + 20 * r + 6) x))) := by
  simp (disch := omega) only [f_X4_lay, m_R1 hb, m_s1 hb, ix7, ix4, ix20, ix4l, ix68, ix4p, ixa0, ixa1, ixa2, ixa3, ixa4, ixa5, ixa6, ixa7, ixa8, ixa9, ixa10, ixa11, ixa12, ixa13, ixa14, ixa15, ixa16, ixa17, ixa18, ixa19, ixa20, nI_add, bd_nI, Option.bind_some, mA_wZ]
theorem m_of7 (hb : b ≤ 134) {r : Nat} (hr : r < 8) : f_X4_of (hm G b M) b (nI r) (7 : Int32) = some (rowZ (M.2 1) r 7) := by
  simp (disch := omega) only [f_X4_of, m_R1 hb, m_a1 hb, ix7, ix4, ix20, ix4l, ix68, ix4p, ixa0, ixa1, ixa2, ixa3, ixa4, ixa5, ixa6, ixa7, ixa8, ixa9, ixa10, ixa11, ixa12, ixa13, ixa14, ixa15, ixa16, ixa17, ixa18, ixa19, ixa20, nI_add, bd_nI, Option.bind_some]
  rfl
theorem m_lay7 (hb : b ≤ 134) {r : Nat} (hr : r < 8) (x : Int32) : f_X4_lay (hm G b M) b (nI r) (7 : Int32) x = some (hm G b (wZ M (upd (M.2 1) (68 + 20 * r + 7) x))) := by
  simp (disch := omega) only [f_X4_lay, m_R1 hb, m_s1 hb, ix7, ix4, ix20, ix4l, ix68, ix4p, ixa0, ixa1, ixa2, ixa3, ixa4, ixa5, ixa6, ixa7, ixa8, ixa9, ixa10, ixa11, ixa12, ixa13, ixa14, ixa15, ixa16, ixa17, ixa18, ixa19, ixa20, nI_add, bd_nI, Option.bind_some, mA_wZ]
theorem m_of8 (hb : b ≤ 134) {r : Nat} (hr : r < 8) : f_X4_of (hm G b M) b (nI r) (8 : Int32) = some (M.2 1 (68 + 20 * r + 8)) := by
  simp (disch := omega) only [f_X4_of, m_R1 hb, m_a1 hb, ix7, ix4, ix20, ix4l, ix68, ix4p, ixa0, ixa1, ixa2, ixa3, ixa4, ixa5, ixa6, ixa7, ixa8, ixa9, ixa10, ixa11, ixa12, ixa13, ixa14, ixa15, ixa16, ixa17, ixa18, ixa19, ixa20, nI_add, bd_nI, Option.bind_some]
theorem m_lay8 (hb : b ≤ 134) {r : Nat} (hr : r < 8) (x : Int32) : f_X4_lay (hm G b M) b (nI r) (8 : Int32) x = some (hm G b (wZ M (upd (M.2 1) (68 + 20 * r + 8) x))) := by
  simp (disch := omega) only [f_X4_lay, m_R1 hb, m_s1 hb, ix7, ix4, ix20, ix4l, ix68, ix4p, ixa0, ixa1, ixa2, ixa3, ixa4, ixa5, ixa6, ixa7, ixa8, ixa9, ixa10, ixa11, ixa12, ixa13, ixa14, ixa15, ixa16, ixa17, ixa18, ixa19, ixa20, nI_add, bd_nI, Option.bind_some, mA_wZ]
theorem m_of9 (hb : b ≤ 134) {r : Nat} (hr : r < 8) : f_X4_of (hm G b M) b (nI r) (9 : Int32) = some (rowZ (M.2 1) r 9) := by
  simp (disch := omega) only [f_X4_of, m_R1 hb, m_a1 hb, ix7, ix4, ix20, ix4l, ix68, ix4p, ixa0, ixa1, ixa2, ixa3, ixa4, ixa5, ixa6, ixa7, ixa8, ixa9, ixa10, ixa11, ixa12, ixa13, ixa14, ixa15, ixa16, ixa17, ixa18, ixa19, ixa20, nI_add, bd_nI, Option.bind_some]
  rfl
theorem m_lay9 (hb : b ≤ 134) {r : Nat} (hr : r < 8) (x : Int32) : f_X4_lay (hm G b M) b (nI r) (9 : Int32) x = some (hm G b (wZ M (upd (M.2 1) (68 + 20 * r + 9) x))) := by
  simp (disch := omega) only [f_X4_lay, m_R1 hb, m_s1 hb, ix7, ix4, ix20, ix4l, ix68, ix4p, ixa0, ixa1, ixa2, ixa3, ixa4, ixa5, ixa6, ixa7, ixa8, ixa9, ixa10, ixa11, ixa12, ixa13, ixa14, ixa15, ixa16, ixa17, ixa18, ixa19, ixa20, nI_add, bd_nI, Option.bind_some, mA_wZ]
theorem m_of10 (hb : b ≤ 134) {r : Nat} (hr : r < 8) : f_X4_of (hm G b M) b (nI r) (10 : Int32) = some (rowZ (M.2 1) r 10) := by
  simp (disch := omega) only [f_X4_of, m_R1 hb, m_a1 hb, ix7, ix4, ix20, ix4l, ix68, ix4p, ixa0, ixa1, ixa2, ixa3, ixa4, ixa5, ixa6, ixa7, ixa8, ixa9, ixa10, ixa11, ixa12, ixa13, ixa14, ixa15, ixa16, ixa17, ixa18, ixa19, ixa20, nI_add, bd_nI, Option.bind_some]
  rfl
theorem m_lay10 (hb : b ≤ 134) {r : Nat} (hr : r < 8) (x : Int32) : f_X4_lay (hm G b M) b (nI r) (10 : Int32) x = some (hm G b (wZ M (upd (M.2 1) (68 + 20 * r + 10) x))) := by
  simp (disch := omega) only [f_X4_lay, m_R1 hb, m_s1 hb, ix7, ix4, ix20, ix4l, ix68, ix4p, ixa0, ixa1, ixa2, ixa3, ixa4, ixa5, ixa6, ixa7, ixa8, ixa9, ixa10, ixa11, ixa12, ixa13, ixa14, ixa15, ixa16, ixa17, ixa18, ixa19, ixa20, nI_add, bd_nI, Option.bind_some, mA_wZ]
theorem m_of11 (hb : b ≤ 134) {r : Nat} (hr : r < 8) : f_X4_of (hm G b M) b (nI r) (11 : Int32) = some (rowZ (M.2 1) r 11) := by
  simp (disch := omega) only [f_X4_of, m_R1 hb, m_a1 hb, ix7, ix4, ix20, ix4l, ix68, ix4p, ixa0, ixa1, ixa2, ixa3, ixa4, ixa5, ixa6, ixa7, ixa8, ixa9, ixa10, ixa11, ixa12, ixa13, ixa14, ixa15, ixa16, ixa17, ixa18, ixa19, ixa20, nI_add, bd_nI, Option.bind_some]
  rfl
theorem m_lay11 (hb : b ≤ 134) {r : Nat} (hr : r < 8) (x : Int32) : f_X4_lay (hm G b M) b (nI r) (11 : Int32) x = some (hm G b (wZ M (upd (M.2 1) (68 + 20 * r + 11) x))) := by
  simp (disch := omega) only [f_X4_lay, m_R1 hb, m_s1 hb, ix7, ix4, ix20, ix4l, ix68, ix4p, ixa0, ixa1, ixa2, ixa3, ixa4, ixa5, ixa6, ixa7, ixa8, ixa9, ixa10, ixa11, ixa12, ixa13, ixa14, ixa15, ixa16, ixa17, ixa18, ixa19, ixa20, nI_add, bd_nI, Option.bind_some, mA_wZ]
theorem m_of12 (hb : b ≤ 134) {r : Nat} (hr : r < 8) : f_X4_of (hm G b M) b (nI r) (12 : Int32) = some (rowZ (M.2 1) r 12) := by
  simp (disch := omega) only [f_X4_of, m_R1 hb, m_a1 hb, ix7, ix4, ix20, ix4l, ix68, ix4p, ixa0, ixa1, ixa2, ixa3, ixa4, ixa5, ixa6, ixa7, ixa8, ixa9, ixa10, ixa11, ixa12, ixa13, ixa14, ixa15, ixa16, ixa17, ixa18, ixa19, ixa20, nI_add, bd_nI, Option.bind_some]
  rfl
theorem m_lay12 (hb : b ≤ 134) {r : Nat} (hr : r < 8) (x : Int32) : f_X4_lay (hm G b M) b (nI r) (12 : Int32) x = some (hm G b (wZ M (upd (M.2 1) (68 + 20 * r + 12) x))) := by
  simp (disch := omega) only [f_X4_lay, m_R1 hb, m_s1 hb, ix7, ix4, ix20, ix4l, ix68, ix4p, ixa0, ixa1, ixa2, ixa3, ixa4, ixa5, ixa6, ixa7, ixa8, ixa9, ixa10, ixa11, ixa12, ixa13, ixa14, ixa15, ixa16, ixa17, ixa18, ixa19, ixa20, nI_add, bd_nI, Option.bind_some, mA_wZ]
theorem m_of13 (hb : b ≤ 134) {r : Nat} (hr : r < 8) : f_X4_of (hm G b M) b (nI r) (13 : Int32) = some (rowZ (M.2 1) r 13) := by
  simp (disch := omega) only [f_X4_of, m_R1 hb, m_a1 hb, ix7, ix4, ix20, ix4l, ix68, ix4p, ixa0, ixa1, ixa2, ixa3, ixa4, ixa5, ixa6, ixa7, ixa8, ixa9, ixa10, ixa11, ixa12, ixa13, ixa14, ixa15, ixa16, ixa17, ixa18, ixa19, ixa20, nI_add, bd_nI, Option.bind_some]
  rfl
theorem m_lay13 (hb : b ≤ 134) {r : Nat} (hr : r < 8) (x : Int32) : f_X4_lay (hm G b M) b (nI r) (13 : Int32) x = some (hm G b (wZ M (upd (M.2 1) (68 + 20 * r + 13) x))) := by
  simp (disch := omega) only [f_X4_lay, m_R1 hb, m_s1 hb, ix7, ix4, ix20, ix4l, ix68, ix4p, ixa0, ixa1, ixa2, ixa3, ixa4, ixa5, ixa6, ixa7, ixa8, ixa9, ixa10, ixa11, ixa12, ixa13, ixa14, ixa15, ixa16, ixa17, ixa18, ixa19, ixa20, nI_add, bd_nI, Option.bind_some, mA_wZ]
theorem m_add13 (hb : b ≤ 134) {r : Nat} (hr : r < 8) : f_X4_add (hm G b M) b (nI r) (13 : Int32) = some (hm G b (wZ M (upd (M.2 1) (68 + 20 * r + 13) (rowZ (M.2 1) r 13 + 1)))) := by
  simp (disch := omega) only [f_X4_add, m_R1 hb, m_a1 hb, m_s1 hb, ix7, ix4, ix20, ix4l, ix68, ix4p, ixa0, ixa1, ixa2, ixa3, ixa4, ixa5, ixa6, ixa7, ixa8, ixa9, ixa10, ixa11, ixa12, ixa13, ixa14, ixa15, ixa16, ixa17, ixa18, ixa19, ixa20, nI_add, bd_nI, Option.bind_some, mA_wZ]
  rfl
theorem m_of14 (hb : b ≤ 134) {r : Nat} (hr : r < 8) : f_X4_of (hm G b M) b (nI r) (14 : Int32) = some (rowZ (M.2 1) r 14) := by
  simp (disch := omega) only [f_X4_of, m_R1 hb, m_a1 hb, ix7, ix4, ix20, ix4l, ix68, ix4p, ixa0, ixa1, ixa2, ixa3, ixa4, ixa5, ixa6, ixa7, ixa8, ixa9, ixa10, ixa11, ixa12, ixa13, ixa14, ixa15, ixa16, ixa17, ixa18, ixa19, ixa20, nI_add, bd_nI, Option.bind_some]
  rfl
theorem m_lay14 (hb : b ≤ 134) {r : Nat} (hr : r < 8) (x : Int32) : f_X4_lay (hm G b M) b (nI r) (14 : Int32) x = some (hm G b (wZ M (upd (M.2 1) (68 + 20 * r + 14) x))) := by
  simp (disch := omega) only [f_X4_lay, m_R1 hb, m_s1 hb, ix7, ix4, ix20, ix4l, ix68, ix4p, ixa0, ixa1, ixa2, ixa3, ixa4, ixa5, ixa6, ixa7, ixa8, ixa9, ixa10, ixa11, ixa12, ixa13, ixa14, ixa15, ixa16, ixa17, ixa18, ixa19, ixa20, nI_add, bd_nI, Option.bind_some, mA_wZ]
theorem m_add14 (hb : b ≤ 134) {r : Nat} (hr : r < 8) : f_X4_add (hm G b M) b (nI r) (14 : Int32) = some (hm G b (wZ M (upd (M.2 1) (68 + 20 * r + 14) (rowZ (M.2 1) r 14 + 1)))) := by
  simp (disch := omega) only [f_X4_add, m_R1 hb, m_a1 hb, m_s1 hb, ix7, ix4, ix20, ix4l, ix68, ix4p, ixa0, ixa1, ixa2, ixa3, ixa4, ixa5, ixa6, ixa7, ixa8, ixa9, ixa10, ixa11, ixa12, ixa13, ixa14, ixa15, ixa16, ixa17, ixa18, ixa19, ixa20, nI_add, bd_nI, Option.bind_some, mA_wZ]
  rfl
theorem m_of15 (hb : b ≤ 134) {r : Nat} (hr : r < 8) : f_X4_of (hm G b M) b (nI r) (15 : Int32) = some (rowZ (M.2 1) r 15) := by
  simp (disch := omega) only [f_X4_of, m_R1 hb, m_a1 hb, ix7, ix4, ix20, ix4l, ix68, ix4p, ixa0, ixa1, ixa2, ixa3, ixa4, ixa5, ixa6, ixa7, ixa8, ixa9, ixa10, ixa11, ixa12, ixa13, ixa14, ixa15, ixa16, ixa17, ixa18, ixa19, ixa20, nI_add, bd_nI, Option.bind_some]
  rfl
theorem m_lay15 (hb : b ≤ 134) {r : Nat} (hr : r < 8) (x : Int32) : f_X4_lay (hm G b M) b (nI r) (15 : Int32) x = some (hm G b (wZ M (upd (M.2 1) (68 + 20 * r + 15) x))) := by
  simp (disch := omega) only [f_X4_lay, m_R1 hb, m_s1 hb, ix7, ix4, ix20, ix4l, ix68, ix4p, ixa0, ixa1, ixa2, ixa3, ixa4, ixa5, ixa6, ixa7, ixa8, ixa9, ixa10, ixa11, ixa12, ixa13, ixa14, ixa15, ixa16, ixa17, ixa18, ixa19, ixa20, nI_add, bd_nI, Option.bind_some, mA_wZ]
theorem m_of16 (hb : b ≤ 134) {r : Nat} (hr : r < 8) : f_X4_of (hm G b M) b (nI r) (16 : Int32) = some (rowZ (M.2 1) r 16) := by
  simp (disch := omega) only [f_X4_of, m_R1 hb, m_a1 hb, ix7, ix4, ix20, ix4l, ix68, ix4p, ixa0, ixa1, ixa2, ixa3, ixa4, ixa5, ixa6, ixa7, ixa8, ixa9, ixa10, ixa11, ixa12, ixa13, ixa14, ixa15, ixa16, ixa17, ixa18, ixa19, ixa20, nI_add, bd_nI, Option.bind_some]
  rfl
theorem m_lay16 (hb : b ≤ 134) {r : Nat} (hr : r < 8) (x : Int32) : f_X4_lay (hm G b M) b (nI r) (16 : Int32) x = some (hm G b (wZ M (upd (M.2 1) (68 + 20 * r + 16) x))) := by
  simp (disch := omega) only [f_X4_lay, m_R1 hb, m_s1 hb, ix7, ix4, ix20, ix4l, ix68, ix4p, ixa0, ixa1, ixa2, ixa3, ixa4, ixa5, ixa6, ixa7, ixa8, ixa9, ixa10, ixa11, ixa12, ixa13, ixa14, ixa15, ixa16, ixa17, ixa18, ixa19, ixa20, nI_add, bd_nI, Option.bind_some, mA_wZ]
theorem m_add16 (hb : b ≤ 134) {r : Nat} (hr : r < 8) : f_X4_add (hm G b M) b (nI r) (16 : Int32) = some (hm G b (wZ M (upd (M.2 1) (68 + 20 * r + 16) (rowZ (M.2 1) r 16 + 1)))) := by
  simp (disch := omega) only [f_X4_add, m_R1 hb, m_a1 hb, m_s1 hb, ix7, ix4, ix20, ix4l, ix68, ix4p, ixa0, ixa1, ixa2, ixa3, ixa4, ixa5, ixa6, ixa7, ixa8, ixa9, ixa10, ixa11, ixa12, ixa13, ixa14, ixa15, ixa16, ixa17, ixa18, ixa19, ixa20, nI_add, bd_nI, Option.bind_some, mA_wZ]
  rfl
theorem m_of17 (hb : b ≤ 134) {r : Nat} (hr : r < 8) : f_X4_of (hm G b M) b (nI r) (17 : Int32) = some (rowZ (M.2 1) r 17) := by
  simp (disch := omega) only [f_X4_of, m_R1 hb, m_a1 hb, ix7, ix4, ix20, ix4l, ix68, ix4p, ixa0, ixa1, ixa2, ixa3, ixa4, ixa5, ixa6, ixa7, ixa8, ixa9, ixa10, ixa11, ixa12, ixa13, ixa14, ixa15, ixa16, ixa17, ixa18, ixa19, ixa20, nI_add, bd_nI, Option.bind_some]
  rfl
theorem m_lay17 (hb : b ≤ 134) {r : Nat} (hr : r < 8) (x : Int32) : f_X4_lay (hm G b M) b (nI r) (17 : Int32) x = some (hm G b (wZ M (upd (M.2 1) (68 + 20 * r + 17) x))) := by
  simp (disch := omega) only [f_X4_lay, m_R1 hb, m_s1 hb, ix7, ix4, ix20, ix4l, ix68, ix4p, ixa0, ixa1, ixa2, ixa3, ixa4, ixa5, ixa6, ixa7, ixa8, ixa9, ixa10, ixa11, ixa12, ixa13, ixa14, ixa15, ixa16, ixa17, ixa18, ixa19, ixa20, nI_add, bd_nI, Option.bind_some, mA_wZ]
theorem m_add17 (hb : b ≤ 134) {r : Nat} (hr : r < 8) : f_X4_add (hm G b M) b (nI r) (17 : Int32) = some (hm G b (wZ M (upd (M.2 1) (68 + 20 * r + 17) (rowZ (M.2 1) r 17 + 1)))) := by
  simp (disch := omega) only [f_X4_add, m_R1 hb, m_a1 hb, m_s1 hb, ix7, ix4, ix20, ix4l, ix68, ix4p, ixa0, ixa1, ixa2, ixa3, ixa4, ixa5, ixa6, ixa7, ixa8, ixa9, ixa10, ixa11, ixa12, ixa13, ixa14, ixa15, ixa16, ixa17, ixa18, ixa19, ixa20, nI_add, bd_nI, Option.bind_some, mA_wZ]
  rfl
theorem m_of18 (hb : b ≤ 134) {r : Nat} (hr : r < 8) : f_X4_of (hm G b M) b (nI r) (18 : Int32) = some (rowZ (M.2 1) r 18) := by
  simp (disch := omega) only [f_X4_of, m_R1 hb, m_a1 hb, ix7, ix4, ix20, ix4l, ix68, ix4p, ixa0, ixa1, ixa2, ixa3, ixa4, ixa5, ixa6, ixa7, ixa8, ixa9, ixa10, ixa11, ixa12, ixa13, ixa14, ixa15, ixa16, ixa17, ixa18, ixa19, ixa20, nI_add, bd_nI, Option.bind_some]
  rfl
theorem m_lay18 (hb : b ≤ 134) {r : Nat} (hr : r < 8) (x : Int32) : f_X4_lay (hm G b M) b (nI r) (18 : Int32) x = some (hm G b (wZ M (upd (M.2 1) (68 + 20 * r + 18) x))) := by
  simp (disch := omega) only [f_X4_lay, m_R1 hb, m_s1 hb, ix7, ix4, ix20, ix4l, ix68, ix4p, ixa0, ixa1, ixa2, ixa3, ixa4, ixa5, ixa6, ixa7, ixa8, ixa9, ixa10, ixa11, ixa12, ixa13, ixa14, ixa15, ixa16, ixa17, ixa18, ixa19, ixa20, nI_add, bd_nI, Option.bind_some, mA_wZ]
theorem m_add18 (hb : b ≤ 134) {r : Nat} (hr : r < 8) : f_X4_add (hm G b M) b (nI r) (18 : Int32) = some (hm G b (wZ M (upd (M.2 1) (68 + 20 * r + 18) (rowZ (M.2 1) r 18 + 1)))) := by
  simp (disch := omega) only [f_X4_add, m_R1 hb, m_a1 hb, m_s1 hb, ix7, ix4, ix20, ix4l, ix68, ix4p, ixa0, ixa1, ixa2, ixa3, ixa4, ixa5, ixa6, ixa7, ixa8, ixa9, ixa10, ixa11, ixa12, ixa13, ixa14, ixa15, ixa16, ixa17, ixa18, ixa19, ixa20, nI_add, bd_nI, Option.bind_some, mA_wZ]
  rfl
theorem m_of19 (hb : b ≤ 134) {r : Nat} (hr : r < 8) : f_X4_of (hm G b M) b (nI r) (19 : Int32) = some (rowZ (M.2 1) r 19) := by
  simp (disch := omega) only [f_X4_of, m_R1 hb, m_a1 hb, ix7, ix4, ix20, ix4l, ix68, ix4p, ixa0, ixa1, ixa2, ixa3, ixa4, ixa5, ixa6, ixa7, ixa8, ixa9, ixa10, ixa11, ixa12, ixa13, ixa14, ixa15, ixa16, ixa17, ixa18, ixa19, ixa20, nI_add, bd_nI, Option.bind_some]
  rfl
theorem m_lay19 (hb : b ≤ 134) {r : Nat} (hr : r < 8) (x : Int32) : f_X4_lay (hm G b M) b (nI r) (19 : Int32) x = some (hm G b (wZ M (upd (M.2 1) (68 + 20 * r + 19) x))) := by
  simp (disch := omega) only [f_X4_lay, m_R1 hb, m_s1 hb, ix7, ix4, ix20, ix4l, ix68, ix4p, ixa0, ixa1, ixa2, ixa3, ixa4, ixa5, ixa6, ixa7, ixa8, ixa9, ixa10, ixa11, ixa12, ixa13, ixa14, ixa15, ixa16, ixa17, ixa18, ixa19, ixa20, nI_add, bd_nI, Option.bind_some, mA_wZ]
theorem m_add19 (hb : b ≤ 134) {r : Nat} (hr : r < 8) : f_X4_add (hm G b M) b (nI r) (19 : Int32) = some (hm G b (wZ M (upd (M.2 1) (68 + 20 * r + 19) (rowZ (M.2 1) r 19 + 1)))) := by
  simp (disch := omega) only [f_X4_add, m_R1 hb, m_a1 hb, m_s1 hb, ix7, ix4, ix20, ix4l, ix68, ix4p, ixa0, ixa1, ixa2, ixa3, ixa4, ixa5, ixa6, ixa7, ixa8, ixa9, ixa10, ixa11, ixa12, ixa13, ixa14, ixa15, ixa16, ixa17, ixa18, ixa19, ixa20, nI_add, bd_nI, Option.bind_some, mA_wZ]
  rfl
