/-! THE PLAIN SIDE: numbers -/
theorem i_neg (x : Int32) : x < 0 ∨ ∃ j : Nat, j < 2147483648 ∧ x = nI j := by
  by_cases h : x < 0
  · exact Or.inl h
  · obtain ⟨j, h1, h2⟩ := nI_of h
    exact Or.inr ⟨j, h1, h2⟩
theorem n_lt {a b : Nat} (ha : a < 2147483648) (hb : b < 2147483648) : (nI a < nI b) = (a < b) := propext (nI_ltI ha hb)
theorem n_le {a b : Nat} (ha : a < 2147483648) (hb : b < 2147483648) : (nI a ≤ nI b) = (a ≤ b) := propext (nI_leI ha hb)
theorem n_eq {a b : Nat} (ha : a < 2147483648) (hb : b < 2147483648) : (nI a = nI b) = (a = b) := propext (nI_eq ha hb)
theorem n_lt0 {a : Nat} (ha : a < 2147483648) : (nI a < 0) = False := eq_false (nI_pos ha)
theorem n_ge0 {a : Nat} (ha : a < 2147483648) : (0 ≤ nI a) = True := eq_true (nI_pos' ha)
theorem n_eq0 {a : Nat} (ha : a < 2147483648) : (nI a = 0) = (a = 0) := by rw [← nI_0]; exact n_eq ha (by omega)
theorem n_gt0 {a : Nat} (ha : a < 2147483648) : (0 < nI a) = (0 < a) := by rw [← nI_0]; exact n_lt (by omega) ha
theorem n_le0 {a : Nat} (ha : a < 2147483648) : (nI a ≤ 0) = (a = 0) := by rw [← nI_0, n_le ha (by omega)]; exact propext (by omega)
theorem n_nat {a : Nat} (ha : a < 2147483648) : (nI a).toNatClampNeg = a := nI_clamp ha
theorem n_zin {a n : Nat} (ha : a < 2147483648) : zin (nI a) n = (a < n) := by
  unfold zin
  rw [n_nat ha]
  apply propext
  constructor
  · intro h; exact Nat.lt_of_not_le (fun q => h (Or.inr q))
  · intro h q
    rcases q with q | q
    · exact nI_pos ha q
    · omega
theorem m_le {x : Int32} {a : Nat} (h : x < 0) (ha : a < 2147483648) : (nI a ≤ x) = False := eq_false (fun q => by
  have h1 := Int32.lt_iff_toInt_lt.mp h; have h2 := Int32.le_iff_toInt_le.mp q; rw [nI_toInt ha] at h2; simp at h1; omega)
theorem m_lt {x : Int32} {a : Nat} (h : x < 0) (ha : a < 2147483648) : (nI a < x) = False := eq_false (fun q => by
  have h1 := Int32.lt_iff_toInt_lt.mp h; have h2 := Int32.lt_iff_toInt_lt.mp q; rw [nI_toInt ha] at h2; simp at h1; omega)
theorem m_ge {x : Int32} {a : Nat} (h : x < 0) (ha : a < 2147483648) : (x ≤ nI a) = True := eq_true (by
  have h1 := Int32.lt_iff_toInt_lt.mp h; refine Int32.le_iff_toInt_le.mpr ?_; rw [nI_toInt ha]; simp at h1; omega)
theorem m_gt {x : Int32} {a : Nat} (h : x < 0) (ha : a < 2147483648) : (x < nI a) = True := eq_true (by
  have h1 := Int32.lt_iff_toInt_lt.mp h; refine Int32.lt_iff_toInt_lt.mpr ?_; rw [nI_toInt ha]; simp at h1; omega)
theorem m_eq {x : Int32} {a : Nat} (h : x < 0) (ha : a < 2147483648) : (x = nI a) = False := eq_false (fun q => by rw [q] at h; exact nI_pos ha h)
theorem m_eq' {x : Int32} {a : Nat} (h : x < 0) (ha : a < 2147483648) : (nI a = x) = False := eq_false (fun q => by rw [← q] at h; exact nI_pos ha h)
theorem m_0le {x : Int32} (h : x < 0) : (0 ≤ x) = False := by have := m_le (a := 0) h (by omega); rwa [nI_0] at this
theorem m_0lt {x : Int32} (h : x < 0) : (0 < x) = False := by have := m_lt (a := 0) h (by omega); rwa [nI_0] at this
theorem m_le0 {x : Int32} (h : x < 0) : (x ≤ 0) = True := by have := m_ge (a := 0) h (by omega); rwa [nI_0] at this
theorem m_eq0 {x : Int32} (h : x < 0) : (x = 0) = False := by have := m_eq (a := 0) h (by omega); rwa [nI_0] at this
theorem n_m1 {a : Nat} (ha : a < 2147483648) : (nI a = -1) = False := eq_false (fun q => by have := nI_pos ha; rw [q] at this; exact this (by decide))
theorem n_m1' {a : Nat} (ha : a < 2147483648) : ((-1 : Int32) = nI a) = False := eq_false (fun q => by have := nI_pos ha; rw [← q] at this; exact this (by decide))
/-! shapes of the fixed cells -/
def shTL : List (Nat × Nat) := [(21, 0), (12, 0), (3, 6), (16, 0), (1, 100), (15, 0), (1, 100), (15, 0), (1, 40), (15, 0), (1, 5), (15, 0), (1, 6), (15, 0), (1, 8), (15, 0), (1, 8), (15, 0), (1, 8), (12, 0), (3, 6), (16, 0), (1, 100), (15, 0), (1, 100), (15, 0), (1, 40), (15, 0), (1, 5), (15, 0), (1, 6), (15, 0), (1, 8), (15, 0), (1, 8), (15, 0), (1, 8), (18, 0), (1, 20), (22, 0), (1, 948), (1, 948), (1, 6), (2, 64), (1, 5), (1, 40), (1, 20)]
def shRL : List (Nat × Nat × Nat) := [(0, 0, 1), (0, 1, 19), (0, 3, 37), (1, 0, 2), (1, 4, 5), (1, 5, 7), (1, 8, 9), (1, 9, 11), (1, 10, 13), (1, 11, 15), (1, 12, 17), (19, 0, 20), (19, 4, 23), (19, 5, 25), (19, 8, 27), (19, 9, 29), (19, 10, 31), (19, 11, 33), (19, 12, 35), (3, 3, 4), (21, 3, 22), (5, 0, 6), (7, 0, 8), (9, 0, 10), (11, 0, 12), (13, 0, 14), (15, 0, 16), (17, 0, 18), (23, 0, 24), (25, 0, 26), (27, 0, 28), (29, 0, 30), (31, 0, 32), (33, 0, 34), (35, 0, 36), (37, 0, 38), (39, 1, 40), (39, 2, 41), (39, 9, 42), (39, 10, 43), (39, 11, 44), (39, 17, 45), (39, 19, 46)]
def Sh (st : zS) : Prop := 47 ≤ st.1 ∧ (∀ k, k < 47 → st.2.1 k = shTL.getD k (0, 0)) ∧ (∀ q ∈ shRL, zR st q.1 q.2.1 = some q.2.2) ∧ ∀ k, k = 2 ∨ k = 20 → ∀ j, j < 6 → ∀ a, zR st k j = some a → a < st.1 ∧ zTg st a ∈ zLs
theorem Sh.t {st : zS} (h : Sh st) (k : Nat) (hk : k < 47) : zTg st k = (shTL.getD k (0, 0)).1 := by unfold zTg; rw [h.2.1 k hk]
theorem Sh.l {st : zS} (h : Sh st) (k : Nat) (hk : k < 47) : zLn st k = (shTL.getD k (0, 0)).2 := by unfold zLn; rw [h.2.1 k hk]
theorem t0 {st : zS} (h : Sh st) : zTg st 0 = 21 := h.t 0 (by decide)
theorem t1 {st : zS} (h : Sh st) : zTg st 1 = 12 := h.t 1 (by decide)
theorem t2 {st : zS} (h : Sh st) : zTg st 2 = 3 := h.t 2 (by decide)
theorem l2 {st : zS} (h : Sh st) : zLn st 2 = 6 := h.l 2 (by decide)
theorem t3 {st : zS} (h : Sh st) : zTg st 3 = 16 := h.t 3 (by decide)
theorem t4 {st : zS} (h : Sh st) : zTg st 4 = 1 := h.t 4 (by decide)
theorem l4 {st : zS} (h : Sh st) : zLn st 4 = 100 := h.l 4 (by decide)
theorem t5 {st : zS} (h : Sh st) : zTg st 5 = 15 := h.t 5 (by decide)
theorem t6 {st : zS} (h : Sh st) : zTg st 6 = 1 := h.t 6 (by decide)
theorem l6 {st : zS} (h : Sh st) : zLn st 6 = 100 := h.l 6 (by decide)
theorem t7 {st : zS} (h : Sh st) : zTg st 7 = 15 := h.t 7 (by decide)
theorem t8 {st : zS} (h : Sh st) : zTg st 8 = 1 := h.t 8 (by decide)
theorem l8 {st : zS} (h : Sh st) : zLn st 8 = 40 := h.l 8 (by decide)
theorem t9 {st : zS} (h : Sh st) : zTg st 9 = 15 := h.t 9 (by decide)
theorem t10 {st : zS} (h : Sh st) : zTg st 10 = 1 := h.t 10 (by decide)
theorem l10 {st : zS} (h : Sh st) : zLn st 10 = 5 := h.l 10 (by decide)
theorem t11 {st : zS} (h : Sh st) : zTg st 11 = 15 := h.t 11 (by decide)
theorem t12 {st : zS} (h : Sh st) : zTg st 12 = 1 := h.t 12 (by decide)
theorem l12 {st : zS} (h : Sh st) : zLn st 12 = 6 := h.l 12 (by decide)
theorem t13 {st : zS} (h : Sh st) : zTg st 13 = 15 := h.t 13 (by decide)
theorem t14 {st : zS} (h : Sh st) : zTg st 14 = 1 := h.t 14 (by decide)
theorem l14 {st : zS} (h : Sh st) : zLn st 14 = 8 := h.l 14 (by decide)
theorem t15 {st : zS} (h : Sh st) : zTg st 15 = 15 := h.t 15 (by decide)
theorem t16 {st : zS} (h : Sh st) : zTg st 16 = 1 := h.t 16 (by decide)
theorem l16 {st : zS} (h : Sh st) : zLn st 16 = 8 := h.l 16 (by decide)
theorem t17 {st : zS} (h : Sh st) : zTg st 17 = 15 := h.t 17 (by decide)
theorem t18 {st : zS} (h : Sh st) : zTg st 18 = 1 := h.t 18 (by decide)
theorem l18 {st : zS} (h : Sh st) : zLn st 18 = 8 := h.l 18 (by decide)
theorem t19 {st : zS} (h : Sh st) : zTg st 19 = 12 := h.t 19 (by decide)
theorem t20 {st : zS} (h : Sh st) : zTg st 20 = 3 := h.t 20 (by decide)
theorem l20 {st : zS} (h : Sh st) : zLn st 20 = 6 := h.l 20 (by decide)
theorem t21 {st : zS} (h : Sh st) : zTg st 21 = 16 := h.t 21 (by decide)
theorem t22 {st : zS} (h : Sh st) : zTg st 22 = 1 := h.t 22 (by decide)
theorem l22 {st : zS} (h : Sh st) : zLn st 22 = 100 := h.l 22 (by decide)
theorem t23 {st : zS} (h : Sh st) : zTg st 23 = 15 := h.t 23 (by decide)
theorem t24 {st : zS} (h : Sh st) : zTg st 24 = 1 := h.t 24 (by decide)
theorem l24 {st : zS} (h : Sh st) : zLn st 24 = 100 := h.l 24 (by decide)
theorem t25 {st : zS} (h : Sh st) : zTg st 25 = 15 := h.t 25 (by decide)
theorem t26 {st : zS} (h : Sh st) : zTg st 26 = 1 := h.t 26 (by decide)
theorem l26 {st : zS} (h : Sh st) : zLn st 26 = 40 := h.l 26 (by decide)
theorem t27 {st : zS} (h : Sh st) : zTg st 27 = 15 := h.t 27 (by decide)
theorem t28 {st : zS} (h : Sh st) : zTg st 28 = 1 := h.t 28 (by decide)
theorem l28 {st : zS} (h : Sh st) : zLn st 28 = 5 := h.l 28 (by decide)
theorem t29 {st : zS} (h : Sh st) : zTg st 29 = 15 := h.t 29 (by decide)
theorem t30 {st : zS} (h : Sh st) : zTg st 30 = 1 := h.t 30 (by decide)
theorem l30 {st : zS} (h : Sh st) : zLn st 30 = 6 := h.l 30 (by decide)
theorem t31 {st : zS} (h : Sh st) : zTg st 31 = 15 := h.t 31 (by decide)
theorem t32 {st : zS} (h : Sh st) : zTg st 32 = 1 := h.t 32 (by decide)
theorem l32 {st : zS} (h : Sh st) : zLn st 32 = 8 := h.l 32 (by decide)
theorem t33 {st : zS} (h : Sh st) : zTg st 33 = 15 := h.t 33 (by decide)
theorem t34 {st : zS} (h : Sh st) : zTg st 34 = 1 := h.t 34 (by decide)
theorem l34 {st : zS} (h : Sh st) : zLn st 34 = 8 := h.l 34 (by decide)
theorem t35 {st : zS} (h : Sh st) : zTg st 35 = 15 := h.t 35 (by decide)
theorem t36 {st : zS} (h : Sh st) : zTg st 36 = 1 := h.t 36 (by decide)
theorem l36 {st : zS} (h : Sh st) : zLn st 36 = 8 := h.l 36 (by decide)
theorem t37 {st : zS} (h : Sh st) : zTg st 37 = 18 := h.t 37 (by decide)
theorem t38 {st : zS} (h : Sh st) : zTg st 38 = 1 := h.t 38 (by decide)
theorem l38 {st : zS} (h : Sh st) : zLn st 38 = 20 := h.l 38 (by decide)
theorem t39 {st : zS} (h : Sh st) : zTg st 39 = 22 := h.t 39 (by decide)
theorem t40 {st : zS} (h : Sh st) : zTg st 40 = 1 := h.t 40 (by decide)
theorem l40 {st : zS} (h : Sh st) : zLn st 40 = 948 := h.l 40 (by decide)
theorem t41 {st : zS} (h : Sh st) : zTg st 41 = 1 := h.t 41 (by decide)
theorem l41 {st : zS} (h : Sh st) : zLn st 41 = 948 := h.l 41 (by decide)
theorem t42 {st : zS} (h : Sh st) : zTg st 42 = 1 := h.t 42 (by decide)
theorem l42 {st : zS} (h : Sh st) : zLn st 42 = 6 := h.l 42 (by decide)
theorem t43 {st : zS} (h : Sh st) : zTg st 43 = 2 := h.t 43 (by decide)
theorem l43 {st : zS} (h : Sh st) : zLn st 43 = 64 := h.l 43 (by decide)
theorem t44 {st : zS} (h : Sh st) : zTg st 44 = 1 := h.t 44 (by decide)
theorem l44 {st : zS} (h : Sh st) : zLn st 44 = 5 := h.l 44 (by decide)
theorem t45 {st : zS} (h : Sh st) : zTg st 45 = 1 := h.t 45 (by decide)
theorem l45 {st : zS} (h : Sh st) : zLn st 45 = 40 := h.l 45 (by decide)
theorem t46 {st : zS} (h : Sh st) : zTg st 46 = 1 := h.t 46 (by decide)
theorem l46 {st : zS} (h : Sh st) : zLn st 46 = 20 := h.l 46 (by decide)
theorem r0_0 {st : zS} (h : Sh st) : zR st 0 0 = some 1 := h.2.2.1 _ (List.mem_of_getElem? (i := 0) rfl)
theorem r0_1 {st : zS} (h : Sh st) : zR st 0 1 = some 19 := h.2.2.1 _ (List.mem_of_getElem? (i := 1) rfl)
theorem r0_3 {st : zS} (h : Sh st) : zR st 0 3 = some 37 := h.2.2.1 _ (List.mem_of_getElem? (i := 2) rfl)
theorem r1_0 {st : zS} (h : Sh st) : zR st 1 0 = some 2 := h.2.2.1 _ (List.mem_of_getElem? (i := 3) rfl)
theorem r1_4 {st : zS} (h : Sh st) : zR st 1 4 = some 5 := h.2.2.1 _ (List.mem_of_getElem? (i := 4) rfl)
theorem r1_5 {st : zS} (h : Sh st) : zR st 1 5 = some 7 := h.2.2.1 _ (List.mem_of_getElem? (i := 5) rfl)
theorem r1_8 {st : zS} (h : Sh st) : zR st 1 8 = some 9 := h.2.2.1 _ (List.mem_of_getElem? (i := 6) rfl)
theorem r1_9 {st : zS} (h : Sh st) : zR st 1 9 = some 11 := h.2.2.1 _ (List.mem_of_getElem? (i := 7) rfl)
theorem r1_10 {st : zS} (h : Sh st) : zR st 1 10 = some 13 := h.2.2.1 _ (List.mem_of_getElem? (i := 8) rfl)
theorem r1_11 {st : zS} (h : Sh st) : zR st 1 11 = some 15 := h.2.2.1 _ (List.mem_of_getElem? (i := 9) rfl)
theorem r1_12 {st : zS} (h : Sh st) : zR st 1 12 = some 17 := h.2.2.1 _ (List.mem_of_getElem? (i := 10) rfl)
theorem r19_0 {st : zS} (h : Sh st) : zR st 19 0 = some 20 := h.2.2.1 _ (List.mem_of_getElem? (i := 11) rfl)
theorem r19_4 {st : zS} (h : Sh st) : zR st 19 4 = some 23 := h.2.2.1 _ (List.mem_of_getElem? (i := 12) rfl)
theorem r19_5 {st : zS} (h : Sh st) : zR st 19 5 = some 25 := h.2.2.1 _ (List.mem_of_getElem? (i := 13) rfl)
theorem r19_8 {st : zS} (h : Sh st) : zR st 19 8 = some 27 := h.2.2.1 _ (List.mem_of_getElem? (i := 14) rfl)
theorem r19_9 {st : zS} (h : Sh st) : zR st 19 9 = some 29 := h.2.2.1 _ (List.mem_of_getElem? (i := 15) rfl)
theorem r19_10 {st : zS} (h : Sh st) : zR st 19 10 = some 31 := h.2.2.1 _ (List.mem_of_getElem? (i := 16) rfl)
theorem r19_11 {st : zS} (h : Sh st) : zR st 19 11 = some 33 := h.2.2.1 _ (List.mem_of_getElem? (i := 17) rfl)
theorem r19_12 {st : zS} (h : Sh st) : zR st 19 12 = some 35 := h.2.2.1 _ (List.mem_of_getElem? (i := 18) rfl)
theorem r3_3 {st : zS} (h : Sh st) : zR st 3 3 = some 4 := h.2.2.1 _ (List.mem_of_getElem? (i := 19) rfl)
theorem r21_3 {st : zS} (h : Sh st) : zR st 21 3 = some 22 := h.2.2.1 _ (List.mem_of_getElem? (i := 20) rfl)
theorem r5_0 {st : zS} (h : Sh st) : zR st 5 0 = some 6 := h.2.2.1 _ (List.mem_of_getElem? (i := 21) rfl)
theorem r7_0 {st : zS} (h : Sh st) : zR st 7 0 = some 8 := h.2.2.1 _ (List.mem_of_getElem? (i := 22) rfl)
theorem r9_0 {st : zS} (h : Sh st) : zR st 9 0 = some 10 := h.2.2.1 _ (List.mem_of_getElem? (i := 23) rfl)
theorem r11_0 {st : zS} (h : Sh st) : zR st 11 0 = some 12 := h.2.2.1 _ (List.mem_of_getElem? (i := 24) rfl)
theorem r13_0 {st : zS} (h : Sh st) : zR st 13 0 = some 14 := h.2.2.1 _ (List.mem_of_getElem? (i := 25) rfl)
theorem r15_0 {st : zS} (h : Sh st) : zR st 15 0 = some 16 := h.2.2.1 _ (List.mem_of_getElem? (i := 26) rfl)
theorem r17_0 {st : zS} (h : Sh st) : zR st 17 0 = some 18 := h.2.2.1 _ (List.mem_of_getElem? (i := 27) rfl)
theorem r23_0 {st : zS} (h : Sh st) : zR st 23 0 = some 24 := h.2.2.1 _ (List.mem_of_getElem? (i := 28) rfl)
theorem r25_0 {st : zS} (h : Sh st) : zR st 25 0 = some 26 := h.2.2.1 _ (List.mem_of_getElem? (i := 29) rfl)
theorem r27_0 {st : zS} (h : Sh st) : zR st 27 0 = some 28 := h.2.2.1 _ (List.mem_of_getElem? (i := 30) rfl)
theorem r29_0 {st : zS} (h : Sh st) : zR st 29 0 = some 30 := h.2.2.1 _ (List.mem_of_getElem? (i := 31) rfl)
theorem r31_0 {st : zS} (h : Sh st) : zR st 31 0 = some 32 := h.2.2.1 _ (List.mem_of_getElem? (i := 32) rfl)
theorem r33_0 {st : zS} (h : Sh st) : zR st 33 0 = some 34 := h.2.2.1 _ (List.mem_of_getElem? (i := 33) rfl)
theorem r35_0 {st : zS} (h : Sh st) : zR st 35 0 = some 36 := h.2.2.1 _ (List.mem_of_getElem? (i := 34) rfl)
theorem r37_0 {st : zS} (h : Sh st) : zR st 37 0 = some 38 := h.2.2.1 _ (List.mem_of_getElem? (i := 35) rfl)
theorem r39_1 {st : zS} (h : Sh st) : zR st 39 1 = some 40 := h.2.2.1 _ (List.mem_of_getElem? (i := 36) rfl)
theorem r39_2 {st : zS} (h : Sh st) : zR st 39 2 = some 41 := h.2.2.1 _ (List.mem_of_getElem? (i := 37) rfl)
theorem r39_9 {st : zS} (h : Sh st) : zR st 39 9 = some 42 := h.2.2.1 _ (List.mem_of_getElem? (i := 38) rfl)
theorem r39_10 {st : zS} (h : Sh st) : zR st 39 10 = some 43 := h.2.2.1 _ (List.mem_of_getElem? (i := 39) rfl)
theorem r39_11 {st : zS} (h : Sh st) : zR st 39 11 = some 44 := h.2.2.1 _ (List.mem_of_getElem? (i := 40) rfl)
theorem r39_17 {st : zS} (h : Sh st) : zR st 39 17 = some 45 := h.2.2.1 _ (List.mem_of_getElem? (i := 41) rfl)
theorem r39_19 {st : zS} (h : Sh st) : zR st 39 19 = some 46 := h.2.2.1 _ (List.mem_of_getElem? (i := 42) rfl)
/-- a method's own state keeps its shape while ints alone are written -/
theorem Sh.pm {st : zS} (h : Sh st) (k j : Nat) (x : Int32) : Sh (zPM st k j x) := ⟨h.1, h.2.1, h.2.2⟩
theorem f_in (a b c : Int32) : f_X12_in a b c = some (if a < b ∨ c < a then nI 0 else nI 1) := by
  unfold f_X12_in
  by_cases h1 : a < b
  · simp [h1]
  · by_cases h2 : c < a <;> simp [h1, h2]
theorem f_in_neg {a : Int32} (h : a < 0) (b c : Nat) (hb : b < 2147483648) : f_X12_in a (nI b) (nI c) = some (nI 0) := by
  rw [f_in]; simp [m_gt h hb]
theorem f_in_nI {a b c : Nat} (ha : a < 2147483648) (hb : b < 2147483648) (hc : c < 2147483648) : f_X12_in (nI a) (nI b) (nI c) = some (if b ≤ a ∧ a ≤ c then nI 1 else nI 0) := by
  rw [f_in]
  simp only [n_lt ha hb, n_lt hc ha]
  congr 1
  by_cases h : b ≤ a ∧ a ≤ c
  · rw [if_pos h, if_neg (by omega)]
  · rw [if_neg h, if_pos (by omega)]
/-- a Numbers at o, its items at o + 1 -/
def NumS (st : zS) (o cap : Nat) : Prop := zTg st o = 15 ∧ zR st o 0 = some (o + 1) ∧ zTg st (o + 1) = 1 ∧ zLn st (o + 1) = cap
theorem f_get {st : zS} {o cap n : Nat} (hs : NumS st o cap) (hn : zM st o 1 = nI n) (hc : n ≤ cap) (hcap : cap ≤ 100) {i : Nat} (hi : i < 2147483648) : f_X5_get st o (nI i) = some (if i < n then zM st (o + 1) i else -1) := by
  obtain ⟨h1, h2, h3, h4⟩ := hs
  unfold f_X5_get
  simp (disch := omega) only [h1, h2, h3, h4, hn, n_lt0, n_le, n_zin, n_nat, List.mem_singleton, if_true, if_false, Option.bind_some]
  by_cases h : i < n
  · rw [if_neg (by omega), if_neg (by omega), if_pos (by omega), if_pos h]
  · rw [if_pos (by omega), if_neg h]
theorem f_getN {st : zS} {o : Nat} {i : Int32} (hi : i < 0) : f_X5_get st o i = some (-1) := by
  unfold f_X5_get
  rw [if_pos hi]
theorem f_add {st : zS} {o cap n : Nat} (hs : NumS st o cap) (hn : zM st o 1 = nI n) (hc : n ≤ cap) (hcap : cap ≤ 100) (x : Int32) : f_X5_add st o x = some (if n < cap then (zPM (zPM st (o + 1) n x) o 1 (nI (n + 1)), nI 1) else (st, nI 0)) := by
  obtain ⟨h1, h2, h3, h4⟩ := hs
  unfold f_X5_add
  simp (disch := omega) only [h1, h2, h3, h4, hn, n_lt0, n_lt, n_zin, n_nat, List.mem_singleton, if_true, if_false, Option.bind_some, zM_PM]
  by_cases h : n < cap
  · rw [if_pos h, if_pos h, if_pos h, if_neg (by omega), nI_add]
  · rw [if_neg h, if_neg h]
theorem f_size {st : zS} {o cap : Nat} (hs : NumS st o cap) : f_X5_size st o = some (zM st o 1) := by
  unfold f_X5_size; rw [hs.1]; rfl
theorem f_clear {st : zS} {o cap : Nat} (hs : NumS st o cap) : f_X5_clear st o = some (zPM st o 1 (nI 0)) := by
  unfold f_X5_clear; rw [hs.1]; rfl
theorem ns5 {st : zS} (h : Sh st) : NumS st 5 100 := ⟨t5 h, r5_0 h, t6 h, l6 h⟩
theorem ns7 {st : zS} (h : Sh st) : NumS st 7 40 := ⟨t7 h, r7_0 h, t8 h, l8 h⟩
theorem ns9 {st : zS} (h : Sh st) : NumS st 9 5 := ⟨t9 h, r9_0 h, t10 h, l10 h⟩
theorem ns11 {st : zS} (h : Sh st) : NumS st 11 6 := ⟨t11 h, r11_0 h, t12 h, l12 h⟩
theorem ns13 {st : zS} (h : Sh st) : NumS st 13 8 := ⟨t13 h, r13_0 h, t14 h, l14 h⟩
theorem ns15 {st : zS} (h : Sh st) : NumS st 15 8 := ⟨t15 h, r15_0 h, t16 h, l16 h⟩
theorem ns17 {st : zS} (h : Sh st) : NumS st 17 8 := ⟨t17 h, r17_0 h, t18 h, l18 h⟩
/-! feed, on both sides -/
theorem x_feed {st : zS} (hs : Sh st) {n : Nat} (hn : zM st 5 1 = nI n) (hc : n ≤ 100) (a : Int32) : f_X11_feed st 0 a = some (if a < 0 ∨ nI 127 < a then (st, -2) else if n < 100 then (zPM (zPM st 6 n a) 5 1 (nI (n + 1)), nI (n + 1)) else (st, -4)) := by
  rcases i_neg a with h | ⟨j, hj, rfl⟩
  · unfold f_X11_feed
    simp [h]
  · unfold f_X11_feed
    have hs2 : Sh (zPM (zPM st (5 + 1) n (nI j)) 5 1 (nI (n + 1))) := (hs.pm _ _ _).pm _ _ _
    by_cases h : j ≤ 127 <;> by_cases h2 : n < 100 <;>
      simp (disch := omega) only [n_lt0, n_le, n_lt, false_or, if_pos, if_neg, t0 hs, r0_0 hs, t1 hs, r1_4 hs, t5 hs, f_add (ns5 hs) hn hc, zb, Option.bind_some, List.mem_singleton, n_eq0, t0 hs2, r0_0 hs2, t1 hs2, r1_4 hs2, t5 hs2, f_size (ns5 hs2), zM_PM, if_true, if_false, and_self, Nat.reduceAdd]
theorem m_feed {st : zS} (hs : Sh st) {n : Nat} (hn : zM st 40 6 = nI n) (hc : n ≤ 100) (a : Int32) : f_X12_feed st 39 a = some (if a < 0 ∨ nI 127 < a then (st, -2) else if n < 100 then (zPM (zPM st 40 (128 + n) a) 40 6 (nI (n + 1)), nI (n + 1)) else (st, -4)) := by
  unfold f_X12_feed
  rcases i_neg a with h | ⟨j, hj, rfl⟩
  · simp (disch := omega) only [f_in_neg h, Option.bind_some, n_eq0, h, true_or, if_true]
  · by_cases h : j ≤ 127 <;> by_cases h2 : n < 100 <;>
      simp (disch := omega) only [f_in_nI, n_lt0, n_le, n_lt, n_eq, false_or, if_pos, if_neg, t39 hs, r39_1 hs, t40 hs, l40 hs, hn, Option.bind_some, List.mem_singleton, n_eq0, n_nat, n_zin, nI_add, zM_PM, zLn_PM, zTg_PM, zR_PM, if_true, and_self]
