theorem f_wayOf {st : zS} (hs : Sh st) {n : Nat} (hn : zM st 1 1 = nI n) (hc : n ≤ 6) (a : Int32) : f_X2_wayOf st 1 a = some (if a < 0 ∨ nI n ≤ a then none else zR st 2 a.toNatClampNeg) := by
  unfold f_X2_wayOf
  rcases i_neg a with h | ⟨j, hj, rfl⟩
  · simp (disch := omega) only [h, if_true, true_or]
  · by_cases h : j < n <;>
      simp (disch := omega) only [n_lt0, n_le, false_or, if_pos, if_neg, t1 hs, r1_0 hs, t2 hs, l2 hs, hn, List.mem_singleton, Option.bind_some, n_zin, if_true, if_false]
theorem m_isWay {st : zS} (hs : Sh st) {n : Nat} (hn : zM st 40 0 = nI n) (hc : n ≤ 6) (a : Int32) : f_X12_isWay st 39 a = some (if a < 0 ∨ nI n ≤ a then nI 0 else nI 1) := by
  unfold f_X12_isWay
  simp (disch := omega) only [t39 hs, r39_1 hs, t40 hs, l40 hs, hn, List.mem_singleton, Option.bind_some, n_zin, n_nat, if_true, if_pos]
  rcases i_neg a with h | ⟨j, hj, rfl⟩
  · rw [f_in]
    simp (disch := omega) only [m_gt h, true_or, if_true, h, Option.bind_some]
    rw [if_pos (show zB (nI 0) from Or.inl rfl)]
  · rw [f_in]
    by_cases hz : n = 0
    · subst hz
      have h1 : nI 0 - nI 1 < 0 := by decide
      simp (disch := omega) only [m_gt h1, or_true, n_le, if_true, Option.bind_some]
      rw [if_pos (show zB (nI 0) from Or.inl rfl), if_pos (by omega)]
    · rw [pk_sub (show 1 ≤ n by omega)]
      by_cases h : j < n
      · simp (disch := omega) only [n_lt, n_lt0, n_le, if_neg, Option.bind_some, false_or]
        rw [if_pos (show zB (nI 1) from Or.inr rfl)]
      · simp (disch := omega) only [n_lt, n_lt0, n_le, if_pos, Option.bind_some, false_or]
        rw [if_pos (show zB (nI 0) from Or.inl rfl)]
theorem way_cases {st : zS} (h : Inv st) (a : Int32) : (a < 0 ∨ nI (K st 40 0) ≤ a) ∨ ∃ w x, w < K st 40 0 ∧ a = nI w ∧ zR st 2 w = some x ∧ LineR st x w 40 := by
  rcases i_neg a with z | ⟨j, hj, rfl⟩
  · exact Or.inl (Or.inl z)
  · have h6 := h.2.1.1.1.2
    by_cases hw : j < K st 40 0
    · obtain ⟨x, q1, q2⟩ := h.2.1.2.2.2.2.2.2.2.2.2.2.2.2.1 j hw
      exact Or.inr ⟨j, x, hw, rfl, q1, q2⟩
    · exact Or.inl (Or.inr (by rw [n_le (by omega) hj]; omega))
theorem x_wayN {st : zS} (h : Inv st) {a : Int32} (ha : a < 0 ∨ nI (K st 40 0) ≤ a) : f_X2_wayOf st 1 a = some none := by
  rw [f_wayOf h.1 (h.2.1.1.2.trans h.2.1.1.1.1) h.2.1.1.1.2, if_pos ha]
theorem x_wayS {st : zS} (h : Inv st) {w x : Nat} (hw : w < K st 40 0) (hx : zR st 2 w = some x) : f_X2_wayOf st 1 (nI w) = some (some x) := by
  have h6 := h.2.1.1.1.2
  rw [f_wayOf h.1 (h.2.1.1.2.trans h.2.1.1.1.1) h.2.1.1.1.2, if_neg (show ¬ (nI w < 0 ∨ nI (K st 40 0) ≤ nI w) by rw [n_le (by omega) (by omega), n_lt0 (by omega), false_or]; omega), n_nat (by omega), hx]
theorem m_wayN {st : zS} (h : Inv st) {a : Int32} (ha : a < 0 ∨ nI (K st 40 0) ≤ a) : f_X12_isWay st 39 a = some (nI 0) := by
  rw [m_isWay h.1 h.2.1.1.1.1 h.2.1.1.1.2, if_pos ha]
theorem m_wayS {st : zS} (h : Inv st) {w : Nat} (hw : w < K st 40 0) : f_X12_isWay st 39 (nI w) = some (nI 1) := by
  have h6 := h.2.1.1.1.2
  rw [m_isWay h.1 h.2.1.1.1.1 h.2.1.1.1.2, if_neg (show ¬ (nI w < 0 ∨ nI (K st 40 0) ≤ nI w) by rw [n_le (by omega) (by omega), n_lt0 (by omega), false_or]; omega)]
/-! as -/
def underT (t : Nat) (a1 : Int32) : Option Int32 := (if a1 = (nI 0) then (some (nI 1)) else (if a1 = (nI 1) then (if t ∈ zLs then (if zB (if t ∈ [20, 19] then (1 : Int32) else 0) then (some (if t ∈ [20, 19] then (1 : Int32) else 0)) else none) else none) else (if a1 = (nI 2) then (if t ∈ zLs then (if zB (if t ∈ [10, 11] then (1 : Int32) else 0) then (some (if t ∈ [10, 11] then (1 : Int32) else 0)) else none) else none) else (if a1 = (nI 3) then (if t ∈ zLs then (if zB (if t ∈ [13, 17] then (1 : Int32) else 0) then (some (if t ∈ [13, 17] then (1 : Int32) else 0)) else none) else none) else (if a1 = (nI 4) then (if t ∈ zLs then (if zB (if t ∈ [19] then (1 : Int32) else 0) then (some (if t ∈ [19] then (1 : Int32) else 0)) else none) else none) else (if a1 = (nI 5) then (if t ∈ zLs then (if zB (if t ∈ [11] then (1 : Int32) else 0) then (some (if t ∈ [11] then (1 : Int32) else 0)) else none) else none) else (if a1 = (nI 6) then (if t ∈ zLs then (if zB (if t ∈ [17] then (1 : Int32) else 0) then (some (if t ∈ [17] then (1 : Int32) else 0)) else none) else none) else (some (nI 0)))))))))
theorem under_eq : ∀ k, k < 7 → ∀ j, j < 7 → underT (tgK k) (nI j) = f_X12_isUnder (nI k) (nI j) ∧ (f_X12_isUnder (nI k) (nI j) = some (nI 0) ∨ f_X12_isUnder (nI k) (nI j) = some (nI 1)) := by decide +kernel
theorem tgK_ln : ∀ k, k < 7 → tgK k ∈ zLs := by decide +kernel
theorem s_as {st : zS} (h : Inv st) {N : Nat} (hN : 3000 ≤ N) (a1 a2 : Int32) : ∃ (r : Int32) (st1 st2 : zS), (f_X11_as st 0 a1 a2 = some r ∧ st1 = st) ∧ (f_X12_as st1 39 a1 a2 = some r ∧ st2 = st1) ∧ Sh st1 ∧ Inv st2 := by
  have hs := h.1
  unfold f_X11_as f_X12_as
  rcases way_cases h a1 with ha | ⟨w, x, hw, rfl, hx, hL⟩
  · refine ⟨-1, st, st, ⟨?_, rfl⟩, ⟨?_, rfl⟩, hs, h⟩
    · simp only [t0 hs, r0_0 hs, t1 hs, x_wayN h ha, List.mem_singleton, Option.bind_some, if_true, zo]
    · simp (disch := omega) only [t39 hs, m_wayN h ha, List.mem_singleton, Option.bind_some, if_true, n_eq0]
  · obtain ⟨k, v, sl, p1, p2, p3, p4, p5, p6, p7, p8, p9, p10, p11, p12, p13, p14, p15, p16⟩ := hL
    clear p16
    have h6 := h.2.1.1.1.2
    rcases i_neg a2 with z | ⟨j, hj, rfl⟩
    · refine ⟨-1, st, st, ⟨?_, rfl⟩, ⟨?_, rfl⟩, hs, h⟩
      · simp only [t0 hs, r0_0 hs, t1 hs, x_wayS h hw hx, List.mem_singleton, Option.bind_some, if_true, zo, z]
      · simp (disch := omega) only [t39 hs, m_wayS h hw, List.mem_singleton, Option.bind_some, if_true, n_eq0, f_in_neg z, if_neg]
    · by_cases hj6 : j ≤ 6
      · have hu := under_eq k (by omega) j (by omega)
        have hu1 : f_X11_isUnder st x (nI j) = f_X12_isUnder (nI k) (nI j) := by
          rw [← hu.1, ← p5]; rfl
        have hl := tgK_ln k (by omega)
        rcases hu.2 with hu2 | hu2
        · refine ⟨-6, st, st, ⟨?_, rfl⟩, ⟨?_, rfl⟩, hs, h⟩
          · simp (disch := omega) only [t0 hs, r0_0 hs, t1 hs, x_wayS h hw hx, List.mem_singleton, Option.bind_some, if_true, zo, n_lt0, if_false, n_le, if_pos, hu1, hu2, n_eq0]
          · simp (disch := omega) only [t39 hs, r39_1 hs, t40 hs, l40 hs, m_wayS h hw, List.mem_singleton, Option.bind_some, if_true, n_eq0, f_in_nI, if_pos, if_neg, nI_add, n_zin, n_nat, p12, hu2]
        · refine ⟨nI v, st, st, ⟨?_, rfl⟩, ⟨?_, rfl⟩, hs, h⟩
          · simp (disch := omega) only [t0 hs, r0_0 hs, t1 hs, x_wayS h hw hx, List.mem_singleton, Option.bind_some, if_true, zo, n_lt0, if_false, n_le, if_pos, if_neg, hu1, hu2, n_eq0, p5, hl, p10]
          · simp (disch := omega) only [t39 hs, r39_1 hs, t40 hs, l40 hs, m_wayS h hw, List.mem_singleton, Option.bind_some, if_true, n_eq0, f_in_nI, if_pos, if_neg, nI_add, n_zin, n_nat, p12, p13, hu2]
      · refine ⟨-1, st, st, ⟨?_, rfl⟩, ⟨?_, rfl⟩, hs, h⟩
        · simp (disch := omega) only [t0 hs, r0_0 hs, t1 hs, x_wayS h hw hx, List.mem_singleton, Option.bind_some, if_true, zo, n_lt0, if_false, n_le, if_neg]
        · simp (disch := omega) only [t39 hs, m_wayS h hw, List.mem_singleton, Option.bind_some, if_true, n_eq0, f_in_nI, if_neg]
