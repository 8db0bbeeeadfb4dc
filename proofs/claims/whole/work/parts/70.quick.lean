/-! seconds and pence of all ways; quick, rests -/
theorem tenT_eq41 : ∀ n, n < 42 → (nI 10 * ((nI n / nI 10 * (nI n / nI 10 - nI 1)) / nI 2)) + ((nI n - nI n / nI 10 * nI 10) * (nI n / nI 10)) = nI (tenT n) ∧ tenT n ≤ 64 := by decide +kernel
theorem m_byHand41 {st : zS} (hs : Sh st) {w v sl n : Nat} (hw : w < 6) (p13 : zM st 40 (17 + w) = nI v) (p14 : zM st 40 (23 + w) = nI sl) (hn : n ≤ 41) (N : Nat) : ∀ k fuel i, i + k = n → k < fuel → f_X12_byHand_5 N st 39 (nI w) (nI n) fuel (nI (i * sl + tenT i * v)) (nI i) = some (nI (n * sl + tenT n * v)) := by
  intro k
  induction k with
  | zero =>
    intro fuel i h1 h2
    obtain ⟨fuel, rfl⟩ : ∃ m, fuel = m + 1 := ⟨fuel - 1, by omega⟩
    have hi : i = n := by omega
    subst hi
    unfold f_X12_byHand_5
    simp (disch := omega) only [↓reduceIte, List.mem_singleton, Option.bind_some, if_true, if_false, zM_PM, zLn_PM, zTg_PM, zR_PM, ↓zb, ↓zo, ↓zl, n_lt0, n_le, n_lt, n_eq, n_eq0, n_gt0, n_le0, n_ge0, n_zin, n_nat, nI_add, and_self, true_or, false_or, or_false, if_pos, if_neg, f_in_nI, Nat.reduceAdd]
  | succ k ih =>
    intro fuel i h1 h2
    obtain ⟨fuel, rfl⟩ : ∃ m, fuel = m + 1 := ⟨fuel - 1, by omega⟩
    have e2 := ih fuel (i + 1) (by omega) (by omega)
    clear ih
    have e3 : (i + 1) * sl + tenT (i + 1) * v = i * sl + tenT i * v + (sl + i / 10 * v) := by
      show (i + 1) * sl + (tenT i + i / 10) * v = _
      rw [Nat.add_mul, Nat.add_mul]; omega
    rw [e3] at e2
    unfold f_X12_byHand_5
    simp (disch := omega) only [p13, p14, pk_div, pk_mul, ↓reduceIte, List.mem_singleton, Option.bind_some, if_true, if_false, zM_PM, zLn_PM, zTg_PM, zR_PM, ↓zb, ↓zo, ↓zl, n_lt0, n_le, n_lt, n_eq, n_eq0, n_gt0, n_le0, n_ge0, n_zin, n_nat, nI_add, and_self, true_or, false_or, or_false, if_pos, if_neg, f_in_nI, Nat.reduceAdd, t39 hs, ↓bs (r39_1 hs), t40 hs, l40 hs]
    exact e2
theorem sec_41 {sa sb : zS} (hsa : Sh sa) (hsb : Sh sb) {N : Nat} (hN : 3000 ≤ N) {w x : Nat} (h6 : w < 6) (hX : f_X2_wayOf sa 1 (nI w) = some (some x)) (hL : LineR sa x w 40) (hB : ∀ j, 11 ≤ j → j < 53 → zM sb 40 j = zM sa 40 j) {n : Nat} (hn1 : 1 ≤ n) (hn : n ≤ 41) : ∃ s, s ≤ 4000 ∧ f_X2_secondsOf sa 1 (nI w) (nI n) = some (nI s) ∧ f_X12_secondsOf N sb 39 (nI w) (nI n) = some (nI s) := by
  obtain ⟨k, v, sl, p1, p2, p3, p4, p5, p6, p7, p8, p9, p10, p11, p12, p13, p14, p15, p16⟩ := hL
  have m12 := (hB (11 + w) (by clear p16; omega) (by clear p16; omega)).trans p12
  have m13 := (hB (17 + w) (by clear p16; omega) (by clear p16; omega)).trans p13
  have m14 := (hB (23 + w) (by clear p16; omega) (by clear p16; omega)).trans p14
  have hk : k = 0 ∨ k = 1 ∨ k = 2 ∨ k = 3 ∨ k = 4 ∨ k = 5 ∨ k = 6 := by clear p16; omega
  rcases hk with rfl | rfl | rfl | rfl | rfl | rfl | rfl
  · clear p16
    replace p5 : zTg sa x = 14 := p5
    have hl : 14 ∈ zLs := by decide
    obtain ⟨t1e, t2e⟩ := tenT_eq41 n (by omega)
    have b1 : n * sl ≤ 41 * 60 := Nat.mul_le_mul hn p4
    have b2 : tenT n * v ≤ 64 * 9 := Nat.mul_le_mul t2e p2
    refine ⟨n * sl + tenT n * v, by omega, ?_, ?_⟩
    · unfold f_X2_secondsOf fv_Line_seconds f_X4_seconds
      simp (disch := omega) only [↓zl, t1e, ↓bs (hX), p5, hl, p10, p11, pk_mul, ↓reduceIte, List.mem_singleton, Option.bind_some, if_true, if_false, zM_PM, zLn_PM, zTg_PM, zR_PM, ↓zb, ↓zo, ↓zl, n_lt0, n_le, n_lt, n_eq, n_eq0, n_gt0, n_le0, n_ge0, n_zin, n_nat, nI_add, and_self, true_or, false_or, or_false, if_pos, if_neg, f_in_nI, Nat.reduceAdd, t1 hsa]
    · unfold f_X12_secondsOf f_X12_byHand
      have e := m_byHand41 hsb (w := w) (by omega) m13 m14 hn N n N 0 (by omega) (by omega)
      rw [show 0 * sl + tenT 0 * v = 0 by simp [tenT]] at e
      simp (disch := omega) only [m12, ↓bs e, ↓reduceIte, List.mem_singleton, Option.bind_some, if_true, if_false, zM_PM, zLn_PM, zTg_PM, zR_PM, ↓zb, ↓zo, ↓zl, n_lt0, n_le, n_lt, n_eq, n_eq0, n_gt0, n_le0, n_ge0, n_zin, n_nat, nI_add, and_self, true_or, false_or, or_false, if_pos, if_neg, f_in_nI, Nat.reduceAdd, t39 hsb, ↓bs (r39_1 hsb), t40 hsb, l40 hsb]
  · clear p16
    replace p5 : zTg sa x = 20 := p5
    have b1 : n / 2 * (sl + v) ≤ 20 * 69 := Nat.mul_le_mul (by omega) (by omega)
    have b2 : (n - n / 2 * 2) * sl ≤ 1 * 60 := Nat.mul_le_mul (by omega) p4
    refine ⟨n / 2 * (sl + v) + (n - n / 2 * 2) * sl, by omega, ?_, ?_⟩
    · unfold f_X2_secondsOf fv_Line_seconds f_X10_seconds
      simp (disch := omega) only [↓bs (hX), p5, p10, p11, pk_mul, pk_div, pk_sub, List.mem_cons, List.not_mem_nil, ↓reduceIte, List.mem_singleton, Option.bind_some, if_true, if_false, zM_PM, zLn_PM, zTg_PM, zR_PM, ↓zb, ↓zo, ↓zl, n_lt0, n_le, n_lt, n_eq, n_eq0, n_gt0, n_le0, n_ge0, n_zin, n_nat, nI_add, and_self, true_or, false_or, or_false, if_pos, if_neg, f_in_nI, Nat.reduceAdd, t1 hsa]
    · unfold f_X12_secondsOf f_X12_twins
      simp (disch := omega) only [m12, m13, m14, pk_mul, pk_div, pk_sub, ↓reduceIte, List.mem_singleton, Option.bind_some, if_true, if_false, zM_PM, zLn_PM, zTg_PM, zR_PM, ↓zb, ↓zo, ↓zl, n_lt0, n_le, n_lt, n_eq, n_eq0, n_gt0, n_le0, n_ge0, n_zin, n_nat, nI_add, and_self, true_or, false_or, or_false, if_pos, if_neg, f_in_nI, Nat.reduceAdd, t39 hsb, ↓bs (r39_1 hsb), t40 hsb, l40 hsb]
  · clear p16
    replace p5 : zTg sa x = 10 := p5
    have b1 : n * (sl / 2) ≤ 41 * 30 := Nat.mul_le_mul (by omega) (by omega)
    refine ⟨n * (sl / 2) + v, by omega, ?_, ?_⟩
    · unfold f_X2_secondsOf fv_Line_seconds f_X0_seconds
      simp (disch := omega) only [↓bs (hX), p5, p10, p11, pk_mul, pk_div, pk_sub, List.mem_cons, List.not_mem_nil, ↓reduceIte, List.mem_singleton, Option.bind_some, if_true, if_false, zM_PM, zLn_PM, zTg_PM, zR_PM, ↓zb, ↓zo, ↓zl, n_lt0, n_le, n_lt, n_eq, n_eq0, n_gt0, n_le0, n_ge0, n_zin, n_nat, nI_add, and_self, true_or, false_or, or_false, if_pos, if_neg, f_in_nI, Nat.reduceAdd, t1 hsa]
    · unfold f_X12_secondsOf f_X12_columns
      simp (disch := omega) only [m12, m13, m14, pk_mul, pk_div, pk_sub, ↓reduceIte, List.mem_singleton, Option.bind_some, if_true, if_false, zM_PM, zLn_PM, zTg_PM, zR_PM, ↓zb, ↓zo, ↓zl, n_lt0, n_le, n_lt, n_eq, n_eq0, n_gt0, n_le0, n_ge0, n_zin, n_nat, nI_add, and_self, true_or, false_or, or_false, if_pos, if_neg, f_in_nI, Nat.reduceAdd, t39 hsb, ↓bs (r39_1 hsb), t40 hsb, l40 hsb]
  · clear p16
    replace p5 : zTg sa x = 13 := p5
    refine ⟨0, by omega, ?_, ?_⟩
    · unfold f_X2_secondsOf fv_Line_seconds f_X3_seconds
      simp (disch := omega) only [↓bs (hX), p5, ↓reduceIte, List.mem_singleton, Option.bind_some, if_true, if_false, zM_PM, zLn_PM, zTg_PM, zR_PM, ↓zb, ↓zo, ↓zl, n_lt0, n_le, n_lt, n_eq, n_eq0, n_gt0, n_le0, n_ge0, n_zin, n_nat, nI_add, and_self, true_or, false_or, or_false, if_pos, if_neg, f_in_nI, Nat.reduceAdd, t1 hsa]
    · unfold f_X12_secondsOf
      simp (disch := omega) only [m12, ↓reduceIte, List.mem_singleton, Option.bind_some, if_true, if_false, zM_PM, zLn_PM, zTg_PM, zR_PM, ↓zb, ↓zo, ↓zl, n_lt0, n_le, n_lt, n_eq, n_eq0, n_gt0, n_le0, n_ge0, n_zin, n_nat, nI_add, and_self, true_or, false_or, or_false, if_pos, if_neg, f_in_nI, Nat.reduceAdd, t39 hsb, ↓bs (r39_1 hsb), t40 hsb, l40 hsb]
  · clear p16
    replace p5 : zTg sa x = 19 := p5
    have hl : 19 ∈ zLs := by decide
    have b1 : n / 3 * (sl + 2 * v) ≤ 13 * 78 := Nat.mul_le_mul (by omega) (by omega)
    have b2 : (n - n / 3 * 3) / 2 * (sl + v) ≤ 1 * 69 := Nat.mul_le_mul (by omega) (by omega)
    have b3 : ((n - n / 3 * 3) - (n - n / 3 * 3) / 2 * 2) * sl ≤ 1 * 60 := Nat.mul_le_mul (by omega) p4
    refine ⟨n / 3 * (sl + 2 * v) + ((n - n / 3 * 3) / 2 * (sl + v) + ((n - n / 3 * 3) - (n - n / 3 * 3) / 2 * 2) * sl), by omega, ?_, ?_⟩
    · unfold f_X2_secondsOf fv_Line_seconds f_X9_seconds f_X10_seconds
      simp (disch := omega) only [↓bs (hX), p5, hl, p10, p11, pk_mul, pk_div, pk_sub, List.mem_cons, List.not_mem_nil, or_true, ↓reduceIte, List.mem_singleton, Option.bind_some, if_true, if_false, zM_PM, zLn_PM, zTg_PM, zR_PM, ↓zb, ↓zo, ↓zl, n_lt0, n_le, n_lt, n_eq, n_eq0, n_gt0, n_le0, n_ge0, n_zin, n_nat, nI_add, and_self, true_or, false_or, or_false, if_pos, if_neg, f_in_nI, Nat.reduceAdd, t1 hsa]
    · unfold f_X12_secondsOf f_X12_twins
      simp (disch := omega) only [m12, m13, m14, pk_mul, pk_div, pk_sub, ↓reduceIte, List.mem_singleton, Option.bind_some, if_true, if_false, zM_PM, zLn_PM, zTg_PM, zR_PM, ↓zb, ↓zo, ↓zl, n_lt0, n_le, n_lt, n_eq, n_eq0, n_gt0, n_le0, n_ge0, n_zin, n_nat, nI_add, and_self, true_or, false_or, or_false, if_pos, if_neg, f_in_nI, Nat.reduceAdd, t39 hsb, ↓bs (r39_1 hsb), t40 hsb, l40 hsb]
  · clear p16
    replace p5 : zTg sa x = 11 := p5
    have hl : 11 ∈ zLs := by decide
    have b1 : (n + 1) / 2 * (sl / 2) ≤ 21 * 30 := Nat.mul_le_mul (by omega) (by omega)
    refine ⟨(n + 1) / 2 * (sl / 2) + v + n / 2, by omega, ?_, ?_⟩
    · unfold f_X2_secondsOf fv_Line_seconds f_X1_seconds f_X0_seconds
      simp (disch := omega) only [↓bs (hX), p5, hl, p10, p11, pk_mul, pk_div, pk_sub, List.mem_cons, List.not_mem_nil, or_true, ↓reduceIte, List.mem_singleton, Option.bind_some, if_true, if_false, zM_PM, zLn_PM, zTg_PM, zR_PM, ↓zb, ↓zo, ↓zl, n_lt0, n_le, n_lt, n_eq, n_eq0, n_gt0, n_le0, n_ge0, n_zin, n_nat, nI_add, and_self, true_or, false_or, or_false, if_pos, if_neg, f_in_nI, Nat.reduceAdd, t1 hsa]
    · unfold f_X12_secondsOf f_X12_columns
      simp (disch := omega) only [m12, m13, m14, pk_mul, pk_div, pk_sub, ↓reduceIte, List.mem_singleton, Option.bind_some, if_true, if_false, zM_PM, zLn_PM, zTg_PM, zR_PM, ↓zb, ↓zo, ↓zl, n_lt0, n_le, n_lt, n_eq, n_eq0, n_gt0, n_le0, n_ge0, n_zin, n_nat, nI_add, and_self, true_or, false_or, or_false, if_pos, if_neg, f_in_nI, Nat.reduceAdd, t39 hsb, ↓bs (r39_1 hsb), t40 hsb, l40 hsb]
      congr 2
      omega
  · replace p5 : zTg sa x = 17 := p5
    obtain ⟨r, r1, r2, r3, r4, r5, r6⟩ := p16 rfl
    clear p16
    obtain ⟨d, d1, d2⟩ := p15 (n - n / 4 * 4) (by omega)
    have r7 := r6 (n - n / 4 * 4) (by omega)
    rw [d2] at r7
    have d3 := (hB (29 + 4 * w + (n - n / 4 * 4)) (by clear r6; omega) (by clear r6; omega)).trans d2
    refine ⟨d, by omega, ?_, ?_⟩
    · unfold f_X2_secondsOf fv_Line_seconds f_X7_seconds f_X7_rowAt
      simp (disch := omega) only [↓bs (hX), p5, ↓bs r1, r4, r5, r7, pk_mul, pk_div, pk_sub, ↓reduceIte, List.mem_singleton, Option.bind_some, if_true, if_false, zM_PM, zLn_PM, zTg_PM, zR_PM, ↓zb, ↓zo, ↓zl, n_lt0, n_le, n_lt, n_eq, n_eq0, n_gt0, n_le0, n_ge0, n_zin, n_nat, nI_add, and_self, true_or, false_or, or_false, if_pos, if_neg, f_in_nI, Nat.reduceAdd, t1 hsa]
    · unfold f_X12_secondsOf
      simp (disch := omega) only [m12, d3, pk_mul, pk_div, pk_sub, ↓reduceIte, List.mem_singleton, Option.bind_some, if_true, if_false, zM_PM, zLn_PM, zTg_PM, zR_PM, ↓zb, ↓zo, ↓zl, n_lt0, n_le, n_lt, n_eq, n_eq0, n_gt0, n_le0, n_ge0, n_zin, n_nat, nI_add, and_self, true_or, false_or, or_false, if_pos, if_neg, f_in_nI, Nat.reduceAdd, t39 hsb, ↓bs (r39_1 hsb), t40 hsb, l40 hsb]
theorem f_isPe {a : Int32} : (∃ n, n ≤ 999 ∧ a = nI n ∧ f_X11_isPence a = some (nI 1) ∧ f_X12_in a (nI 0) (nI 999) = some (nI 1)) ∨ (f_X11_isPence a = some (nI 0) ∧ f_X12_in a (nI 0) (nI 999) = some (nI 0)) := by
  rcases i_neg a with z | ⟨j, hj, rfl⟩
  · refine Or.inr ⟨?_, f_in_neg z 0 999 (by omega)⟩
    unfold f_X11_isPence
    simp (disch := omega) only [z, if_true]
  · by_cases h : j ≤ 999
    · refine Or.inl ⟨j, h, rfl, ?_, by rw [f_in_nI hj (by omega) (by omega), if_pos ⟨by omega, h⟩]⟩
      unfold f_X11_isPence
      simp (disch := omega) only [↓reduceIte, List.mem_singleton, Option.bind_some, if_true, if_false, zM_PM, zLn_PM, zTg_PM, zR_PM, ↓zb, ↓zo, ↓zl, n_lt0, n_le, n_lt, n_eq, n_eq0, n_gt0, n_le0, n_ge0, n_zin, n_nat, nI_add, and_self, true_or, false_or, or_false, if_pos, if_neg, f_in_nI, Nat.reduceAdd]
    · refine Or.inr ⟨?_, by rw [f_in_nI hj (by omega) (by omega), if_neg (by omega)]⟩
      unfold f_X11_isPence
      simp (disch := omega) only [↓reduceIte, List.mem_singleton, Option.bind_some, if_true, if_false, zM_PM, zLn_PM, zTg_PM, zR_PM, ↓zb, ↓zo, ↓zl, n_lt0, n_le, n_lt, n_eq, n_eq0, n_gt0, n_le0, n_ge0, n_zin, n_nat, nI_add, and_self, true_or, false_or, or_false, if_pos, if_neg, f_in_nI, Nat.reduceAdd]
theorem zero_eq {st : zS} (h : Inv st) (N : Nat) {w : Nat} (hw : w < K st 40 0) : f_X2_secondsOf st 1 (nI w) (nI 0) = some (nI 0) ∧ f_X12_secondsOf N st 39 (nI w) (nI 0) = some (nI 0) ∧ f_X2_penceOf st 1 (nI w) (nI 0) = some (nI 0) ∧ f_X12_penceOf st 39 (nI w) (nI 0) = some (nI 0) := by
  have hs := h.1
  have h6 := h.2.1.1.1.2
  rcases way_cases h (nI w) with ha | ⟨w', x, hw', e, hx, hL⟩
  · rw [n_lt0 (by omega), n_le (by omega) (by omega)] at ha
    exact absurd (ha.resolve_left id) (by omega)
  rw [n_eq (by omega) (by omega)] at e
  subst e
  obtain ⟨k, v, sl, p1, p2, p3, p4, p5, p6, p7, p8, p9, p10, p11, p12, p13, p14, p15, p16⟩ := hL
  clear p16
  refine ⟨?_, ?_, ?_, ?_⟩
  · unfold f_X2_secondsOf
    simp (disch := omega) only [↓bs (x_wayS h hw hx), ↓reduceIte, List.mem_singleton, Option.bind_some, if_true, if_false, zM_PM, zLn_PM, zTg_PM, zR_PM, ↓zb, ↓zo, ↓zl, n_lt0, n_le, n_lt, n_eq, n_eq0, n_gt0, n_le0, n_ge0, n_zin, n_nat, nI_add, and_self, true_or, false_or, or_false, if_pos, if_neg, f_in_nI, Nat.reduceAdd, t1 hs]
  · unfold f_X12_secondsOf
    simp (disch := omega) only [↓reduceIte, List.mem_singleton, Option.bind_some, if_true, if_false, zM_PM, zLn_PM, zTg_PM, zR_PM, ↓zb, ↓zo, ↓zl, n_lt0, n_le, n_lt, n_eq, n_eq0, n_gt0, n_le0, n_ge0, n_zin, n_nat, nI_add, and_self, true_or, false_or, or_false, if_pos, if_neg, f_in_nI, Nat.reduceAdd]
  · unfold f_X2_penceOf
    simp (disch := omega) only [↓bs (x_wayS h hw hx), ↓reduceIte, List.mem_singleton, Option.bind_some, if_true, if_false, zM_PM, zLn_PM, zTg_PM, zR_PM, ↓zb, ↓zo, ↓zl, n_lt0, n_le, n_lt, n_eq, n_eq0, n_gt0, n_le0, n_ge0, n_zin, n_nat, nI_add, and_self, true_or, false_or, or_false, if_pos, if_neg, f_in_nI, Nat.reduceAdd, t1 hs]
  · unfold f_X12_penceOf f_X12_penceOf_27
    have e : nI 0 * nI v = nI 0 := by rw [n_mul, Nat.zero_mul]
    by_cases k3 : k = 3
    · simp (disch := omega) only [p12, p13, k3, e, ↓reduceIte, List.mem_singleton, Option.bind_some, if_true, if_false, zM_PM, zLn_PM, zTg_PM, zR_PM, ↓zb, ↓zo, ↓zl, n_lt0, n_le, n_lt, n_eq, n_eq0, n_gt0, n_le0, n_ge0, n_zin, n_nat, nI_add, and_self, true_or, false_or, or_false, if_pos, if_neg, f_in_nI, Nat.reduceAdd, t39 hs, ↓bs (r39_1 hs), t40 hs, l40 hs]
    · by_cases k6 : k = 6
      · simp (disch := omega) only [p12, p13, k6, e, ↓reduceIte, List.mem_singleton, Option.bind_some, if_true, if_false, zM_PM, zLn_PM, zTg_PM, zR_PM, ↓zb, ↓zo, ↓zl, n_lt0, n_le, n_lt, n_eq, n_eq0, n_gt0, n_le0, n_ge0, n_zin, n_nat, nI_add, and_self, true_or, false_or, or_false, if_pos, if_neg, f_in_nI, Nat.reduceAdd, t39 hs, ↓bs (r39_1 hs), t40 hs, l40 hs]
      · simp (disch := omega) only [p12, p13, k3, k6, ↓reduceIte, List.mem_singleton, Option.bind_some, if_true, if_false, zM_PM, zLn_PM, zTg_PM, zR_PM, ↓zb, ↓zo, ↓zl, n_lt0, n_le, n_lt, n_eq, n_eq0, n_gt0, n_le0, n_ge0, n_zin, n_nat, nI_add, and_self, true_or, false_or, or_false, if_pos, if_neg, f_in_nI, Nat.reduceAdd, t39 hs, ↓bs (r39_1 hs), t40 hs, l40 hs]
theorem sp_all {st : zS} (h : Inv st) {N : Nat} (hN : 3000 ≤ N) : ∃ S P : Nat → Nat → Nat, ∀ w n, w < K st 40 0 → (n ≤ 41 → S w n ≤ 4000 ∧ f_X2_secondsOf st 1 (nI w) (nI n) = some (nI (S w n)) ∧ f_X12_secondsOf N st 39 (nI w) (nI n) = some (nI (S w n))) ∧ (n ≤ 40 → P w n ≤ 3000 ∧ f_X2_penceOf st 1 (nI w) (nI n) = some (nI (P w n)) ∧ f_X12_penceOf st 39 (nI w) (nI n) = some (nI (P w n))) ∧ (n = 0 → S w n = 0 ∧ P w n = 0) := by
  have hs := h.1
  have h6 := h.2.1.1.1.2
  have key : ∀ q : Nat × Nat, ∃ y : Nat × Nat, q.1 < K st 40 0 → (q.2 ≤ 41 → y.1 ≤ 4000 ∧ f_X2_secondsOf st 1 (nI q.1) (nI q.2) = some (nI y.1) ∧ f_X12_secondsOf N st 39 (nI q.1) (nI q.2) = some (nI y.1)) ∧ (q.2 ≤ 40 → y.2 ≤ 3000 ∧ f_X2_penceOf st 1 (nI q.1) (nI q.2) = some (nI y.2) ∧ f_X12_penceOf st 39 (nI q.1) (nI q.2) = some (nI y.2)) ∧ (q.2 = 0 → y.1 = 0 ∧ y.2 = 0) := by
    rintro ⟨w, n⟩
    by_cases hw : w < K st 40 0
    · rcases way_cases h (nI w) with ha | ⟨w', x, hw', e, hx, hL⟩
      · rw [n_lt0 (by omega), n_le (by omega) (by omega)] at ha
        exact absurd (ha.resolve_left id) (by omega)
      rw [n_eq (by omega) (by omega)] at e
      subst e
      by_cases hn0 : n = 0
      · subst hn0
        obtain ⟨z1, z2, z3, z4⟩ := zero_eq h N hw
        exact ⟨(0, 0), fun _ => ⟨fun _ => ⟨by omega, z1, z2⟩, fun _ => ⟨by omega, z3, z4⟩, fun _ => ⟨rfl, rfl⟩⟩⟩
      · by_cases hn : n ≤ 41
        · obtain ⟨s, s1, s2, s3⟩ := sec_41 hs hs hN (by omega) (x_wayS h hw hx) hL (fun _ _ _ => rfl) (by omega) hn
          by_cases hn4 : n ≤ 40
          · obtain ⟨p, p1, p2, p3⟩ := pen_eq h hw hx hL (by omega) hn4
            exact ⟨(s, p), fun _ => ⟨fun _ => ⟨s1, s2, s3⟩, fun _ => ⟨p1, p2, p3⟩, fun q => absurd q hn0⟩⟩
          · exact ⟨(s, 0), fun _ => ⟨fun _ => ⟨s1, s2, s3⟩, fun q => absurd q hn4, fun q => absurd q hn0⟩⟩
        · exact ⟨(0, 0), fun _ => ⟨fun q => absurd q hn, fun q => absurd (show n ≤ 41 from Nat.le_succ_of_le q) hn, fun q => absurd q hn0⟩⟩
    · exact ⟨(0, 0), fun q => absurd q hw⟩
  obtain ⟨f, hf⟩ := Classical.skolem.mp key
  exact ⟨fun w n => (f (w, n)).1, fun w n => (f (w, n)).2, fun w n hw => hf (w, n) hw⟩
theorem quick_loop {st : zS} (h : Inv st) {N n p : Nat} (hN : 3000 ≤ N) (hn : n ≤ 40) (hp : p ≤ 999) {a3 : Int32} (ha : a3 = 0 ∨ a3 = nI 1) {S P : Nat → Nat → Nat} (sp : ∀ w n, w < K st 40 0 → (n ≤ 41 → S w n ≤ 4000 ∧ f_X2_secondsOf st 1 (nI w) (nI n) = some (nI (S w n)) ∧ f_X12_secondsOf N st 39 (nI w) (nI n) = some (nI (S w n))) ∧ (n ≤ 40 → P w n ≤ 3000 ∧ f_X2_penceOf st 1 (nI w) (nI n) = some (nI (P w n)) ∧ f_X12_penceOf st 39 (nI w) (nI n) = some (nI (P w n))) ∧ (n = 0 → S w n = 0 ∧ P w n = 0)) : ∀ k f1 f2 i best x y, i + k = K st 40 0 → k < f1 → k < f2 → ((x = -1 ∧ y = -5 ∧ best = -5) ∨ ∃ b, b < K st 40 0 ∧ x = nI b ∧ best = nI b ∧ y = nI (S b n)) → ∃ r, f_X11_quick_32 N st 0 (nI n) (nI p) a3 f1 x (nI i) = some r ∧ f_X12_quick_46 N st 39 (nI n) (nI p) a3 f2 best y (nI i) = some r := by
  intro k
  have hs := h.1
  have h6 := h.2.1.1.1.2
  have w1 := h.2.1.1.2
  have w2 := h.2.1.1.1.1
  have e15 : ((-1 : Int32) = -1) = True := eq_self _
  have e55 : ((-5 : Int32) = -5) = True := eq_self _
  have eb5 : ∀ b, b < 6 → (nI b = (-5 : Int32)) = False := fun b hb => eq_false (fun q => nI_pos (show b < 2147483648 by omega) (by rw [q]; decide))
  induction k with
  | zero =>
    intro f1 f2 i best x y h1 h2 h3 hb
    obtain ⟨f1, rfl⟩ : ∃ m, f1 = m + 1 := ⟨f1 - 1, by omega⟩
    obtain ⟨f2, rfl⟩ : ∃ m, f2 = m + 1 := ⟨f2 - 1, by omega⟩
    have hi : i = K st 40 0 := by omega
    subst hi
    unfold f_X11_quick_32 f_X12_quick_46 f_X2_wayCount
    rcases hb with ⟨rfl, rfl, rfl⟩ | ⟨b, b1, rfl, rfl, rfl⟩
    · clear sp
      refine ⟨-5, ?_, ?_⟩
      · simp (disch := omega) only [w1, w2, e15, ↓reduceIte, List.mem_singleton, Option.bind_some, if_true, if_false, zM_PM, zLn_PM, zTg_PM, zR_PM, ↓zb, ↓zo, ↓zl, n_lt0, n_le, n_lt, n_eq, n_eq0, n_gt0, n_le0, n_ge0, n_zin, n_nat, nI_add, and_self, true_or, false_or, or_false, if_pos, if_neg, f_in_nI, Nat.reduceAdd, t0 hs, ↓bs (r0_0 hs), t1 hs]
      · simp (disch := omega) only [w2, ite_self, ↓reduceIte, List.mem_singleton, Option.bind_some, if_true, if_false, zM_PM, zLn_PM, zTg_PM, zR_PM, ↓zb, ↓zo, ↓zl, n_lt0, n_le, n_lt, n_eq, n_eq0, n_gt0, n_le0, n_ge0, n_zin, n_nat, nI_add, and_self, true_or, false_or, or_false, if_pos, if_neg, f_in_nI, Nat.reduceAdd, t39 hs, ↓bs (r39_1 hs), t40 hs, l40 hs]
    · have q := ((sp b n b1).1 (by omega)).2.1
      clear sp
      rcases ha with rfl | rfl
      · refine ⟨nI b, ?_, ?_⟩
        · simp (disch := omega) only [w1, w2, n_m1, eq_self, ↓reduceIte, List.mem_singleton, Option.bind_some, if_true, if_false, zM_PM, zLn_PM, zTg_PM, zR_PM, ↓zb, ↓zo, ↓zl, n_lt0, n_le, n_lt, n_eq, n_eq0, n_gt0, n_le0, n_ge0, n_zin, n_nat, nI_add, and_self, true_or, false_or, or_false, if_pos, if_neg, f_in_nI, Nat.reduceAdd, t0 hs, ↓bs (r0_0 hs), t1 hs]
        · simp (disch := omega) only [w2, eq_self, ↓reduceIte, List.mem_singleton, Option.bind_some, if_true, if_false, zM_PM, zLn_PM, zTg_PM, zR_PM, ↓zb, ↓zo, ↓zl, n_lt0, n_le, n_lt, n_eq, n_eq0, n_gt0, n_le0, n_ge0, n_zin, n_nat, nI_add, and_self, true_or, false_or, or_false, if_pos, if_neg, f_in_nI, Nat.reduceAdd, t39 hs, ↓bs (r39_1 hs), t40 hs, l40 hs]
      · refine ⟨nI (S b n), ?_, ?_⟩
        · simp (disch := omega) only [w1, w2, n_m1, ↓bs q, ↓reduceIte, List.mem_singleton, Option.bind_some, if_true, if_false, zM_PM, zLn_PM, zTg_PM, zR_PM, ↓zb, ↓zo, ↓zl, n_lt0, n_le, n_lt, n_eq, n_eq0, n_gt0, n_le0, n_ge0, n_zin, n_nat, nI_add, and_self, true_or, false_or, or_false, if_pos, if_neg, f_in_nI, Nat.reduceAdd, t0 hs, ↓bs (r0_0 hs), t1 hs]
        · simp (disch := omega) only [w2, ↓reduceIte, List.mem_singleton, Option.bind_some, if_true, if_false, zM_PM, zLn_PM, zTg_PM, zR_PM, ↓zb, ↓zo, ↓zl, n_lt0, n_le, n_lt, n_eq, n_eq0, n_gt0, n_le0, n_ge0, n_zin, n_nat, nI_add, and_self, true_or, false_or, or_false, if_pos, if_neg, f_in_nI, Nat.reduceAdd, t39 hs, ↓bs (r39_1 hs), t40 hs, l40 hs]
  | succ k ih =>
    intro f1 f2 i best x y h1 h2 h3 hb
    obtain ⟨f1, rfl⟩ : ∃ m, f1 = m + 1 := ⟨f1 - 1, by omega⟩
    obtain ⟨f2, rfl⟩ : ∃ m, f2 = m + 1 := ⟨f2 - 1, by omega⟩
    obtain ⟨⟨s1, s2, s3⟩, ⟨p1, p2, p3⟩⟩ := And.intro ((sp i n (by omega)).1 (by omega)) ((sp i n (by omega)).2.1 (by omega))
    obtain ⟨r1, u1, u2⟩ := ih f1 f2 (i + 1) best x y (by omega) (by omega) (by omega) hb
    obtain ⟨r2, v1, v2⟩ := ih f1 f2 (i + 1) (nI i) (nI i) (nI (S i n)) (by omega) (by omega) (by omega) (Or.inr ⟨i, by omega, rfl, rfl, rfl⟩)
    clear ih
    unfold f_X11_quick_32 f_X12_quick_46 f_X2_wayCount f_X11_quick_73 f_X11_quick_78 f_X11_quick_103 f_X12_quick_91 f_X12_quick_99
    rcases hb with ⟨rfl, rfl, rfl⟩ | ⟨b, b1, rfl, rfl, rfl⟩
    · clear sp
      by_cases hq : p < P i n
      · refine ⟨r1, ?_, ?_⟩
        · simp (disch := omega) only [hq, w1, w2, e15, ↓bs p2, ↓reduceIte, List.mem_singleton, Option.bind_some, if_true, if_false, zM_PM, zLn_PM, zTg_PM, zR_PM, ↓zb, ↓zo, ↓zl, n_lt0, n_le, n_lt, n_eq, n_eq0, n_gt0, n_le0, n_ge0, n_zin, n_nat, nI_add, and_self, true_or, false_or, or_false, if_pos, if_neg, f_in_nI, Nat.reduceAdd, t0 hs, ↓bs (r0_0 hs), t1 hs]
          exact u1
        · simp (disch := omega) only [hq, w2, e55, ↓bs s3, ↓bs p3, ↓reduceIte, List.mem_singleton, Option.bind_some, if_true, if_false, zM_PM, zLn_PM, zTg_PM, zR_PM, ↓zb, ↓zo, ↓zl, n_lt0, n_le, n_lt, n_eq, n_eq0, n_gt0, n_le0, n_ge0, n_zin, n_nat, nI_add, and_self, true_or, false_or, or_false, if_pos, if_neg, f_in_nI, Nat.reduceAdd, t39 hs, ↓bs (r39_1 hs), t40 hs, l40 hs]
          exact u2
      · refine ⟨r2, ?_, ?_⟩
        · simp (disch := omega) only [hq, w1, w2, e15, ↓bs p2, ↓reduceIte, List.mem_singleton, Option.bind_some, if_true, if_false, zM_PM, zLn_PM, zTg_PM, zR_PM, ↓zb, ↓zo, ↓zl, n_lt0, n_le, n_lt, n_eq, n_eq0, n_gt0, n_le0, n_ge0, n_zin, n_nat, nI_add, and_self, true_or, false_or, or_false, if_pos, if_neg, f_in_nI, Nat.reduceAdd, t0 hs, ↓bs (r0_0 hs), t1 hs]
          exact v1
        · simp (disch := omega) only [hq, w2, e55, ↓bs s3, ↓bs p3, ↓reduceIte, List.mem_singleton, Option.bind_some, if_true, if_false, zM_PM, zLn_PM, zTg_PM, zR_PM, ↓zb, ↓zo, ↓zl, n_lt0, n_le, n_lt, n_eq, n_eq0, n_gt0, n_le0, n_ge0, n_zin, n_nat, nI_add, and_self, true_or, false_or, or_false, if_pos, if_neg, f_in_nI, Nat.reduceAdd, t39 hs, ↓bs (r39_1 hs), t40 hs, l40 hs]
          exact v2
    · obtain ⟨t1', t2', -⟩ := (sp b n b1).1 (by omega)
      clear sp
      by_cases hq2 : S b n ≤ S i n
      · refine ⟨r1, ?_, ?_⟩
        · simp (disch := omega) only [hq2, w1, w2, n_m1, ↓bs s2, ↓bs t2', ↓reduceIte, List.mem_singleton, Option.bind_some, if_true, if_false, zM_PM, zLn_PM, zTg_PM, zR_PM, ↓zb, ↓zo, ↓zl, n_lt0, n_le, n_lt, n_eq, n_eq0, n_gt0, n_le0, n_ge0, n_zin, n_nat, nI_add, and_self, true_or, false_or, or_false, if_pos, if_neg, f_in_nI, Nat.reduceAdd, t0 hs, ↓bs (r0_0 hs), t1 hs]
          exact u1
        · by_cases hq : p < P i n <;>
          · simp (disch := omega) only [hq, hq2, w2, eb5, ↓bs s3, ↓bs p3, ↓reduceIte, List.mem_singleton, Option.bind_some, if_true, if_false, zM_PM, zLn_PM, zTg_PM, zR_PM, ↓zb, ↓zo, ↓zl, n_lt0, n_le, n_lt, n_eq, n_eq0, n_gt0, n_le0, n_ge0, n_zin, n_nat, nI_add, and_self, true_or, false_or, or_false, if_pos, if_neg, f_in_nI, Nat.reduceAdd, t39 hs, ↓bs (r39_1 hs), t40 hs, l40 hs]
            exact u2
      · by_cases hq : p < P i n
        · refine ⟨r1, ?_, ?_⟩
          · simp (disch := omega) only [hq, hq2, w1, w2, n_m1, ↓bs s2, ↓bs t2', ↓bs p2, ↓reduceIte, List.mem_singleton, Option.bind_some, if_true, if_false, zM_PM, zLn_PM, zTg_PM, zR_PM, ↓zb, ↓zo, ↓zl, n_lt0, n_le, n_lt, n_eq, n_eq0, n_gt0, n_le0, n_ge0, n_zin, n_nat, nI_add, and_self, true_or, false_or, or_false, if_pos, if_neg, f_in_nI, Nat.reduceAdd, t0 hs, ↓bs (r0_0 hs), t1 hs]
            exact u1
          · simp (disch := omega) only [hq, hq2, w2, eb5, ↓bs s3, ↓bs p3, ↓reduceIte, List.mem_singleton, Option.bind_some, if_true, if_false, zM_PM, zLn_PM, zTg_PM, zR_PM, ↓zb, ↓zo, ↓zl, n_lt0, n_le, n_lt, n_eq, n_eq0, n_gt0, n_le0, n_ge0, n_zin, n_nat, nI_add, and_self, true_or, false_or, or_false, if_pos, if_neg, f_in_nI, Nat.reduceAdd, t39 hs, ↓bs (r39_1 hs), t40 hs, l40 hs]
            exact u2
        · refine ⟨r2, ?_, ?_⟩
          · simp (disch := omega) only [hq, hq2, w1, w2, n_m1, ↓bs s2, ↓bs t2', ↓bs p2, ↓reduceIte, List.mem_singleton, Option.bind_some, if_true, if_false, zM_PM, zLn_PM, zTg_PM, zR_PM, ↓zb, ↓zo, ↓zl, n_lt0, n_le, n_lt, n_eq, n_eq0, n_gt0, n_le0, n_ge0, n_zin, n_nat, nI_add, and_self, true_or, false_or, or_false, if_pos, if_neg, f_in_nI, Nat.reduceAdd, t0 hs, ↓bs (r0_0 hs), t1 hs]
            exact v1
          · simp (disch := omega) only [hq, hq2, w2, eb5, ↓bs s3, ↓bs p3, ↓reduceIte, List.mem_singleton, Option.bind_some, if_true, if_false, zM_PM, zLn_PM, zTg_PM, zR_PM, ↓zb, ↓zo, ↓zl, n_lt0, n_le, n_lt, n_eq, n_eq0, n_gt0, n_le0, n_ge0, n_zin, n_nat, nI_add, and_self, true_or, false_or, or_false, if_pos, if_neg, f_in_nI, Nat.reduceAdd, t39 hs, ↓bs (r39_1 hs), t40 hs, l40 hs]
            exact v2
theorem s_quick {st : zS} (h : Inv st) {N : Nat} (hN : 3000 ≤ N) (a1 a2 a3 : Int32) : ∃ (r : Int32) (st1 st2 : zS), (f_X11_quick N st 0 a1 a2 a3 = some r ∧ st1 = st) ∧ (f_X12_quick N st1 39 a1 a2 a3 = some r ∧ st2 = st1) ∧ Sh st1 ∧ Inv st2 := by
  have h6 := h.2.1.1.1.2
  suffices q : ∃ r : Int32, f_X11_quick N st 0 a1 a2 a3 = some r ∧ f_X12_quick N st 39 a1 a2 a3 = some r by
    obtain ⟨r, q1, q2⟩ := q
    exact ⟨r, st, st, ⟨q1, rfl⟩, ⟨q2, rfl⟩, h.1, h⟩
  have z0 : (nI 0 = 0) = True := by decide
  have z1 : (nI 1 = 0) = False := by decide
  unfold f_X11_quick f_X12_quick
  obtain ⟨g1, g2⟩ := f_isPt (a := a3)
  by_cases hp : a3 = 0 ∨ a3 = nI 1
  · rw [if_pos hp] at g1 g2
    rcases f_isLen (a := a1) with ⟨n, n1, n2, rfl, l1, l2⟩ | ⟨l1, l2⟩
    · rcases f_isPe (a := a2) with ⟨p, q1, rfl, q2, q3⟩ | ⟨q2, q3⟩
      · simp only [g1, g2, l1, l2, q2, q3, Option.bind_some, z1, if_false]
        obtain ⟨S, P, sp⟩ := sp_all h hN
        exact quick_loop h hN n2 q1 hp sp (K st 40 0) N N 0 (-5) (-1) (-5) (by omega) (by omega) (by omega) (Or.inl ⟨rfl, rfl, rfl⟩)
      · simp only [g1, g2, l1, l2, q2, q3, Option.bind_some, z0, z1, if_false, if_true]
        exact ⟨-2, rfl, rfl⟩
    · simp only [g1, g2, l1, l2, Option.bind_some, z0, z1, if_false, if_true]
      exact ⟨-2, rfl, rfl⟩
  · rw [if_neg hp] at g1 g2
    rw [g1, g2]
    exact ⟨-1, rfl, rfl⟩
