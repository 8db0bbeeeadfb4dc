/-! seconds and pence, with the two sides in two states -/
theorem sec_two {sa sb : zS} (hsa : Sh sa) (hsb : Sh sb) {N : Nat} (hN : 3000 ≤ N) {w x : Nat} (h6 : w < 6) (hX : f_X2_wayOf sa 1 (nI w) = some (some x)) (hL : LineR sa x w 40) (hB : ∀ j, 11 ≤ j → j < 53 → zM sb 40 j = zM sa 40 j) {n : Nat} (hn1 : 1 ≤ n) (hn : n ≤ 40) : ∃ s, s ≤ 3000 ∧ f_X2_secondsOf sa 1 (nI w) (nI n) = some (nI s) ∧ f_X12_secondsOf N sb 39 (nI w) (nI n) = some (nI s) := by
  obtain ⟨k, v, sl, p1, p2, p3, p4, p5, p6, p7, p8, p9, p10, p11, p12, p13, p14, p15, p16⟩ := hL
  have m12 := (hB (11 + w) (by clear p16; omega) (by clear p16; omega)).trans p12
  have m13 := (hB (17 + w) (by clear p16; omega) (by clear p16; omega)).trans p13
  have m14 := (hB (23 + w) (by clear p16; omega) (by clear p16; omega)).trans p14
  have hk : k = 0 ∨ k = 1 ∨ k = 2 ∨ k = 3 ∨ k = 4 ∨ k = 5 ∨ k = 6 := by clear p16; omega
  rcases hk with rfl | rfl | rfl | rfl | rfl | rfl | rfl
  · clear p16
    replace p5 : zTg sa x = 14 := p5
    have hl : 14 ∈ zLs := by decide
    obtain ⟨t1e, t2e⟩ := tenT_eq n (by omega)
    have b1 : n * sl ≤ 40 * 60 := Nat.mul_le_mul hn p4
    have b2 : tenT n * v ≤ 60 * 9 := Nat.mul_le_mul t2e p2
    refine ⟨n * sl + tenT n * v, by omega, ?_, ?_⟩
    · unfold f_X2_secondsOf fv_Line_seconds f_X4_seconds
      simp (disch := omega) only [↓zl, t1e, ↓bs (hX), p5, hl, p10, p11, pk_mul, ↓reduceIte, List.mem_singleton, Option.bind_some, if_true, if_false, zM_PM, zLn_PM, zTg_PM, zR_PM, ↓zb, ↓zo, ↓zl, n_lt0, n_le, n_lt, n_eq, n_eq0, n_gt0, n_le0, n_ge0, n_zin, n_nat, nI_add, and_self, true_or, false_or, or_false, if_pos, if_neg, f_in_nI, Nat.reduceAdd, t1 hsa]
    · unfold f_X12_secondsOf f_X12_byHand
      have e := m_byHand hsb (w := w) (by omega) m13 m14 hn N n N 0 (by omega) (by omega)
      rw [show 0 * sl + tenT 0 * v = 0 by simp [tenT]] at e
      simp (disch := omega) only [m12, ↓bs e, ↓reduceIte, List.mem_singleton, Option.bind_some, if_true, if_false, zM_PM, zLn_PM, zTg_PM, zR_PM, ↓zb, ↓zo, ↓zl, n_lt0, n_le, n_lt, n_eq, n_eq0, n_gt0, n_le0, n_ge0, n_zin, n_nat, nI_add, and_self, true_or, false_or, or_false, if_pos, if_neg, f_in_nI, Nat.reduceAdd, t39 hsb, ↓bs (r39_1 hsb), t40 hsb, l40 hsb]
  · clear p16
    replace p5 : zTg sa x = 20 := p5
    have b1 : n / 2 * (sl + v) ≤ 20 * 69 := Nat.mul_le_mul (by omega) (by omega)
    have b2 : (n - n / 2 * 2) * sl ≤ 1 * 60 := Nat.mul_le_mul (by omega) p4
    refine ⟨n / 2 * (sl + v) + (n - n / 2 * 2) * sl, by omega, ?_, ?_⟩
    · unfold f_X2_secondsOf fv_Line_seconds f_X10_seconds
      simp (disch := omega) only [↓bs (hX), p5, p10, p11, pk_mul, pk_div, pk_sub, List.mem_cons, List.not_mem_nil, ↓reduceIte, List.mem_singleton, Option.bind_some, if_true, if_false, zM_PM, zLn_PM, zTg_PM, zR_PM, ↓zb, ↓zo, ↓zl, n_lt0, n_le, n_lt, n_eq, n_eq0, n_gt0, n_le0, n_ge0, n_zin, n_nat, nI_add, and_self, true_or, false_or, or_false, if_pos, if_neg, f_in_nI, Nat.reduceAdd, t1 hsa]
    · unfold f_X12_secondsOf f_X12_twins
      simp (disch := omega) only [m12, m13, m14, pk_mul, pk_div, pk_sub, ↓reduceIte, List.mem_singleton, Option.bind_some, if_true, if_false, zM_PM, zLn_PM, zTg_PM, zR_PM, ↓zb, ↓zo, ↓zl, n_lt0, n_le, n_lt, n_eq, n_eq0, n_gt0, n_le0, n_ge0, n_zin, n_nat, nI_add, and_self, true_or, false_or, or_false, if_pos, if_neg, f_in_nI, Nat.reduceAdd, t39 hsb, ↓bs (r39_1 hsb), t40 hsb, l40 hsb]
  · clear p16
    replace p5 : zTg sa x = 10 := p5
    have b1 : n * (sl / 2) ≤ 40 * 30 := Nat.mul_le_mul (by omega) (by omega)
    refine ⟨n * (sl / 2) + v, by omega, ?_, ?_⟩
    · unfold f_X2_secondsOf fv_Line_seconds f_X0_seconds
      simp (disch := omega) only [↓bs (hX), p5, p10, p11, pk_mul, pk_div, pk_sub, List.mem_cons, List.not_mem_nil, ↓reduceIte, List.mem_singleton, Option.bind_some, if_true, if_false, zM_PM, zLn_PM, zTg_PM, zR_PM, ↓zb, ↓zo, ↓zl, n_lt0, n_le, n_lt, n_eq, n_eq0, n_gt0, n_le0, n_ge0, n_zin, n_nat, nI_add, and_self, true_or, false_or, or_false, if_pos, if_neg, f_in_nI, Nat.reduceAdd, t1 hsa]
    · unfold f_X12_secondsOf f_X12_columns
      simp (disch := omega) only [m12, m13, m14, pk_mul, pk_div, pk_sub, ↓reduceIte, List.mem_singleton, Option.bind_some, if_true, if_false, zM_PM, zLn_PM, zTg_PM, zR_PM, ↓zb, ↓zo, ↓zl, n_lt0, n_le, n_lt, n_eq, n_eq0, n_gt0, n_le0, n_ge0, n_zin, n_nat, nI_add, and_self, true_or, false_or, or_false, if_pos, if_neg, f_in_nI, Nat.reduceAdd, t39 hsb, ↓bs (r39_1 hsb), t40 hsb, l40 hsb]
  · clear p16
    replace p5 : zTg sa x = 13 := p5
    refine ⟨0, by omega, ?_, ?_⟩
    · unfold f_X2_secondsOf fv_Line_seconds f_X3_seconds
      simp (disch := omega) only [↓bs (hX), p5, ↓reduceIte, List.mem_singleton, Option.bind_some, if_true, if_false, zM_PM, zLn_PM, zTg_PM, zR_PM, ↓zb, ↓zo, ↓zl, n_lt0, n_le, n_lt, n_eq, n_eq0, n_gt0, n_le0, n_ge0, n_zin, n_nat, nI_add, and_self, true_or, false_or, or_false, if_pos, if_neg, f_in_nI, Nat.reduceAdd, t1 hsa]
    · unfold f_X12_secondsOf
      simp (disch := omega) only [m12, ↓reduceIte, List.mem_singleton, Option.bind_some, if_true, if_false, zM_PM, zLn_PM, zTg_PM, zR_PM, ↓zb, ↓zo, ↓zl, n_lt0, n_le, n_lt, n_eq, n_eq0, n_gt0, n_le0, n_ge0, n_zin, n_nat, nI_add, and_self, true_or, false_or, or_false, if_pos, if_neg, f_in_nI, Nat.reduceAdd, t39 hsb, ↓bs (r39_1 hsb), t40 hsb, l40 hsb]
  · clear p16
    replace p5 : zTg sa x = 19 := p5
    have hl : 19 ∈ zLs := by decide
    have b1 : n / 3 * (sl + 2 * v) ≤ 13 * 78 := Nat.mul_le_mul (by omega) (by omega)
    have b2 : (n - n / 3 * 3) / 2 * (sl + v) ≤ 1 * 69 := Nat.mul_le_mul (by omega) (by omega)
    have b3 : ((n - n / 3 * 3) - (n - n / 3 * 3) / 2 * 2) * sl ≤ 1 * 60 := Nat.mul_le_mul (by omega) p4
    refine ⟨n / 3 * (sl + 2 * v) + ((n - n / 3 * 3) / 2 * (sl + v) + ((n - n / 3 * 3) - (n - n / 3 * 3) / 2 * 2) * sl), by omega, ?_, ?_⟩
    · unfold f_X2_secondsOf fv_Line_seconds f_X9_seconds f_X10_seconds
      simp (disch := omega) only [↓bs (hX), p5, hl, p10, p11, pk_mul, pk_div, pk_sub, List.mem_cons, List.not_mem_nil, or_true, ↓reduceIte, List.mem_singleton, Option.bind_some, if_true, if_false, zM_PM, zLn_PM, zTg_PM, zR_PM, ↓zb, ↓zo, ↓zl, n_lt0, n_le, n_lt, n_eq, n_eq0, n_gt0, n_le0, n_ge0, n_zin, n_nat, nI_add, and_self, true_or, false_or, or_false, if_pos, if_neg, f_in_nI, Nat.reduceAdd, t1 hsa]
    · unfold f_X12_secondsOf f_X12_twins
      simp (disch := omega) only [m12, m13, m14, pk_mul, pk_div, pk_sub, ↓reduceIte, List.mem_singleton, Option.bind_some, if_true, if_false, zM_PM, zLn_PM, zTg_PM, zR_PM, ↓zb, ↓zo, ↓zl, n_lt0, n_le, n_lt, n_eq, n_eq0, n_gt0, n_le0, n_ge0, n_zin, n_nat, nI_add, and_self, true_or, false_or, or_false, if_pos, if_neg, f_in_nI, Nat.reduceAdd, t39 hsb, ↓bs (r39_1 hsb), t40 hsb, l40 hsb]
  · clear p16
    replace p5 : zTg sa x = 11 := p5
    have hl : 11 ∈ zLs := by decide
    have b1 : (n + 1) / 2 * (sl / 2) ≤ 20 * 30 := Nat.mul_le_mul (by omega) (by omega)
    refine ⟨(n + 1) / 2 * (sl / 2) + v + n / 2, by omega, ?_, ?_⟩
    · unfold f_X2_secondsOf fv_Line_seconds f_X1_seconds f_X0_seconds
      simp (disch := omega) only [↓bs (hX), p5, hl, p10, p11, pk_mul, pk_div, pk_sub, List.mem_cons, List.not_mem_nil, or_true, ↓reduceIte, List.mem_singleton, Option.bind_some, if_true, if_false, zM_PM, zLn_PM, zTg_PM, zR_PM, ↓zb, ↓zo, ↓zl, n_lt0, n_le, n_lt, n_eq, n_eq0, n_gt0, n_le0, n_ge0, n_zin, n_nat, nI_add, and_self, true_or, false_or, or_false, if_pos, if_neg, f_in_nI, Nat.reduceAdd, t1 hsa]
    · unfold f_X12_secondsOf f_X12_columns
      simp (disch := omega) only [m12, m13, m14, pk_mul, pk_div, pk_sub, ↓reduceIte, List.mem_singleton, Option.bind_some, if_true, if_false, zM_PM, zLn_PM, zTg_PM, zR_PM, ↓zb, ↓zo, ↓zl, n_lt0, n_le, n_lt, n_eq, n_eq0, n_gt0, n_le0, n_ge0, n_zin, n_nat, nI_add, and_self, true_or, false_or, or_false, if_pos, if_neg, f_in_nI, Nat.reduceAdd, t39 hsb, ↓bs (r39_1 hsb), t40 hsb, l40 hsb]
      congr 2
      omega
  · replace p5 : zTg sa x = 17 := p5
    obtain ⟨r, r1, r2, r3, r4, r5, r6⟩ := p16 rfl
    clear p16
    obtain ⟨d, d1, d2⟩ := p15 (n - n / 4 * 4) (by omega)
    have r7 := r6 (n - n / 4 * 4) (by omega)
    rw [d2] at r7
    have d3 := (hB (29 + 4 * w + (n - n / 4 * 4)) (by clear r6; omega) (by clear r6; omega)).trans d2
    refine ⟨d, by omega, ?_, ?_⟩
    · unfold f_X2_secondsOf fv_Line_seconds f_X7_seconds f_X7_rowAt
      simp (disch := omega) only [↓bs (hX), p5, ↓bs r1, r4, r5, r7, pk_mul, pk_div, pk_sub, ↓reduceIte, List.mem_singleton, Option.bind_some, if_true, if_false, zM_PM, zLn_PM, zTg_PM, zR_PM, ↓zb, ↓zo, ↓zl, n_lt0, n_le, n_lt, n_eq, n_eq0, n_gt0, n_le0, n_ge0, n_zin, n_nat, nI_add, and_self, true_or, false_or, or_false, if_pos, if_neg, f_in_nI, Nat.reduceAdd, t1 hsa]
    · unfold f_X12_secondsOf
      simp (disch := omega) only [m12, d3, pk_mul, pk_div, pk_sub, ↓reduceIte, List.mem_singleton, Option.bind_some, if_true, if_false, zM_PM, zLn_PM, zTg_PM, zR_PM, ↓zb, ↓zo, ↓zl, n_lt0, n_le, n_lt, n_eq, n_eq0, n_gt0, n_le0, n_ge0, n_zin, n_nat, nI_add, and_self, true_or, false_or, or_false, if_pos, if_neg, f_in_nI, Nat.reduceAdd, t39 hsb, ↓bs (r39_1 hsb), t40 hsb, l40 hsb]
theorem pen_two {sa sb : zS} (hsa : Sh sa) (hsb : Sh sb) {w x : Nat} (h6 : w < 6) (hX : f_X2_wayOf sa 1 (nI w) = some (some x)) (hL : LineR sa x w 40) (hB : ∀ j, 11 ≤ j → j < 53 → zM sb 40 j = zM sa 40 j) {n : Nat} (hn1 : 1 ≤ n) (hn : n ≤ 40) : ∃ s, s ≤ 3000 ∧ f_X2_penceOf sa 1 (nI w) (nI n) = some (nI s) ∧ f_X12_penceOf sb 39 (nI w) (nI n) = some (nI s) := by
  obtain ⟨k, v, sl, p1, p2, p3, p4, p5, p6, p7, p8, p9, p10, p11, p12, p13, p14, p15, p16⟩ := hL
  have m12 := (hB (11 + w) (by clear p16; omega) (by clear p16; omega)).trans p12
  have m13 := (hB (17 + w) (by clear p16; omega) (by clear p16; omega)).trans p13
  have m14 := (hB (23 + w) (by clear p16; omega) (by clear p16; omega)).trans p14
  clear p16
  have hk : k = 0 ∨ k = 1 ∨ k = 2 ∨ k = 3 ∨ k = 4 ∨ k = 5 ∨ k = 6 := by omega
  have b1 : n * v ≤ 40 * 9 := Nat.mul_le_mul hn p2
  refine ⟨if k = 3 ∨ k = 6 then n * v else 0, by split <;> omega, ?_, ?_⟩
  · rcases hk with rfl | rfl | rfl | rfl | rfl | rfl | rfl
    · replace p5 : zTg sa x = 14 := p5
      unfold f_X2_penceOf fv_Line_pence f_X4_pence f_X3_pence
      simp (disch := omega) only [↓bs (hX), p5, p10, pk_mul, List.mem_cons, List.not_mem_nil, or_true, ↓reduceIte, List.mem_singleton, Option.bind_some, if_true, if_false, zM_PM, zLn_PM, zTg_PM, zR_PM, ↓zb, ↓zo, ↓zl, n_lt0, n_le, n_lt, n_eq, n_eq0, n_gt0, n_le0, n_ge0, n_zin, n_nat, nI_add, and_self, true_or, false_or, or_false, if_pos, if_neg, f_in_nI, Nat.reduceAdd, t1 hsa]
    · replace p5 : zTg sa x = 20 := p5
      unfold f_X2_penceOf fv_Line_pence f_X4_pence f_X3_pence
      simp (disch := omega) only [↓bs (hX), p5, p10, pk_mul, List.mem_cons, List.not_mem_nil, or_true, ↓reduceIte, List.mem_singleton, Option.bind_some, if_true, if_false, zM_PM, zLn_PM, zTg_PM, zR_PM, ↓zb, ↓zo, ↓zl, n_lt0, n_le, n_lt, n_eq, n_eq0, n_gt0, n_le0, n_ge0, n_zin, n_nat, nI_add, and_self, true_or, false_or, or_false, if_pos, if_neg, f_in_nI, Nat.reduceAdd, t1 hsa]
    · replace p5 : zTg sa x = 10 := p5
      unfold f_X2_penceOf fv_Line_pence f_X4_pence f_X3_pence
      simp (disch := omega) only [↓bs (hX), p5, p10, pk_mul, List.mem_cons, List.not_mem_nil, or_true, ↓reduceIte, List.mem_singleton, Option.bind_some, if_true, if_false, zM_PM, zLn_PM, zTg_PM, zR_PM, ↓zb, ↓zo, ↓zl, n_lt0, n_le, n_lt, n_eq, n_eq0, n_gt0, n_le0, n_ge0, n_zin, n_nat, nI_add, and_self, true_or, false_or, or_false, if_pos, if_neg, f_in_nI, Nat.reduceAdd, t1 hsa]
    · replace p5 : zTg sa x = 13 := p5
      unfold f_X2_penceOf fv_Line_pence f_X4_pence f_X3_pence
      simp (disch := omega) only [↓bs (hX), p5, p10, pk_mul, List.mem_cons, List.not_mem_nil, or_true, ↓reduceIte, List.mem_singleton, Option.bind_some, if_true, if_false, zM_PM, zLn_PM, zTg_PM, zR_PM, ↓zb, ↓zo, ↓zl, n_lt0, n_le, n_lt, n_eq, n_eq0, n_gt0, n_le0, n_ge0, n_zin, n_nat, nI_add, and_self, true_or, false_or, or_false, if_pos, if_neg, f_in_nI, Nat.reduceAdd, t1 hsa]
    · replace p5 : zTg sa x = 19 := p5
      unfold f_X2_penceOf fv_Line_pence f_X4_pence f_X3_pence
      simp (disch := omega) only [↓bs (hX), p5, p10, pk_mul, List.mem_cons, List.not_mem_nil, or_true, ↓reduceIte, List.mem_singleton, Option.bind_some, if_true, if_false, zM_PM, zLn_PM, zTg_PM, zR_PM, ↓zb, ↓zo, ↓zl, n_lt0, n_le, n_lt, n_eq, n_eq0, n_gt0, n_le0, n_ge0, n_zin, n_nat, nI_add, and_self, true_or, false_or, or_false, if_pos, if_neg, f_in_nI, Nat.reduceAdd, t1 hsa]
    · replace p5 : zTg sa x = 11 := p5
      unfold f_X2_penceOf fv_Line_pence f_X4_pence f_X3_pence
      simp (disch := omega) only [↓bs (hX), p5, p10, pk_mul, List.mem_cons, List.not_mem_nil, or_true, ↓reduceIte, List.mem_singleton, Option.bind_some, if_true, if_false, zM_PM, zLn_PM, zTg_PM, zR_PM, ↓zb, ↓zo, ↓zl, n_lt0, n_le, n_lt, n_eq, n_eq0, n_gt0, n_le0, n_ge0, n_zin, n_nat, nI_add, and_self, true_or, false_or, or_false, if_pos, if_neg, f_in_nI, Nat.reduceAdd, t1 hsa]
    · replace p5 : zTg sa x = 17 := p5
      unfold f_X2_penceOf fv_Line_pence f_X4_pence f_X3_pence
      simp (disch := omega) only [↓bs (hX), p5, p10, pk_mul, List.mem_cons, List.not_mem_nil, or_true, ↓reduceIte, List.mem_singleton, Option.bind_some, if_true, if_false, zM_PM, zLn_PM, zTg_PM, zR_PM, ↓zb, ↓zo, ↓zl, n_lt0, n_le, n_lt, n_eq, n_eq0, n_gt0, n_le0, n_ge0, n_zin, n_nat, nI_add, and_self, true_or, false_or, or_false, if_pos, if_neg, f_in_nI, Nat.reduceAdd, t1 hsa]
  · unfold f_X12_penceOf f_X12_penceOf_27
    by_cases k3 : k = 3
    · simp (disch := omega) only [m12, m13, k3, pk_mul, ↓reduceIte, List.mem_singleton, Option.bind_some, if_true, if_false, zM_PM, zLn_PM, zTg_PM, zR_PM, ↓zb, ↓zo, ↓zl, n_lt0, n_le, n_lt, n_eq, n_eq0, n_gt0, n_le0, n_ge0, n_zin, n_nat, nI_add, and_self, true_or, false_or, or_false, if_pos, if_neg, f_in_nI, Nat.reduceAdd, t39 hsb, ↓bs (r39_1 hsb), t40 hsb, l40 hsb]
    · by_cases k6 : k = 6
      · simp (disch := omega) only [m12, m13, k6, pk_mul, or_true, ↓reduceIte, List.mem_singleton, Option.bind_some, if_true, if_false, zM_PM, zLn_PM, zTg_PM, zR_PM, ↓zb, ↓zo, ↓zl, n_lt0, n_le, n_lt, n_eq, n_eq0, n_gt0, n_le0, n_ge0, n_zin, n_nat, nI_add, and_self, true_or, false_or, or_false, if_pos, if_neg, f_in_nI, Nat.reduceAdd, t39 hsb, ↓bs (r39_1 hsb), t40 hsb, l40 hsb]
      · simp (disch := omega) only [m12, m13, k3, k6, pk_mul, ↓reduceIte, List.mem_singleton, Option.bind_some, if_true, if_false, zM_PM, zLn_PM, zTg_PM, zR_PM, ↓zb, ↓zo, ↓zl, n_lt0, n_le, n_lt, n_eq, n_eq0, n_gt0, n_le0, n_ge0, n_zin, n_nat, nI_add, and_self, true_or, false_or, or_false, if_pos, if_neg, f_in_nI, Nat.reduceAdd, t39 hsb, ↓bs (r39_1 hsb), t40 hsb, l40 hsb]
