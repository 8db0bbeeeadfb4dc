/-! seconds, pence, cost -/
def tenT : Nat → Nat
  | 0 => 0
  | i + 1 => tenT i + i / 10
theorem tenT_eq : ∀ n, n < 41 → (nI 10 * ((nI n / nI 10 * (nI n / nI 10 - nI 1)) / nI 2)) + ((nI n - nI n / nI 10 * nI 10) * (nI n / nI 10)) = nI (tenT n) ∧ tenT n ≤ 60 := by decide +kernel
theorem m_byHand {st : zS} (hs : Sh st) {w v sl n : Nat} (hw : w < 6) (p13 : zM st 40 (17 + w) = nI v) (p14 : zM st 40 (23 + w) = nI sl) (hn : n ≤ 40) (N : Nat) : ∀ k fuel i, i + k = n → k < fuel → f_X12_byHand_5 N st 39 (nI w) (nI n) fuel (nI (i * sl + tenT i * v)) (nI i) = some (nI (n * sl + tenT n * v)) := by
  intro k
  induction k with
  | zero =>
    intro fuel i h1 h2
    obtain ⟨fuel, rfl⟩ : ∃ m, fuel = m + 1 := ⟨fuel - 1, by omega⟩
    have hi : i = n := by omega
    subst hi
    unfold f_X12_byHand_5
    simp (disch := omega) only [↓reduceIte, List.mem_singleton, Option.bind_some, if_true, if_false, zM_PM, zLn_PM, zTg_PM, zR_PM, ↓zb, ↓zo, ↓zl, n_lt0, n_le, n_lt, n_eq, n_eq0, n_gt0, n_le0, n_ge0, n_zin, n_nat, nI_add, and_self, true_or, false_or, or_false, if_pos, if_neg, f_in_nI, Nat.reduceAdd]
  | succ k ih =>
    intro fuel i h1 h2
    obtain ⟨fuel, rfl⟩ : ∃ m, fuel = m + 1 := ⟨fuel - 1, by omega⟩
    have e2 := ih fuel (i + 1) (by omega) (by omega)
    clear ih
    have e3 : (i + 1) * sl + tenT (i + 1) * v = i * sl + tenT i * v + (sl + i / 10 * v) := by
      show (i + 1) * sl + (tenT i + i / 10) * v = _
      rw [Nat.add_mul, Nat.add_mul]; omega
    rw [e3] at e2
    unfold f_X12_byHand_5
    simp (disch := omega) only [p13, p14, pk_div, pk_mul, ↓reduceIte, List.mem_singleton, Option.bind_some, if_true, if_false, zM_PM, zLn_PM, zTg_PM, zR_PM, ↓zb, ↓zo, ↓zl, n_lt0, n_le, n_lt, n_eq, n_eq0, n_gt0, n_le0, n_ge0, n_zin, n_nat, nI_add, and_self, true_or, false_or, or_false, if_pos, if_neg, f_in_nI, Nat.reduceAdd, t39 hs, ↓bs (r39_1 hs), t40 hs, l40 hs]
    exact e2
theorem sec_eq {st : zS} (h : Inv st) {N : Nat} (hN : 3000 ≤ N) {w x : Nat} (hw : w < K st 40 0) (hx : zR st 2 w = some x) (hL : LineR st x w 40) {n : Nat} (hn1 : 1 ≤ n) (hn : n ≤ 40) : ∃ s, s ≤ 3000 ∧ f_X2_secondsOf st 1 (nI w) (nI n) = some (nI s) ∧ f_X12_secondsOf N st 39 (nI w) (nI n) = some (nI s) := by
  have hs := h.1
  have h6 := h.2.1.1.1.2
  obtain ⟨k, v, sl, p1, p2, p3, p4, p5, p6, p7, p8, p9, p10, p11, p12, p13, p14, p15, p16⟩ := hL
  have hk : k = 0 ∨ k = 1 ∨ k = 2 ∨ k = 3 ∨ k = 4 ∨ k = 5 ∨ k = 6 := by clear p16; omega
  rcases hk with rfl | rfl | rfl | rfl | rfl | rfl | rfl
  · clear p16
    replace p5 : zTg st x = 14 := p5
    have hl : 14 ∈ zLs := by decide
    obtain ⟨t1e, t2e⟩ := tenT_eq n (by omega)
    have b1 : n * sl ≤ 40 * 60 := Nat.mul_le_mul hn p4
    have b2 : tenT n * v ≤ 60 * 9 := Nat.mul_le_mul t2e p2
    refine ⟨n * sl + tenT n * v, by omega, ?_, ?_⟩
    · unfold f_X2_secondsOf fv_Line_seconds f_X4_seconds
      simp (disch := omega) only [↓zl, t1e, ↓bs (x_wayS h hw hx), p5, hl, p10, p11, pk_mul, ↓reduceIte, List.mem_singleton, Option.bind_some, if_true, if_false, zM_PM, zLn_PM, zTg_PM, zR_PM, ↓zb, ↓zo, ↓zl, n_lt0, n_le, n_lt, n_eq, n_eq0, n_gt0, n_le0, n_ge0, n_zin, n_nat, nI_add, and_self, true_or, false_or, or_false, if_pos, if_neg, f_in_nI, Nat.reduceAdd, t1 hs]
    · unfold f_X12_secondsOf f_X12_byHand
      have e := m_byHand hs (w := w) (by omega) p13 p14 hn N n N 0 (by omega) (by omega)
      rw [show 0 * sl + tenT 0 * v = 0 by simp [tenT]] at e
      simp (disch := omega) only [p12, ↓bs e, ↓reduceIte, List.mem_singleton, Option.bind_some, if_true, if_false, zM_PM, zLn_PM, zTg_PM, zR_PM, ↓zb, ↓zo, ↓zl, n_lt0, n_le, n_lt, n_eq, n_eq0, n_gt0, n_le0, n_ge0, n_zin, n_nat, nI_add, and_self, true_or, false_or, or_false, if_pos, if_neg, f_in_nI, Nat.reduceAdd, t39 hs, ↓bs (r39_1 hs), t40 hs, l40 hs]
  · clear p16
    replace p5 : zTg st x = 20 := p5
    have b1 : n / 2 * (sl + v) ≤ 20 * 69 := Nat.mul_le_mul (by omega) (by omega)
    have b2 : (n - n / 2 * 2) * sl ≤ 1 * 60 := Nat.mul_le_mul (by omega) p4
    refine ⟨n / 2 * (sl + v) + (n - n / 2 * 2) * sl, by omega, ?_, ?_⟩
    · unfold f_X2_secondsOf fv_Line_seconds f_X10_seconds
      simp (disch := omega) only [↓bs (x_wayS h hw hx), p5, p10, p11, pk_mul, pk_div, pk_sub, List.mem_cons, List.not_mem_nil, ↓reduceIte, List.mem_singleton, Option.bind_some, if_true, if_false, zM_PM, zLn_PM, zTg_PM, zR_PM, ↓zb, ↓zo, ↓zl, n_lt0, n_le, n_lt, n_eq, n_eq0, n_gt0, n_le0, n_ge0, n_zin, n_nat, nI_add, and_self, true_or, false_or, or_false, if_pos, if_neg, f_in_nI, Nat.reduceAdd, t1 hs]
    · unfold f_X12_secondsOf f_X12_twins
      simp (disch := omega) only [p12, p13, p14, pk_mul, pk_div, pk_sub, ↓reduceIte, List.mem_singleton, Option.bind_some, if_true, if_false, zM_PM, zLn_PM, zTg_PM, zR_PM, ↓zb, ↓zo, ↓zl, n_lt0, n_le, n_lt, n_eq, n_eq0, n_gt0, n_le0, n_ge0, n_zin, n_nat, nI_add, and_self, true_or, false_or, or_false, if_pos, if_neg, f_in_nI, Nat.reduceAdd, t39 hs, ↓bs (r39_1 hs), t40 hs, l40 hs]
  · clear p16
    replace p5 : zTg st x = 10 := p5
    have b1 : n * (sl / 2) ≤ 40 * 30 := Nat.mul_le_mul (by omega) (by omega)
    refine ⟨n * (sl / 2) + v, by omega, ?_, ?_⟩
    · unfold f_X2_secondsOf fv_Line_seconds f_X0_seconds
      simp (disch := omega) only [↓bs (x_wayS h hw hx), p5, p10, p11, pk_mul, pk_div, pk_sub, List.mem_cons, List.not_mem_nil, ↓reduceIte, List.mem_singleton, Option.bind_some, if_true, if_false, zM_PM, zLn_PM, zTg_PM, zR_PM, ↓zb, ↓zo, ↓zl, n_lt0, n_le, n_lt, n_eq, n_eq0, n_gt0, n_le0, n_ge0, n_zin, n_nat, nI_add, and_self, true_or, false_or, or_false, if_pos, if_neg, f_in_nI, Nat.reduceAdd, t1 hs]
    · unfold f_X12_secondsOf f_X12_columns
      simp (disch := omega) only [p12, p13, p14, pk_mul, pk_div, pk_sub, ↓reduceIte, List.mem_singleton, Option.bind_some, if_true, if_false, zM_PM, zLn_PM, zTg_PM, zR_PM, ↓zb, ↓zo, ↓zl, n_lt0, n_le, n_lt, n_eq, n_eq0, n_gt0, n_le0, n_ge0, n_zin, n_nat, nI_add, and_self, true_or, false_or, or_false, if_pos, if_neg, f_in_nI, Nat.reduceAdd, t39 hs, ↓bs (r39_1 hs), t40 hs, l40 hs]
  · clear p16
    replace p5 : zTg st x = 13 := p5
    refine ⟨0, by omega, ?_, ?_⟩
    · unfold f_X2_secondsOf fv_Line_seconds f_X3_seconds
      simp (disch := omega) only [↓bs (x_wayS h hw hx), p5, ↓reduceIte, List.mem_singleton, Option.bind_some, if_true, if_false, zM_PM, zLn_PM, zTg_PM, zR_PM, ↓zb, ↓zo, ↓zl, n_lt0, n_le, n_lt, n_eq, n_eq0, n_gt0, n_le0, n_ge0, n_zin, n_nat, nI_add, and_self, true_or, false_or, or_false, if_pos, if_neg, f_in_nI, Nat.reduceAdd, t1 hs]
    · unfold f_X12_secondsOf
      simp (disch := omega) only [p12, ↓reduceIte, List.mem_singleton, Option.bind_some, if_true, if_false, zM_PM, zLn_PM, zTg_PM, zR_PM, ↓zb, ↓zo, ↓zl, n_lt0, n_le, n_lt, n_eq, n_eq0, n_gt0, n_le0, n_ge0, n_zin, n_nat, nI_add, and_self, true_or, false_or, or_false, if_pos, if_neg, f_in_nI, Nat.reduceAdd, t39 hs, ↓bs (r39_1 hs), t40 hs, l40 hs]
  · clear p16
    replace p5 : zTg st x = 19 := p5
    have hl : 19 ∈ zLs := by decide
    have b1 : n / 3 * (sl + 2 * v) ≤ 13 * 78 := Nat.mul_le_mul (by omega) (by omega)
    have b2 : (n - n / 3 * 3) / 2 * (sl + v) ≤ 1 * 69 := Nat.mul_le_mul (by omega) (by omega)
    have b3 : ((n - n / 3 * 3) - (n - n / 3 * 3) / 2 * 2) * sl ≤ 1 * 60 := Nat.mul_le_mul (by omega) p4
    refine ⟨n / 3 * (sl + 2 * v) + ((n - n / 3 * 3) / 2 * (sl + v) + ((n - n / 3 * 3) - (n - n / 3 * 3) / 2 * 2) * sl), by omega, ?_, ?_⟩
    · unfold f_X2_secondsOf fv_Line_seconds f_X9_seconds f_X10_seconds
      simp (disch := omega) only [↓bs (x_wayS h hw hx), p5, hl, p10, p11, pk_mul, pk_div, pk_sub, List.mem_cons, List.not_mem_nil, or_true, ↓reduceIte, List.mem_singleton, Option.bind_some, if_true, if_false, zM_PM, zLn_PM, zTg_PM, zR_PM, ↓zb, ↓zo, ↓zl, n_lt0, n_le, n_lt, n_eq, n_eq0, n_gt0, n_le0, n_ge0, n_zin, n_nat, nI_add, and_self, true_or, false_or, or_false, if_pos, if_neg, f_in_nI, Nat.reduceAdd, t1 hs]
    · unfold f_X12_secondsOf f_X12_twins
      simp (disch := omega) only [p12, p13, p14, pk_mul, pk_div, pk_sub, ↓reduceIte, List.mem_singleton, Option.bind_some, if_true, if_false, zM_PM, zLn_PM, zTg_PM, zR_PM, ↓zb, ↓zo, ↓zl, n_lt0, n_le, n_lt, n_eq, n_eq0, n_gt0, n_le0, n_ge0, n_zin, n_nat, nI_add, and_self, true_or, false_or, or_false, if_pos, if_neg, f_in_nI, Nat.reduceAdd, t39 hs, ↓bs (r39_1 hs), t40 hs, l40 hs]
  · clear p16
    replace p5 : zTg st x = 11 := p5
    have hl : 11 ∈ zLs := by decide
    have b1 : (n + 1) / 2 * (sl / 2) ≤ 20 * 30 := Nat.mul_le_mul (by omega) (by omega)
    refine ⟨(n + 1) / 2 * (sl / 2) + v + n / 2, by omega, ?_, ?_⟩
    · unfold f_X2_secondsOf fv_Line_seconds f_X1_seconds f_X0_seconds
      simp (disch := omega) only [↓bs (x_wayS h hw hx), p5, hl, p10, p11, pk_mul, pk_div, pk_sub, List.mem_cons, List.not_mem_nil, or_true, ↓reduceIte, List.mem_singleton, Option.bind_some, if_true, if_false, zM_PM, zLn_PM, zTg_PM, zR_PM, ↓zb, ↓zo, ↓zl, n_lt0, n_le, n_lt, n_eq, n_eq0, n_gt0, n_le0, n_ge0, n_zin, n_nat, nI_add, and_self, true_or, false_or, or_false, if_pos, if_neg, f_in_nI, Nat.reduceAdd, t1 hs]
    · unfold f_X12_secondsOf f_X12_columns
      simp (disch := omega) only [p12, p13, p14, pk_mul, pk_div, pk_sub, ↓reduceIte, List.mem_singleton, Option.bind_some, if_true, if_false, zM_PM, zLn_PM, zTg_PM, zR_PM, ↓zb, ↓zo, ↓zl, n_lt0, n_le, n_lt, n_eq, n_eq0, n_gt0, n_le0, n_ge0, n_zin, n_nat, nI_add, and_self, true_or, false_or, or_false, if_pos, if_neg, f_in_nI, Nat.reduceAdd, t39 hs, ↓bs (r39_1 hs), t40 hs, l40 hs]
      congr 2
      omega
  · replace p5 : zTg st x = 17 := p5
    obtain ⟨r, r1, r2, r3, r4, r5, r6⟩ := p16 rfl
    clear p16
    obtain ⟨d, d1, d2⟩ := p15 (n - n / 4 * 4) (by omega)
    have r7 := r6 (n - n / 4 * 4) (by omega)
    rw [d2] at r7
    refine ⟨d, by omega, ?_, ?_⟩
    · unfold f_X2_secondsOf fv_Line_seconds f_X7_seconds f_X7_rowAt
      simp (disch := omega) only [↓bs (x_wayS h hw hx), p5, ↓bs r1, r4, r5, r7, pk_mul, pk_div, pk_sub, ↓reduceIte, List.mem_singleton, Option.bind_some, if_true, if_false, zM_PM, zLn_PM, zTg_PM, zR_PM, ↓zb, ↓zo, ↓zl, n_lt0, n_le, n_lt, n_eq, n_eq0, n_gt0, n_le0, n_ge0, n_zin, n_nat, nI_add, and_self, true_or, false_or, or_false, if_pos, if_neg, f_in_nI, Nat.reduceAdd, t1 hs]
    · unfold f_X12_secondsOf
      simp (disch := omega) only [p12, d2, pk_mul, pk_div, pk_sub, ↓reduceIte, List.mem_singleton, Option.bind_some, if_true, if_false, zM_PM, zLn_PM, zTg_PM, zR_PM, ↓zb, ↓zo, ↓zl, n_lt0, n_le, n_lt, n_eq, n_eq0, n_gt0, n_le0, n_ge0, n_zin, n_nat, nI_add, and_self, true_or, false_or, or_false, if_pos, if_neg, f_in_nI, Nat.reduceAdd, t39 hs, ↓bs (r39_1 hs), t40 hs, l40 hs]
theorem pen_eq {st : zS} (h : Inv st) {w x : Nat} (hw : w < K st 40 0) (hx : zR st 2 w = some x) (hL : LineR st x w 40) {n : Nat} (hn1 : 1 ≤ n) (hn : n ≤ 40) : ∃ s, s ≤ 3000 ∧ f_X2_penceOf st 1 (nI w) (nI n) = some (nI s) ∧ f_X12_penceOf st 39 (nI w) (nI n) = some (nI s) := by
  have hs := h.1
  have h6 := h.2.1.1.1.2
  obtain ⟨k, v, sl, p1, p2, p3, p4, p5, p6, p7, p8, p9, p10, p11, p12, p13, p14, p15, p16⟩ := hL
  clear p16
  have hk : k = 0 ∨ k = 1 ∨ k = 2 ∨ k = 3 ∨ k = 4 ∨ k = 5 ∨ k = 6 := by omega
  have b1 : n * v ≤ 40 * 9 := Nat.mul_le_mul hn p2
  refine ⟨if k = 3 ∨ k = 6 then n * v else 0, by split <;> omega, ?_, ?_⟩
  · rcases hk with rfl | rfl | rfl | rfl | rfl | rfl | rfl
    · replace p5 : zTg st x = 14 := p5
      unfold f_X2_penceOf fv_Line_pence f_X4_pence f_X3_pence
      simp (disch := omega) only [↓bs (x_wayS h hw hx), p5, p10, pk_mul, List.mem_cons, List.not_mem_nil, or_true, ↓reduceIte, List.mem_singleton, Option.bind_some, if_true, if_false, zM_PM, zLn_PM, zTg_PM, zR_PM, ↓zb, ↓zo, ↓zl, n_lt0, n_le, n_lt, n_eq, n_eq0, n_gt0, n_le0, n_ge0, n_zin, n_nat, nI_add, and_self, true_or, false_or, or_false, if_pos, if_neg, f_in_nI, Nat.reduceAdd, t1 hs]
    · replace p5 : zTg st x = 20 := p5
      unfold f_X2_penceOf fv_Line_pence f_X4_pence f_X3_pence
      simp (disch := omega) only [↓bs (x_wayS h hw hx), p5, p10, pk_mul, List.mem_cons, List.not_mem_nil, or_true, ↓reduceIte, List.mem_singleton, Option.bind_some, if_true, if_false, zM_PM, zLn_PM, zTg_PM, zR_PM, ↓zb, ↓zo, ↓zl, n_lt0, n_le, n_lt, n_eq, n_eq0, n_gt0, n_le0, n_ge0, n_zin, n_nat, nI_add, and_self, true_or, false_or, or_false, if_pos, if_neg, f_in_nI, Nat.reduceAdd, t1 hs]
    · replace p5 : zTg st x = 10 := p5
      unfold f_X2_penceOf fv_Line_pence f_X4_pence f_X3_pence
      simp (disch := omega) only [↓bs (x_wayS h hw hx), p5, p10, pk_mul, List.mem_cons, List.not_mem_nil, or_true, ↓reduceIte, List.mem_singleton, Option.bind_some, if_true, if_false, zM_PM, zLn_PM, zTg_PM, zR_PM, ↓zb, ↓zo, ↓zl, n_lt0, n_le, n_lt, n_eq, n_eq0, n_gt0, n_le0, n_ge0, n_zin, n_nat, nI_add, and_self, true_or, false_or, or_false, if_pos, if_neg, f_in_nI, Nat.reduceAdd, t1 hs]
    · replace p5 : zTg st x = 13 := p5
      unfold f_X2_penceOf fv_Line_pence f_X4_pence f_X3_pence
      simp (disch := omega) only [↓bs (x_wayS h hw hx), p5, p10, pk_mul, List.mem_cons, List.not_mem_nil, or_true, ↓reduceIte, List.mem_singleton, Option.bind_some, if_true, if_false, zM_PM, zLn_PM, zTg_PM, zR_PM, ↓zb, ↓zo, ↓zl, n_lt0, n_le, n_lt, n_eq, n_eq0, n_gt0, n_le0, n_ge0, n_zin, n_nat, nI_add, and_self, true_or, false_or, or_false, if_pos, if_neg, f_in_nI, Nat.reduceAdd, t1 hs]
    · replace p5 : zTg st x = 19 := p5
      unfold f_X2_penceOf fv_Line_pence f_X4_pence f_X3_pence
      simp (disch := omega) only [↓bs (x_wayS h hw hx), p5, p10, pk_mul, List.mem_cons, List.not_mem_nil, or_true, ↓reduceIte, List.mem_singleton, Option.bind_some, if_true, if_false, zM_PM, zLn_PM, zTg_PM, zR_PM, ↓zb, ↓zo, ↓zl, n_lt0, n_le, n_lt, n_eq, n_eq0, n_gt0, n_le0, n_ge0, n_zin, n_nat, nI_add, and_self, true_or, false_or, or_false, if_pos, if_neg, f_in_nI, Nat.reduceAdd, t1 hs]
    · replace p5 : zTg st x = 11 := p5
      unfold f_X2_penceOf fv_Line_pence f_X4_pence f_X3_pence
      simp (disch := omega) only [↓bs (x_wayS h hw hx), p5, p10, pk_mul, List.mem_cons, List.not_mem_nil, or_true, ↓reduceIte, List.mem_singleton, Option.bind_some, if_true, if_false, zM_PM, zLn_PM, zTg_PM, zR_PM, ↓zb, ↓zo, ↓zl, n_lt0, n_le, n_lt, n_eq, n_eq0, n_gt0, n_le0, n_ge0, n_zin, n_nat, nI_add, and_self, true_or, false_or, or_false, if_pos, if_neg, f_in_nI, Nat.reduceAdd, t1 hs]
    · replace p5 : zTg st x = 17 := p5
      unfold f_X2_penceOf fv_Line_pence f_X4_pence f_X3_pence
      simp (disch := omega) only [↓bs (x_wayS h hw hx), p5, p10, pk_mul, List.mem_cons, List.not_mem_nil, or_true, ↓reduceIte, List.mem_singleton, Option.bind_some, if_true, if_false, zM_PM, zLn_PM, zTg_PM, zR_PM, ↓zb, ↓zo, ↓zl, n_lt0, n_le, n_lt, n_eq, n_eq0, n_gt0, n_le0, n_ge0, n_zin, n_nat, nI_add, and_self, true_or, false_or, or_false, if_pos, if_neg, f_in_nI, Nat.reduceAdd, t1 hs]
  · unfold f_X12_penceOf f_X12_penceOf_27
    by_cases k3 : k = 3
    · simp (disch := omega) only [p12, p13, k3, pk_mul, ↓reduceIte, List.mem_singleton, Option.bind_some, if_true, if_false, zM_PM, zLn_PM, zTg_PM, zR_PM, ↓zb, ↓zo, ↓zl, n_lt0, n_le, n_lt, n_eq, n_eq0, n_gt0, n_le0, n_ge0, n_zin, n_nat, nI_add, and_self, true_or, false_or, or_false, if_pos, if_neg, f_in_nI, Nat.reduceAdd, t39 hs, ↓bs (r39_1 hs), t40 hs, l40 hs]
    · by_cases k6 : k = 6
      · simp (disch := omega) only [p12, p13, k6, pk_mul, or_true, ↓reduceIte, List.mem_singleton, Option.bind_some, if_true, if_false, zM_PM, zLn_PM, zTg_PM, zR_PM, ↓zb, ↓zo, ↓zl, n_lt0, n_le, n_lt, n_eq, n_eq0, n_gt0, n_le0, n_ge0, n_zin, n_nat, nI_add, and_self, true_or, false_or, or_false, if_pos, if_neg, f_in_nI, Nat.reduceAdd, t39 hs, ↓bs (r39_1 hs), t40 hs, l40 hs]
      · simp (disch := omega) only [p12, p13, k3, k6, pk_mul, ↓reduceIte, List.mem_singleton, Option.bind_some, if_true, if_false, zM_PM, zLn_PM, zTg_PM, zR_PM, ↓zb, ↓zo, ↓zl, n_lt0, n_le, n_lt, n_eq, n_eq0, n_gt0, n_le0, n_ge0, n_zin, n_nat, nI_add, and_self, true_or, false_or, or_false, if_pos, if_neg, f_in_nI, Nat.reduceAdd, t39 hs, ↓bs (r39_1 hs), t40 hs, l40 hs]
theorem f_isPt {a : Int32} : f_X11_isPart a = some (if a = 0 ∨ a = nI 1 then nI 1 else nI 0) ∧ f_X12_in a (nI 0) (nI 1) = some (if a = 0 ∨ a = nI 1 then nI 1 else nI 0) := by
  rcases i_neg a with z | ⟨j, hj, rfl⟩
  · have e1 : ¬ (a = 0 ∨ a = nI 1) := by rw [m_eq0 z, m_eq z (by omega)]; simp
    constructor
    · unfold f_X11_isPart
      rw [if_neg (fun q => e1 (Or.inl q)), if_neg (fun q => e1 (Or.inr q)), if_neg e1]
    · rw [f_in_neg z 0 1 (by omega), if_neg e1]
  · constructor
    · unfold f_X11_isPart
      by_cases h0 : j = 0
      · simp (disch := omega) only [h0, ↓reduceIte, List.mem_singleton, Option.bind_some, if_true, if_false, zM_PM, zLn_PM, zTg_PM, zR_PM, ↓zb, ↓zo, ↓zl, n_lt0, n_le, n_lt, n_eq, n_eq0, n_gt0, n_le0, n_ge0, n_zin, n_nat, nI_add, and_self, true_or, false_or, or_false, if_pos, if_neg, f_in_nI, Nat.reduceAdd]
      · by_cases h1 : j = 1
        · simp (disch := omega) only [h1, or_true, ↓reduceIte, List.mem_singleton, Option.bind_some, if_true, if_false, zM_PM, zLn_PM, zTg_PM, zR_PM, ↓zb, ↓zo, ↓zl, n_lt0, n_le, n_lt, n_eq, n_eq0, n_gt0, n_le0, n_ge0, n_zin, n_nat, nI_add, and_self, true_or, false_or, or_false, if_pos, if_neg, f_in_nI, Nat.reduceAdd]
        · simp (disch := omega) only [h0, h1, ↓reduceIte, List.mem_singleton, Option.bind_some, if_true, if_false, zM_PM, zLn_PM, zTg_PM, zR_PM, ↓zb, ↓zo, ↓zl, n_lt0, n_le, n_lt, n_eq, n_eq0, n_gt0, n_le0, n_ge0, n_zin, n_nat, nI_add, and_self, true_or, false_or, or_false, if_pos, if_neg, f_in_nI, Nat.reduceAdd]
    · rw [f_in_nI hj (by omega) (by omega)]
      by_cases h0 : j ≤ 1
      · rw [if_pos (by omega), if_pos (by rw [n_eq0 hj, n_eq hj (by omega)]; omega)]
      · rw [if_neg (by omega), if_neg (by rw [n_eq0 hj, n_eq hj (by omega)]; omega)]
theorem f_isLen {a : Int32} : (∃ n, 1 ≤ n ∧ n ≤ 40 ∧ a = nI n ∧ f_X11_isLength a = some (nI 1) ∧ f_X12_in a (nI 1) (nI 40) = some (nI 1)) ∨ (f_X11_isLength a = some (nI 0) ∧ f_X12_in a (nI 1) (nI 40) = some (nI 0)) := by
  rcases i_neg a with z | ⟨j, hj, rfl⟩
  · refine Or.inr ⟨?_, f_in_neg z 1 40 (by omega)⟩
    unfold f_X11_isLength
    simp (disch := omega) only [m_gt z, if_true]
  · by_cases h : 1 ≤ j ∧ j ≤ 40
    · refine Or.inl ⟨j, h.1, h.2, rfl, ?_, by rw [f_in_nI hj (by omega) (by omega), if_pos h]⟩
      unfold f_X11_isLength
      simp (disch := omega) only [↓reduceIte, List.mem_singleton, Option.bind_some, if_true, if_false, zM_PM, zLn_PM, zTg_PM, zR_PM, ↓zb, ↓zo, ↓zl, n_lt0, n_le, n_lt, n_eq, n_eq0, n_gt0, n_le0, n_ge0, n_zin, n_nat, nI_add, and_self, true_or, false_or, or_false, if_pos, if_neg, f_in_nI, Nat.reduceAdd]
    · refine Or.inr ⟨?_, by rw [f_in_nI hj (by omega) (by omega), if_neg h]⟩
      unfold f_X11_isLength
      by_cases h1 : j < 1 <;> simp (disch := omega) only [↓reduceIte, List.mem_singleton, Option.bind_some, if_true, if_false, zM_PM, zLn_PM, zTg_PM, zR_PM, ↓zb, ↓zo, ↓zl, n_lt0, n_le, n_lt, n_eq, n_eq0, n_gt0, n_le0, n_ge0, n_zin, n_nat, nI_add, and_self, true_or, false_or, or_false, if_pos, if_neg, f_in_nI, Nat.reduceAdd]
theorem s_cost {st : zS} (h : Inv st) {N : Nat} (hN : 3000 ≤ N) (a1 a2 a3 : Int32) : ∃ (r : Int32) (st1 st2 : zS), (f_X11_cost st 0 a1 a2 a3 = some r ∧ st1 = st) ∧ (f_X12_cost N st1 39 a1 a2 a3 = some r ∧ st2 = st1) ∧ Sh st1 ∧ Inv st2 := by
  have hs := h.1
  rcases way_cases h a1 with ha | ⟨w, x, hw, rfl, hx, hL⟩
  · refine ⟨-1, st, st, ⟨?_, rfl⟩, ⟨?_, rfl⟩, hs, h⟩
    · unfold f_X11_cost
      simp (disch := omega) only [↓bs (x_wayN h ha), ↓reduceIte, List.mem_singleton, Option.bind_some, if_true, if_false, zM_PM, zLn_PM, zTg_PM, zR_PM, ↓zb, ↓zo, ↓zl, n_lt0, n_le, n_lt, n_eq, n_eq0, n_gt0, n_le0, n_ge0, n_zin, n_nat, nI_add, and_self, true_or, false_or, or_false, if_pos, if_neg, f_in_nI, Nat.reduceAdd, t0 hs, ↓bs (r0_0 hs), t1 hs]
    · unfold f_X12_cost
      simp (disch := omega) only [↓bs (m_wayN h ha), ↓reduceIte, List.mem_singleton, Option.bind_some, if_true, if_false, zM_PM, zLn_PM, zTg_PM, zR_PM, ↓zb, ↓zo, ↓zl, n_lt0, n_le, n_lt, n_eq, n_eq0, n_gt0, n_le0, n_ge0, n_zin, n_nat, nI_add, and_self, true_or, false_or, or_false, if_pos, if_neg, f_in_nI, Nat.reduceAdd, t39 hs]
  · obtain ⟨g1, g2⟩ := f_isPt (a := a3)
    by_cases hp : a3 = 0 ∨ a3 = nI 1
    · rw [if_pos hp] at g1 g2
      rcases f_isLen (a := a2) with ⟨n, n1, n2, rfl, l1, l2⟩ | ⟨l1, l2⟩
      · obtain ⟨s, s1, s2, s3⟩ := sec_eq h hN hw hx hL n1 n2
        obtain ⟨q, q1, q2, q3⟩ := pen_eq h hw hx hL n1 n2
        by_cases h0 : a3 = 0
        · refine ⟨nI s, st, st, ⟨?_, rfl⟩, ⟨?_, rfl⟩, hs, h⟩
          · unfold f_X11_cost
            simp (disch := omega) only [↓bs (x_wayS h hw hx), ↓bs g1, ↓bs l1, ↓bs s2, h0, ↓reduceIte, List.mem_singleton, Option.bind_some, if_true, if_false, zM_PM, zLn_PM, zTg_PM, zR_PM, ↓zb, ↓zo, ↓zl, n_lt0, n_le, n_lt, n_eq, n_eq0, n_gt0, n_le0, n_ge0, n_zin, n_nat, nI_add, and_self, true_or, false_or, or_false, if_pos, if_neg, f_in_nI, Nat.reduceAdd, t0 hs, ↓bs (r0_0 hs), t1 hs]
          · unfold f_X12_cost
            simp (disch := omega) only [↓bs (m_wayS h hw), ↓bs g2, ↓bs l2, ↓bs s3, h0, ↓reduceIte, List.mem_singleton, Option.bind_some, if_true, if_false, zM_PM, zLn_PM, zTg_PM, zR_PM, ↓zb, ↓zo, ↓zl, n_lt0, n_le, n_lt, n_eq, n_eq0, n_gt0, n_le0, n_ge0, n_zin, n_nat, nI_add, and_self, true_or, false_or, or_false, if_pos, if_neg, f_in_nI, Nat.reduceAdd, t39 hs]
        · refine ⟨nI q, st, st, ⟨?_, rfl⟩, ⟨?_, rfl⟩, hs, h⟩
          · unfold f_X11_cost
            simp (disch := omega) only [↓bs (x_wayS h hw hx), ↓bs g1, ↓bs l1, ↓bs q2, h0, ↓reduceIte, List.mem_singleton, Option.bind_some, if_true, if_false, zM_PM, zLn_PM, zTg_PM, zR_PM, ↓zb, ↓zo, ↓zl, n_lt0, n_le, n_lt, n_eq, n_eq0, n_gt0, n_le0, n_ge0, n_zin, n_nat, nI_add, and_self, true_or, false_or, or_false, if_pos, if_neg, f_in_nI, Nat.reduceAdd, t0 hs, ↓bs (r0_0 hs), t1 hs]
          · unfold f_X12_cost
            simp (disch := omega) only [↓bs (m_wayS h hw), ↓bs g2, ↓bs l2, ↓bs q3, h0, ↓reduceIte, List.mem_singleton, Option.bind_some, if_true, if_false, zM_PM, zLn_PM, zTg_PM, zR_PM, ↓zb, ↓zo, ↓zl, n_lt0, n_le, n_lt, n_eq, n_eq0, n_gt0, n_le0, n_ge0, n_zin, n_nat, nI_add, and_self, true_or, false_or, or_false, if_pos, if_neg, f_in_nI, Nat.reduceAdd, t39 hs]
      · refine ⟨-2, st, st, ⟨?_, rfl⟩, ⟨?_, rfl⟩, hs, h⟩
        · unfold f_X11_cost
          simp (disch := omega) only [↓bs (x_wayS h hw hx), ↓bs g1, ↓bs l1, ↓reduceIte, List.mem_singleton, Option.bind_some, if_true, if_false, zM_PM, zLn_PM, zTg_PM, zR_PM, ↓zb, ↓zo, ↓zl, n_lt0, n_le, n_lt, n_eq, n_eq0, n_gt0, n_le0, n_ge0, n_zin, n_nat, nI_add, and_self, true_or, false_or, or_false, if_pos, if_neg, f_in_nI, Nat.reduceAdd, t0 hs, ↓bs (r0_0 hs), t1 hs]
        · unfold f_X12_cost
          simp (disch := omega) only [↓bs (m_wayS h hw), ↓bs g2, ↓bs l2, ↓reduceIte, List.mem_singleton, Option.bind_some, if_true, if_false, zM_PM, zLn_PM, zTg_PM, zR_PM, ↓zb, ↓zo, ↓zl, n_lt0, n_le, n_lt, n_eq, n_eq0, n_gt0, n_le0, n_ge0, n_zin, n_nat, nI_add, and_self, true_or, false_or, or_false, if_pos, if_neg, f_in_nI, Nat.reduceAdd, t39 hs]
    · rw [if_neg hp] at g1 g2
      refine ⟨-1, st, st, ⟨?_, rfl⟩, ⟨?_, rfl⟩, hs, h⟩
      · unfold f_X11_cost
        simp (disch := omega) only [↓bs (x_wayS h hw hx), ↓bs g1, ↓reduceIte, List.mem_singleton, Option.bind_some, if_true, if_false, zM_PM, zLn_PM, zTg_PM, zR_PM, ↓zb, ↓zo, ↓zl, n_lt0, n_le, n_lt, n_eq, n_eq0, n_gt0, n_le0, n_ge0, n_zin, n_nat, nI_add, and_self, true_or, false_or, or_false, if_pos, if_neg, f_in_nI, Nat.reduceAdd, t0 hs, ↓bs (r0_0 hs), t1 hs]
      · unfold f_X12_cost
        simp (disch := omega) only [↓bs (m_wayS h hw), ↓bs g2, ↓reduceIte, List.mem_singleton, Option.bind_some, if_true, if_false, zM_PM, zLn_PM, zTg_PM, zR_PM, ↓zb, ↓zo, ↓zl, n_lt0, n_le, n_lt, n_eq, n_eq0, n_gt0, n_le0, n_ge0, n_zin, n_nat, nI_add, and_self, true_or, false_or, or_false, if_pos, if_neg, f_in_nI, Nat.reduceAdd, t39 hs]
