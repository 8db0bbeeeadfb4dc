/-! seconds, pence, cost -/
def tenT : Nat → Nat
  | 0 => 0
  | i + 1 => tenT i + i / 10
theorem tenT_eq : ∀ n, n < 41 → (nI 10 * ((nI n / nI 10 * (nI n / nI 10 - nI 1)) / nI 2)) + ((nI n - nI n / nI 10 * nI 10) * (nI n / nI 10)) = nI (tenT n) ∧ tenT n ≤ 60 := by decide +kernel
theorem m_byHand {st : zS} (hs : Sh st) {w v sl n : Nat} (hw : w < 6) (p13 : zM st 40 (17 + w) = nI v) (p14 : zM st 40 (23 + w) = nI sl) (hn : n ≤ 40) (N : Nat) : ∀ k fuel i, i + k = n → k < fuel → f_X12_byHand_5 N st 39 (nI w) (nI n) fuel (nI (i * sl + tenT i * v)) (nI i) = some (nI (n * sl + tenT n * v)) := by
  intro k
  induction k with
  | zero =>
    intro fuel i h1 h2
    obtain ⟨fuel, rfl⟩ : ∃ m, fuel = m + 1 := ⟨fuel - 1, by omega⟩
    have hi : i = n := by omega
    subst hi
    unfold f_X12_byHand_5
    simp (disch := omega) only [↓reduceIte, List.mem_singleton, Option.bind_some, if_true, if_false, zM_PM, zLn_PM, zTg_PM, zR_PM, ↓zb, ↓zo, ↓zl, n_lt0, n_le, n_lt, n_eq, n_eq0, n_gt0, n_le0, n_ge0, n_zin, n_nat, nI_add, and_self, true_or, false_or, or_false, if_pos, if_neg, f_in_nI, Nat.reduceAdd]
  | succ k ih =>
    intro fuel i h1 h2
    obtain ⟨fuel, rfl⟩ : ∃ m, fuel = m + 1 := ⟨fuel - 1, by omega⟩
    have e2 := ih fuel (i + 1) (by omega) (by omega)
    clear ih
    have e3 : (i + 1) * sl + tenT (i + 1) * v = i * sl + tenT i * v + (sl + i / 10 * v) := by
      show (i + 1) * sl + (tenT i + i / 10) * v = _
      rw [Nat.add_mul, Nat.add_mul]; omega
    rw [e3] at e2
    unfold f_X12_byHand_5
    simp (disch := omega) only [p13, p14, pk_div, pk_mul, ↓reduceIte, List.mem_singleton, Option.bind_some, if_true, if_false, zM_PM, zLn_PM, zTg_PM, zR_PM, ↓zb, ↓zo, ↓zl, n_lt0, n_le, n_lt, n_eq, n_eq0, n_gt0, n_le0, n_ge0, n_zin, n_nat, nI_add, and_self, true_or, false_or, or_false, if_pos, if_neg, f_in_nI, Nat.reduceAdd, t39 hs, ↓bs (r39_1 hs), t40 hs, l40 hs]
    exact e2
theorem sec_eq {st : zS} (h : Inv st) {N : Nat} (hN : 3000 ≤ N) {w x : Nat} (hw : w < K st 40 0) (hx : zR st 2 w = some x) (hL : LineR st x w 40) {n : Nat} (hn1 : 1 ≤ n) (hn : n ≤ 40) : ∃ s, s ≤ 3000 ∧ f_X2_secondsOf st 1 (nI w) (nI n) = some (nI s) ∧ f_X12_secondsOf N st 39 (nI w) (nI n) = some (nI s) := by
  have hs := h.1
  have h6 := h.2.1.1.1.2
  obtain ⟨k, v, sl, p1, p2, p3, p4, p5, p6, p7, p8, p9, p10, p11, p12, p13, p14, p15, p16⟩ := hL
  have hk : k = 0 ∨ k = 1 ∨ k = 2 ∨ k = 3 ∨ k = 4 ∨ k = 5 ∨ k = 6 := by clear p16; omega
  rcases hk with rfl | rfl | rfl | rfl | rfl | rfl | rfl
  · clear p16
    replace p5 : zTg st x = 14 := p5
    have hl : 14 ∈ zLs := by decide
    obtain ⟨t1e, t2e⟩ := tenT_eq n (by omega)
    have b1 : n * sl ≤ 40 * 60 := Nat.mul_le_mul hn p4
    have b2 : tenT n * v ≤ 60 * 9 := Nat.mul_le_mul t2e p2
    refine ⟨n * sl + tenT n * v, by omega, ?_, ?_⟩
    · unfold f_X2_secondsOf fv_Line_seconds f_X4_seconds
      simp (disch := omega) only [↓zl, t1e, ↓bs (x_wayS h hw hx), p5, hl, p10, p11, pk_mul, ↓reduceIte, List.mem_singleton, Option.bind_some, if_true, if_false, zM_PM, zLn_PM, zTg_PM, zR_PM, ↓zb, ↓zo, ↓zl, n_lt0, n_le, n_lt, n_eq, n_eq0, n_gt0, n_le0, n_ge0, n_zin, n_nat, nI_add, and_self, true_or, false_or, or_false, if_pos, if_neg, f_in_nI, Nat.reduceAdd, t1 hs]
    · unfold f_X12_secondsOf f_X12_byHand
      have e := m_byHand hs (w := w) (by omega) p13 p14 hn N n N 0 (by omega) (by omega)
      rw [show 0 * sl + tenT 0 * v = 0 by simp [tenT]] at e
      simp (disch := omega) only [p12, ↓bs e, ↓reduceIte, List.mem_singleton, Option.bind_some, if_true, if_false, zM_PM, zLn_PM, zTg_PM, zR_PM, ↓zb, ↓zo, ↓zl, n_lt0, n_le, n_lt, n_eq, n_eq0, n_gt0, n_le0, n_ge0, n_zin, n_nat, nI_add, and_self, true_or, false_or, or_false, if_pos, if_neg, f_in_nI, Nat.reduceAdd, t39 hs, ↓bs (r39_1 hs), t40 hs, l40 hs]
  · clear p16
    replace p5 : zTg st x = 20 := p5
    have b1 : n / 2 * (sl + v) ≤ 20 * 69 := Nat.mul_le_mul (by omega) (by omega)
    have b2 : (n - n / 2 * 2) * sl ≤ 1 * 60 := Nat.mul_le_mul (by omega) p4
    refine ⟨n / 2 * (sl + v) + (n - n / 2 * 2) * sl, by omega, ?_, ?_⟩
    · unfold f_X2_secondsOf fv_Line_seconds f_X10_seconds
      simp (disch := omega) only [↓bs (x_wayS h hw hx), p5, p10, p11, pk_mul, pk_div, pk_sub, List.mem_cons, List.not_mem_nil, ↓reduceIte, List.mem_singleton, Option.bind_some, if_true, if_false, zM_PM, zLn_PM, zTg_PM, zR_PM, ↓zb, ↓zo, ↓zl, n_lt0, n_le, n_lt, n_eq, n_eq0, n_gt0, n_le0, n_ge0, n_zin, n_nat, nI_add, and_self, true_or, false_or, or_false, if_pos, if_neg, f_in_nI, Nat.reduceAdd, t1 hs]
    · unfold f_X12_secondsOf f_X12_twins
      simp (disch := omega) only [p12, p13, p14, pk_mul, pk_div, pk_sub, ↓reduceIte, List.mem_singleton, Option.bind_some, if_true, if_false, zM_PM, zLn_PM, zTg_PM, zR_PM, ↓zb, ↓zo, ↓zl, n_lt0, n_le, n_lt, n_eq, n_eq0, n_gt0, n_le0, n_ge0, n_zin, n_nat, nI_add, and_self, true_or, false_or, or_false, if_pos, if_neg, f_in_nI, Nat.reduceAdd, t39 hs, ↓bs (r39_1 hs), t40 hs, l40 hs]
  · clear p16
    replace p5 : zTg st x = 10 := p5
    have b1 : n * (sl / 2) ≤ 40 * 30 := Nat.mul_le_mul (by omega) (by omega)
    refine ⟨n * (sl / 2) + v, by omega, ?_, ?_⟩
    · unfold f_X2_secondsOf fv_Line_seconds f_X0_seconds
      simp (disch := omega) only [↓bs (x_wayS h hw hx), p5, p10, p11, pk_mul, pk_div, pk_sub, List.mem_cons, List.not_mem_nil, ↓reduceIte, List.mem_singleton, Option.bind_some, if_true, if_false, zM_PM, zLn_PM, zTg_PM, zR_PM, ↓zb, ↓zo, ↓zl, n_lt0, n_le, n_lt, n_eq, n_eq0, n_gt0, n_le0, n_ge0, n_zin, n_nat, nI_add, and_self, true_or, false_or, or_false, if_pos, if_neg, f_in_nI, Nat.reduceAdd, t1 hs]
    · unfold f_X12_secondsOf f_X12_columns
      simp (disch := omega) only [p12, p13, p14, pk_mul, pk_div, pk_sub, ↓reduceIte, List.mem_singleton, Option.bind_some, if_true, if_false, zM_PM, zLn_PM, zTg_PM, zR_PM, ↓zb, ↓zo, ↓zl, n_lt0, n_le, n_lt, n_eq, n_eq0, n_gt0, n_le0, n_ge0, n_zin, n_nat, nI_add, and_self, true_or, false_or, or_false, if_pos, if_neg, f_in_nI, Nat.reduceAdd, t39 hs, ↓bs (r39_1 hs), t40 hs, l40 hs]
  · clear p16
    replace p5 : zTg st x = 13 := p5
    refine ⟨0, by omega, ?_, ?_⟩
    · unfold f_X2_secondsOf fv_Line_seconds f_X3_seconds
      simp (disch := omega) only [↓bs (x_wayS h hw hx), p5, ↓reduceIte, List.mem_singleton, Option.bind_some, if_true, if_false, zM_PM, zLn_PM, zTg_PM, zR_PM, ↓zb, ↓zo, ↓zl, n_lt0, n_le, n_lt, n_eq, n_eq0, n_gt0, n_le0, n_ge0, n_zin, n_nat, nI_add, and_self, true_or, false_or, or_false, if_pos, if_neg, f_in_nI, Nat.reduceAdd, t1 hs]
    · unfold f_X12_secondsOf
      simp (disch := omega) only [p12, ↓reduceIte, List.mem_singleton, Option.bind_some, if_true, if_false, zM_PM, zLn_PM, zTg_PM, zR_PM, ↓zb, ↓zo, ↓zl, n_lt0, n_le, n_lt, n_eq, n_eq0, n_gt0, n_le0, n_ge0, n_zin, n_nat, nI_add, and_self, true_or, false_or, or_false, if_pos, if_neg, f_in_nI, Nat.reduceAdd, t39 hs, ↓bs (r39_1 hs), t40 hs, l40 hs]
  · clear p16
    replace p5 : zTg st x = 19 := p5
    have hl : 19 ∈ zLs := by decide
    have b1 : n / 3 * (sl + 2 * v) ≤ 13 * 78 := Nat.mul_le_mul (by omega) (by omega)
    have b2 : (n - n / 3 * 3) / 2 * (sl + v) ≤ 1 * 69 := Nat.mul_le_mul (by omega) (by omega)
    have b3 : ((n - n / 3 * 3) - (n - n / 3 * 3) / 2 * 2) * sl ≤ 1 * 60 := Nat.mul_le_mul (by omega) p4
    refine ⟨n / 3 * (sl + 2 * v) + ((n - n / 3 * 3) / 2 * (sl + v) + ((n - n / 3 * 3) - (n - n / 3 * 3) / 2 * 2) * sl), by omega, ?_, ?_⟩
    · unfold f_X2_secondsOf fv_Line_seconds f_X9_seconds f_X10_seconds
      simp (disch := omega) only [↓bs (x_wayS h hw hx), p5, hl, p10, p11, pk_mul, pk_div, pk_sub, List.mem_cons, List.not_mem_nil, or_true, ↓reduceIte, List.mem_singleton, Option.bind_some, if_true, if_false, zM_PM, zLn_PM, zTg_PM, zR_PM, ↓zb, ↓zo, ↓zl, n_lt0, n_le, n_lt, n_eq, n_eq0, n_gt0, n_le0, n_ge0, n_zin, n_nat, nI_add, and_self, true_or, false_or, or_false, if_pos, if_neg, f_in_nI, Nat.reduceAdd, t1 hs]
    · unfold f_X12_secondsOf f_X12_twins
      simp (disch := omega) only [p12, p13, p14, pk_mul, pk_div, pk_sub, ↓reduceIte, List.mem_singleton, Option.bind_some, if_true, if_false, zM_PM, zLn_PM, zTg_PM, zR_PM, ↓zb, ↓zo, ↓zl, n_lt0, n_le, n_lt, n_eq, n_eq0, n_gt0, n_le0, n_ge0, n_zin, n_nat, nI_add, and_self, true_or, false_or, or_false, if_pos, if_neg, f_in_nI, Nat.reduceAdd, t39 hs, ↓bs (r39_1 hs), t40 hs, l40 hs]
  · clear p16
    replace p5 : zTg st x = 11 := p5
    have hl : 11 ∈ zLs := by decide
    have b1 : (n + 1) / 2 * (sl / 2) ≤ 20 * 30 := Nat.mul_le_mul (by omega) (by omega)
    refine ⟨(n + 1) / 2 * (sl / 2) + v + n / 2, by omega, ?_, ?_⟩
    · unfold f_X2_secondsOf fv_Line_seconds f_X1_seconds f_X0_seconds
      simp (disch := omega) only [↓bs (x_wayS h hw hx), p5, hl, p10, p11, pk_mul, pk_div, pk_sub, List.mem_cons, List.not_mem_nil, or_true, ↓reduceIte, List.mem_singleton, Option.bind_some, if_true, if_false, zM_PM, zLn_PM, zTg_PM, zR_PM, ↓zb, ↓zo, ↓zl, n_lt0, n_le, n_lt, n_eq, n_eq0, n_gt0, n_le0, n_ge0, n_zin, n_nat, nI_add, and_self, true_or, false_or, or_false, if_pos, if_neg, f_in_nI, Nat.reduceAdd, t1 hs]
    · unfold f_X12_secondsOf f_X12_columns
      simp (disch := omega) only [p12, p13, p14, pk_mul, pk_div, pk_sub, ↓reduceIte, List.mem_singleton, Option.bind_some, if_true, if_false, zM_PM, zLn_PM, zTg_PM, zR_PM, ↓zb, ↓zo, ↓zl, n_lt0, n_le, n_lt, n_eq, n_eq0, n_gt0, n_le0, n_ge0, n_zin, n_nat, nI_add, and_self, true_or, false_or, or_false, if_pos, if_neg, f_in_nI, Nat.reduceAdd, t39 hs, ↓bs (r39_1 hs), t40 hs, l40 hs]
      congr 2
      omega
  · replace p5 : zTg st x = 17 := p5
    obtain ⟨r, r1, r2, r3, r4, r5, r6⟩ := p16 rfl
    clear p16
    obtain ⟨d, d1, d2⟩ := p15 (n - n / 4 * 4) (by omega)
    have r7 := r6 (n - n / 4 * 4) (by omega)
    rw [d2] at r7
    refine ⟨d, by omega, ?_, ?_⟩
    · unfold f_X2_secondsOf fv_Line_seconds f_X7_seconds f_X7_rowAt
      simp (disch := omega) only [↓bs (x_wayS h hw hx), p5, ↓bs r1, r4, r5, r7, pk_mul, pk_div, pk_sub, ↓reduceIte, List.mem_singleton, Option.bind_some, if_true, if_false, zM_PM, zLn_PM, zTg_PM, zR_PM, ↓zb, ↓zo, ↓zl, n_lt0, n_le, n_lt, n_eq, n_eq0, n_gt0, n_le0, n_ge0, n_zin, n_nat, nI_add, and_self, true_or, false_or, or_false, if_pos, if_neg, f_in_nI, Nat.reduceAdd, t1 hs]
    · unfold f_X12_secondsOf
      simp (disch := omega) only [p12, d2, pk_mul, pk_div, pk_sub, ↓reduceIte, List.mem_singleton, Option.bind_some, if_true, if_false, zM_PM, zLn_PM, zTg_PM, zR_PM, ↓zb, ↓zo, ↓zl, n_lt0, n_le, n_lt, n_eq, n_eq0, n_gt0, n_le0, n_ge0, n_zin, n_nat, nI_add, and_self, true_or, false_or, or_false, if_pos, if_neg, f_in_nI, Nat.reduceAdd, t39 hs, ↓bs (r39_1 hs), t40 hs, l40 hs]
