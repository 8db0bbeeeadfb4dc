/-! longest -/
theorem lb_sub {i f : Nat} (h : f ≤ i) : nI i - nI (i - f + 1) + nI 1 = nI f := by
  have e1 : nI i = nI f + nI (i - f) := by rw [nI_add]; congr 1; omega
  rw [e1, ← nI_add (i - f) 1]
  generalize nI (i - f) = d
  generalize nI 1 = e
  grind
theorem long_loop {st : zS} (h : Inv st) {N : Nat} {a1 : Int32} (ha : a1 = 0 ∨ a1 = nI 1) : ∀ k f1 f2 i most beg from' wh, i + k = K st 40 8 → k < f1 → k < f2 → from' ≤ i → most ≤ 40 → beg ≤ 40 → ((most = 0 ∧ wh = -5) ∨ (most ≠ 0 ∧ wh = nI beg)) → ∃ r, f_X11_longest_19 N st 0 a1 f1 (nI most) (nI beg) (nI (i - from')) (nI i) = some r ∧ f_X12_longest_22 N st 39 a1 f2 (nI most) wh (nI from') (nI i) = some r := by
  intro k
  have hs := h.1
  obtain ⟨⟨p1, p2⟩, p3, p4⟩ := h.2.1.2.2.2.2.2.1
  replace p4 := fun i hi => (p4 i hi).1
  induction k with
  | zero =>
    intro f1 f2 i most beg from' wh h1 h2 h3 h4 h5 h6 h7
    obtain ⟨f1, rfl⟩ : ∃ m, f1 = m + 1 := ⟨f1 - 1, by omega⟩
    obtain ⟨f2, rfl⟩ : ∃ m, f2 = m + 1 := ⟨f2 - 1, by omega⟩
    have hi : i = K st 40 8 := by omega
    subst hi
    clear p4
    unfold f_X11_longest_19 f_X12_longest_22
    rcases h7 with ⟨rfl, rfl⟩ | ⟨h8, rfl⟩
    · refine ⟨-5, ?_, ?_⟩
      · simp (disch := omega) only [p3, p1, ↓bs (f_size (ns7 hs)), ↓reduceIte, List.mem_singleton, Option.bind_some, if_true, if_false, zM_PM, zLn_PM, zTg_PM, zR_PM, ↓zb, ↓zo, ↓zl, n_lt0, n_le, n_lt, n_eq, n_eq0, n_gt0, n_le0, n_ge0, n_zin, n_nat, nI_add, and_self, true_or, false_or, or_false, if_pos, if_neg, f_in_nI, Nat.reduceAdd, t0 hs, ↓bs (r0_0 hs), t1 hs, ↓bs (r1_5 hs), t7 hs]
      · simp (disch := omega) only [p1, ite_self, ↓reduceIte, List.mem_singleton, Option.bind_some, if_true, if_false, zM_PM, zLn_PM, zTg_PM, zR_PM, ↓zb, ↓zo, ↓zl, n_lt0, n_le, n_lt, n_eq, n_eq0, n_gt0, n_le0, n_ge0, n_zin, n_nat, nI_add, and_self, true_or, false_or, or_false, if_pos, if_neg, f_in_nI, Nat.reduceAdd, t39 hs, ↓bs (r39_1 hs), t40 hs, l40 hs]
    · rcases ha with rfl | rfl
      · refine ⟨nI most, ?_, ?_⟩
        · simp (disch := omega) only [p3, p1, eq_self, ↓bs (f_size (ns7 hs)), ↓reduceIte, List.mem_singleton, Option.bind_some, if_true, if_false, zM_PM, zLn_PM, zTg_PM, zR_PM, ↓zb, ↓zo, ↓zl, n_lt0, n_le, n_lt, n_eq, n_eq0, n_gt0, n_le0, n_ge0, n_zin, n_nat, nI_add, and_self, true_or, false_or, or_false, if_pos, if_neg, f_in_nI, Nat.reduceAdd, t0 hs, ↓bs (r0_0 hs), t1 hs, ↓bs (r1_5 hs), t7 hs]
        · have e : ((0 : Int32) = nI 1) = False := by decide
          simp (disch := omega) only [p1, e, ↓reduceIte, List.mem_singleton, Option.bind_some, if_true, if_false, zM_PM, zLn_PM, zTg_PM, zR_PM, ↓zb, ↓zo, ↓zl, n_lt0, n_le, n_lt, n_eq, n_eq0, n_gt0, n_le0, n_ge0, n_zin, n_nat, nI_add, and_self, true_or, false_or, or_false, if_pos, if_neg, f_in_nI, Nat.reduceAdd, t39 hs, ↓bs (r39_1 hs), t40 hs, l40 hs]
      · refine ⟨nI beg, ?_, ?_⟩
        · simp (disch := omega) only [p3, p1, ↓bs (f_size (ns7 hs)), ↓reduceIte, List.mem_singleton, Option.bind_some, if_true, if_false, zM_PM, zLn_PM, zTg_PM, zR_PM, ↓zb, ↓zo, ↓zl, n_lt0, n_le, n_lt, n_eq, n_eq0, n_gt0, n_le0, n_ge0, n_zin, n_nat, nI_add, and_self, true_or, false_or, or_false, if_pos, if_neg, f_in_nI, Nat.reduceAdd, t0 hs, ↓bs (r0_0 hs), t1 hs, ↓bs (r1_5 hs), t7 hs]
        · simp (disch := omega) only [p1, ↓reduceIte, List.mem_singleton, Option.bind_some, if_true, if_false, zM_PM, zLn_PM, zTg_PM, zR_PM, ↓zb, ↓zo, ↓zl, n_lt0, n_le, n_lt, n_eq, n_eq0, n_gt0, n_le0, n_ge0, n_zin, n_nat, nI_add, and_self, true_or, false_or, or_false, if_pos, if_neg, f_in_nI, Nat.reduceAdd, t39 hs, ↓bs (r39_1 hs), t40 hs, l40 hs]
  | succ k ih =>
    intro f1 f2 i most beg from' wh h1 h2 h3 h4 h5 h6 h7
    obtain ⟨f1, rfl⟩ : ∃ m, f1 = m + 1 := ⟨f1 - 1, by omega⟩
    obtain ⟨f2, rfl⟩ : ∃ m, f2 = m + 1 := ⟨f2 - 1, by omega⟩
    have g1 := f_get (ns7 hs) (p3.trans p1) p2 (by omega) (i := i) (by omega)
    rw [if_pos (by omega), p4 i (by omega)] at g1
    have fin : ∀ f0, f0 ≤ i → ∃ r, f_X11_longest_80 N st 0 a1 (f_X11_longest_19 N st 0 a1 f1) (nI most) (nI beg) (nI i) (zM st 40 (53 + i)) (nI (i - f0 + 1)) = some r ∧ f_X12_longest_71 N st 39 a1 (f_X12_longest_22 N st 39 a1 f2) (nI most) wh (nI i) (nI f0) = some r := by
      intro f0 hf0
      unfold f_X11_longest_80 f_X12_longest_71 f_X11_longest_105 f_X12_longest_109
      have same := ih f1 f2 (i + 1) most beg f0 wh (by omega) (by omega) (by omega) (by omega) h5 h6 h7
      have other := ih f1 f2 (i + 1) (i - f0 + 1) f0 f0 (nI f0) (by omega) (by omega) (by omega) (by omega) (by omega) (by omega) (Or.inr ⟨by omega, rfl⟩)
      rw [show i + 1 - f0 = i - f0 + 1 by omega] at same other
      obtain ⟨r1, u1, u2⟩ := same
      obtain ⟨r2, v1, v2⟩ := other
      clear ih p4
      by_cases hy : zM st 40 (53 + i) = -1
      · refine ⟨r1, ?_, ?_⟩
        · simp (disch := omega) only [hy, ↓reduceIte, List.mem_singleton, Option.bind_some, if_true, if_false, zM_PM, zLn_PM, zTg_PM, zR_PM, ↓zb, ↓zo, ↓zl, n_lt0, n_le, n_lt, n_eq, n_eq0, n_gt0, n_le0, n_ge0, n_zin, n_nat, nI_add, and_self, true_or, false_or, or_false, if_pos, if_neg, f_in_nI, Nat.reduceAdd]
          exact u1
        · simp (disch := omega) only [hy, ↓reduceIte, List.mem_singleton, Option.bind_some, if_true, if_false, zM_PM, zLn_PM, zTg_PM, zR_PM, ↓zb, ↓zo, ↓zl, n_lt0, n_le, n_lt, n_eq, n_eq0, n_gt0, n_le0, n_ge0, n_zin, n_nat, nI_add, and_self, true_or, false_or, or_false, if_pos, if_neg, f_in_nI, Nat.reduceAdd, t39 hs, ↓bs (r39_1 hs), t40 hs, l40 hs]
          exact u2
      · by_cases hq : i - f0 + 1 ≤ most
        · refine ⟨r1, ?_, ?_⟩
          · simp (disch := omega) only [hy, hq, ↓reduceIte, List.mem_singleton, Option.bind_some, if_true, if_false, zM_PM, zLn_PM, zTg_PM, zR_PM, ↓zb, ↓zo, ↓zl, n_lt0, n_le, n_lt, n_eq, n_eq0, n_gt0, n_le0, n_ge0, n_zin, n_nat, nI_add, and_self, true_or, false_or, or_false, if_pos, if_neg, f_in_nI, Nat.reduceAdd]
            exact u1
          · simp (disch := omega) only [hy, hq, pk_sub, ↓reduceIte, List.mem_singleton, Option.bind_some, if_true, if_false, zM_PM, zLn_PM, zTg_PM, zR_PM, ↓zb, ↓zo, ↓zl, n_lt0, n_le, n_lt, n_eq, n_eq0, n_gt0, n_le0, n_ge0, n_zin, n_nat, nI_add, and_self, true_or, false_or, or_false, if_pos, if_neg, f_in_nI, Nat.reduceAdd, t39 hs, ↓bs (r39_1 hs), t40 hs, l40 hs]
            exact u2
        · refine ⟨r2, ?_, ?_⟩
          · simp (disch := omega) only [hy, hq, lb_sub, ↓reduceIte, List.mem_singleton, Option.bind_some, if_true, if_false, zM_PM, zLn_PM, zTg_PM, zR_PM, ↓zb, ↓zo, ↓zl, n_lt0, n_le, n_lt, n_eq, n_eq0, n_gt0, n_le0, n_ge0, n_zin, n_nat, nI_add, and_self, true_or, false_or, or_false, if_pos, if_neg, f_in_nI, Nat.reduceAdd]
            exact v1
          · simp (disch := omega) only [hy, hq, pk_sub, ↓reduceIte, List.mem_singleton, Option.bind_some, if_true, if_false, zM_PM, zLn_PM, zTg_PM, zR_PM, ↓zb, ↓zo, ↓zl, n_lt0, n_le, n_lt, n_eq, n_eq0, n_gt0, n_le0, n_ge0, n_zin, n_nat, nI_add, and_self, true_or, false_or, or_false, if_pos, if_neg, f_in_nI, Nat.reduceAdd, t39 hs, ↓bs (r39_1 hs), t40 hs, l40 hs]
            exact v2
    clear ih
    unfold f_X11_longest_19 f_X12_longest_22
    by_cases h0 : i = 0
    · obtain ⟨r, u1, u2⟩ := fin i (Nat.le_refl _)
      rw [Nat.sub_self] at u1
      clear fin p4
      refine ⟨r, ?_, ?_⟩
      · unfold f_X11_longest_79
        simp (disch := omega) only [p3, p1, ↓bs (f_size (ns7 hs)), ↓bs g1, ↓reduceIte, List.mem_singleton, Option.bind_some, if_true, if_false, zM_PM, zLn_PM, zTg_PM, zR_PM, ↓zb, ↓zo, ↓zl, n_lt0, n_le, n_lt, n_eq, n_eq0, n_gt0, n_le0, n_ge0, n_zin, n_nat, nI_add, and_self, true_or, false_or, or_false, if_pos, if_neg, f_in_nI, Nat.reduceAdd, t0 hs, ↓bs (r0_0 hs), t1 hs, ↓bs (r1_5 hs), t7 hs]
        exact u1
      · unfold f_X12_longest_69
        simp (disch := omega) only [p1, ↓reduceIte, List.mem_singleton, Option.bind_some, if_true, if_false, zM_PM, zLn_PM, zTg_PM, zR_PM, ↓zb, ↓zo, ↓zl, n_lt0, n_le, n_lt, n_eq, n_eq0, n_gt0, n_le0, n_ge0, n_zin, n_nat, nI_add, and_self, true_or, false_or, or_false, if_pos, if_neg, f_in_nI, Nat.reduceAdd, t39 hs, ↓bs (r39_1 hs), t40 hs, l40 hs]
        exact u2
    · have g2 := f_get (ns7 hs) (p3.trans p1) p2 (by omega) (i := i - 1) (by omega)
      rw [if_pos (by omega), p4 (i - 1) (by omega)] at g2
      by_cases hs2 : zM st 40 (53 + (i - 1)) = zM st 40 (53 + i)
      · obtain ⟨r, u1, u2⟩ := fin from' h4
        clear fin p4
        refine ⟨r, ?_, ?_⟩
        · simp (disch := omega) only [p3, p1, ↓bs (f_size (ns7 hs)), ↓bs g1, ↓bs g2, pk_sub, hs2, ↓reduceIte, List.mem_singleton, Option.bind_some, if_true, if_false, zM_PM, zLn_PM, zTg_PM, zR_PM, ↓zb, ↓zo, ↓zl, n_lt0, n_le, n_lt, n_eq, n_eq0, n_gt0, n_le0, n_ge0, n_zin, n_nat, nI_add, and_self, true_or, false_or, or_false, if_pos, if_neg, f_in_nI, Nat.reduceAdd, t0 hs, ↓bs (r0_0 hs), t1 hs, ↓bs (r1_5 hs), t7 hs]
          exact u1
        · have e : zM st 40 (53 + i - 1) = zM st 40 (53 + i) := by rw [← hs2]; congr 1; omega
          simp (disch := omega) only [p1, pk_sub, e, ↓reduceIte, List.mem_singleton, Option.bind_some, if_true, if_false, zM_PM, zLn_PM, zTg_PM, zR_PM, ↓zb, ↓zo, ↓zl, n_lt0, n_le, n_lt, n_eq, n_eq0, n_gt0, n_le0, n_ge0, n_zin, n_nat, nI_add, and_self, true_or, false_or, or_false, if_pos, if_neg, f_in_nI, Nat.reduceAdd, t39 hs, ↓bs (r39_1 hs), t40 hs, l40 hs]
          exact u2
      · obtain ⟨r, u1, u2⟩ := fin i (Nat.le_refl _)
        rw [Nat.sub_self] at u1
        clear fin p4
        refine ⟨r, ?_, ?_⟩
        · unfold f_X11_longest_79
          simp (disch := omega) only [p3, p1, ↓bs (f_size (ns7 hs)), ↓bs g1, ↓bs g2, pk_sub, hs2, ↓reduceIte, List.mem_singleton, Option.bind_some, if_true, if_false, zM_PM, zLn_PM, zTg_PM, zR_PM, ↓zb, ↓zo, ↓zl, n_lt0, n_le, n_lt, n_eq, n_eq0, n_gt0, n_le0, n_ge0, n_zin, n_nat, nI_add, and_self, true_or, false_or, or_false, if_pos, if_neg, f_in_nI, Nat.reduceAdd, t0 hs, ↓bs (r0_0 hs), t1 hs, ↓bs (r1_5 hs), t7 hs]
          exact u1
        · have e : (zM st 40 (53 + i) = zM st 40 (53 + i - 1)) = False := eq_false (fun q => hs2 (by rw [q]; congr 1; omega))
          unfold f_X12_longest_69
          simp (disch := omega) only [p1, pk_sub, e, ↓reduceIte, List.mem_singleton, Option.bind_some, if_true, if_false, zM_PM, zLn_PM, zTg_PM, zR_PM, ↓zb, ↓zo, ↓zl, n_lt0, n_le, n_lt, n_eq, n_eq0, n_gt0, n_le0, n_ge0, n_zin, n_nat, nI_add, and_self, true_or, false_or, or_false, if_pos, if_neg, f_in_nI, Nat.reduceAdd, t39 hs, ↓bs (r39_1 hs), t40 hs, l40 hs]
          exact u2
theorem s_longest {st : zS} (h : Inv st) {N : Nat} (hN : 3000 ≤ N) (a1 : Int32) : ∃ (r : Int32) (st1 st2 : zS), (f_X11_longest N st 0 a1 = some r ∧ st1 = st) ∧ (f_X12_longest N st1 39 a1 = some r ∧ st2 = st1) ∧ Sh st1 ∧ Inv st2 := by
  have h8 := h.2.1.2.2.2.2.2.1.1.2
  suffices q : ∃ r : Int32, f_X11_longest N st 0 a1 = some r ∧ f_X12_longest N st 39 a1 = some r by
    obtain ⟨r, q1, q2⟩ := q
    exact ⟨r, st, st, ⟨q1, rfl⟩, ⟨q2, rfl⟩, h.1, h⟩
  unfold f_X11_longest f_X12_longest
  obtain ⟨g1, g2⟩ := f_isPt (a := a1)
  by_cases hp : a1 = 0 ∨ a1 = nI 1
  · rw [if_pos hp] at g1 g2
    rw [g1, g2]
    simp only [Option.bind_some, show (nI 1 = 0) = False by decide, if_false]
    exact long_loop h hp (K st 40 8) N N 0 0 0 0 (-5) (by omega) (by omega) (by omega) (by omega) (by omega) (by omega) (Or.inl ⟨rfl, rfl⟩)
  · rw [if_neg hp] at g1 g2
    rw [g1, g2]
    exact ⟨-1, rfl, rfl⟩
