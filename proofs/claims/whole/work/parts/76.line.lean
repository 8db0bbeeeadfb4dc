/-! line -/
theorem s_line {st : zS} (h : Inv st) {N : Nat} (hN : 3000 ≤ N) (a1 a2 : Int32) : ∃ (r : Int32) (st1 st2 : zS), (f_X11_line N st 0 a1 a2 = some r ∧ st1 = st) ∧ (f_X12_line N st1 39 a1 a2 = some (st2, r)) ∧ Sh st1 ∧ Inv st2 := by
  have hs := h.1
  suffices q : ∃ (r : Int32) (st2 : zS), f_X11_line N st 0 a1 a2 = some r ∧ f_X12_line N st 39 a1 a2 = some (st2, r) ∧ MS st st2 by
    obtain ⟨r, st2, q1, q2, q3⟩ := q
    exact ⟨r, st, st2, ⟨q1, rfl⟩, q2, h.1, q3.inv h⟩
  obtain ⟨⟨p1, p2⟩, p3, p4⟩ := h.2.1.2.2.2.2.2.1
  have b1 := f_has (ns7 hs) (p3.trans p1) (by omega) a1
  have b2 := f_in_pre (n := K st 40 8) (by omega) a1
  obtain ⟨g1, g2⟩ := f_isPt (a := a2)
  by_cases hr : a1 < 0 ∨ nI (K st 40 8) ≤ a1
  · rw [if_pos hr] at b1 b2
    clear p4
    refine ⟨-1, st, ?_, ?_, MS.rf⟩
    · unfold f_X11_line
      simp (disch := omega) only [↓bs b1, ↓reduceIte, List.mem_singleton, Option.bind_some, if_true, if_false, zM_PM, zLn_PM, zTg_PM, zR_PM, ↓zb, ↓zo, ↓zl, n_lt0, n_le, n_lt, n_eq, n_eq0, n_gt0, n_le0, n_ge0, n_zin, n_nat, nI_add, and_self, true_or, false_or, or_false, if_pos, if_neg, f_in_nI, Nat.reduceAdd, t0 hs, ↓bs (r0_0 hs), t1 hs, ↓bs (r1_5 hs), t7 hs]
    · unfold f_X12_line
      simp (disch := omega) only [p1, ↓bs b2, ↓reduceIte, List.mem_singleton, Option.bind_some, if_true, if_false, zM_PM, zLn_PM, zTg_PM, zR_PM, ↓zb, ↓zo, ↓zl, n_lt0, n_le, n_lt, n_eq, n_eq0, n_gt0, n_le0, n_ge0, n_zin, n_nat, nI_add, and_self, true_or, false_or, or_false, if_pos, if_neg, f_in_nI, Nat.reduceAdd, t39 hs, ↓bs (r39_1 hs), t40 hs, l40 hs]
  · rw [if_neg hr] at b1 b2
    obtain ⟨p, hp, rfl⟩ := upto_pre (by omega) hr
    clear hr
    by_cases hpt : a2 = 0 ∨ a2 = nI 1
    · rw [if_pos hpt] at g1 g2
      rcases hpt with rfl | rfl
      · have e1 := f_get (ns7 hs) (p3.trans p1) p2 (by omega) (i := p) (by omega)
        rw [if_pos hp, (p4 p hp).1] at e1
        clear p4
        have e0 : ((0 : Int32) = nI 1) = False := by decide
        by_cases hy : zM st 40 (53 + p) = -1
        · refine ⟨-5, st, ?_, ?_, MS.rf⟩
          · unfold f_X11_line
            simp (disch := omega) only [↓bs b1, ↓bs g1, e0, ↓bs e1, hy, ↓reduceIte, List.mem_singleton, Option.bind_some, if_true, if_false, zM_PM, zLn_PM, zTg_PM, zR_PM, ↓zb, ↓zo, ↓zl, n_lt0, n_le, n_lt, n_eq, n_eq0, n_gt0, n_le0, n_ge0, n_zin, n_nat, nI_add, and_self, true_or, false_or, or_false, if_pos, if_neg, f_in_nI, Nat.reduceAdd, t0 hs, ↓bs (r0_0 hs), t1 hs, ↓bs (r1_5 hs), t7 hs]
          · unfold f_X12_line
            simp (disch := omega) only [p1, ↓bs b2, ↓bs g2, e0, hy, ↓reduceIte, List.mem_singleton, Option.bind_some, if_true, if_false, zM_PM, zLn_PM, zTg_PM, zR_PM, ↓zb, ↓zo, ↓zl, n_lt0, n_le, n_lt, n_eq, n_eq0, n_gt0, n_le0, n_ge0, n_zin, n_nat, nI_add, and_self, true_or, false_or, or_false, if_pos, if_neg, f_in_nI, Nat.reduceAdd, t39 hs, ↓bs (r39_1 hs), t40 hs, l40 hs]
        · refine ⟨zM st 40 (53 + p), st, ?_, ?_, MS.rf⟩
          · unfold f_X11_line
            simp (disch := omega) only [↓bs b1, ↓bs g1, e0, ↓bs e1, hy, ↓reduceIte, List.mem_singleton, Option.bind_some, if_true, if_false, zM_PM, zLn_PM, zTg_PM, zR_PM, ↓zb, ↓zo, ↓zl, n_lt0, n_le, n_lt, n_eq, n_eq0, n_gt0, n_le0, n_ge0, n_zin, n_nat, nI_add, and_self, true_or, false_or, or_false, if_pos, if_neg, f_in_nI, Nat.reduceAdd, t0 hs, ↓bs (r0_0 hs), t1 hs, ↓bs (r1_5 hs), t7 hs]
          · unfold f_X12_line
            simp (disch := omega) only [p1, ↓bs b2, ↓bs g2, e0, hy, ↓reduceIte, List.mem_singleton, Option.bind_some, if_true, if_false, zM_PM, zLn_PM, zTg_PM, zR_PM, ↓zb, ↓zo, ↓zl, n_lt0, n_le, n_lt, n_eq, n_eq0, n_gt0, n_le0, n_ge0, n_zin, n_nat, nI_add, and_self, true_or, false_or, or_false, if_pos, if_neg, f_in_nI, Nat.reduceAdd, t39 hs, ↓bs (r39_1 hs), t40 hs, l40 hs]
      · obtain ⟨y, sM, y1, y2, y3, y4, -⟩ := sign_now h hN MS.rf (show p < 40 by omega)
        clear p4
        refine ⟨nI y, sM, ?_, ?_, y4⟩
        · unfold f_X11_line
          simp (disch := omega) only [↓bs b1, ↓bs g1, ↓bs y2, ↓reduceIte, List.mem_singleton, Option.bind_some, if_true, if_false, zM_PM, zLn_PM, zTg_PM, zR_PM, ↓zb, ↓zo, ↓zl, n_lt0, n_le, n_lt, n_eq, n_eq0, n_gt0, n_le0, n_ge0, n_zin, n_nat, nI_add, and_self, true_or, false_or, or_false, if_pos, if_neg, f_in_nI, Nat.reduceAdd, t0 hs, ↓bs (r0_0 hs), t1 hs, ↓bs (r1_5 hs), t7 hs]
        · unfold f_X12_line
          simp (disch := omega) only [p1, ↓bs b2, ↓bs g2, y3, ↓reduceIte, List.mem_singleton, Option.bind_some, if_true, if_false, zM_PM, zLn_PM, zTg_PM, zR_PM, ↓zb, ↓zo, ↓zl, n_lt0, n_le, n_lt, n_eq, n_eq0, n_gt0, n_le0, n_ge0, n_zin, n_nat, nI_add, and_self, true_or, false_or, or_false, if_pos, if_neg, f_in_nI, Nat.reduceAdd, t39 hs, ↓bs (r39_1 hs), t40 hs, l40 hs]
    · rw [if_neg hpt] at g1 g2
      clear p4
      refine ⟨-1, st, ?_, ?_, MS.rf⟩
      · unfold f_X11_line
        simp (disch := omega) only [↓bs b1, ↓bs g1, ↓reduceIte, List.mem_singleton, Option.bind_some, if_true, if_false, zM_PM, zLn_PM, zTg_PM, zR_PM, ↓zb, ↓zo, ↓zl, n_lt0, n_le, n_lt, n_eq, n_eq0, n_gt0, n_le0, n_ge0, n_zin, n_nat, nI_add, and_self, true_or, false_or, or_false, if_pos, if_neg, f_in_nI, Nat.reduceAdd, t0 hs, ↓bs (r0_0 hs), t1 hs, ↓bs (r1_5 hs), t7 hs]
      · unfold f_X12_line
        simp (disch := omega) only [p1, ↓bs b2, ↓bs g2, ↓reduceIte, List.mem_singleton, Option.bind_some, if_true, if_false, zM_PM, zLn_PM, zTg_PM, zR_PM, ↓zb, ↓zo, ↓zl, n_lt0, n_le, n_lt, n_eq, n_eq0, n_gt0, n_le0, n_ge0, n_zin, n_nat, nI_add, and_self, true_or, false_or, or_false, if_pos, if_neg, f_in_nI, Nat.reduceAdd, t39 hs, ↓bs (r39_1 hs), t40 hs, l40 hs]
