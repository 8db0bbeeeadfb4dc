/-! want, look, count of the act -/
theorem f_within {w a b : Nat} (hw : w < 2147483648) (hb : b < 2147483648) (hab : a ≤ b) : f_X12_within (nI w) (nI a) (nI b) = some (nI (max a (min b w))) := by
  unfold f_X12_within
  by_cases h1 : a ≤ w
  · by_cases h2 : w ≤ b
    · rw [show max a (min b w) = w by omega]
      simp (disch := omega) only [↓reduceIte, List.mem_singleton, Option.bind_some, if_true, if_false, zM_PM, zLn_PM, zTg_PM, zR_PM, ↓zb, ↓zo, ↓zl, n_lt0, n_le, n_lt, n_eq, n_eq0, n_gt0, n_le0, n_ge0, n_zin, n_nat, nI_add, and_self, true_or, false_or, or_false, if_pos, if_neg, f_in_nI, Nat.reduceAdd]
    · rw [show max a (min b w) = b by omega]
      simp (disch := omega) only [↓reduceIte, List.mem_singleton, Option.bind_some, if_true, if_false, zM_PM, zLn_PM, zTg_PM, zR_PM, ↓zb, ↓zo, ↓zl, n_lt0, n_le, n_lt, n_eq, n_eq0, n_gt0, n_le0, n_ge0, n_zin, n_nat, nI_add, and_self, true_or, false_or, or_false, if_pos, if_neg, f_in_nI, Nat.reduceAdd]
  · rw [show max a (min b w) = a by omega]
    simp (disch := omega) only [↓reduceIte, List.mem_singleton, Option.bind_some, if_true, if_false, zM_PM, zLn_PM, zTg_PM, zR_PM, ↓zb, ↓zo, ↓zl, n_lt0, n_le, n_lt, n_eq, n_eq0, n_gt0, n_le0, n_ge0, n_zin, n_nat, nI_add, and_self, true_or, false_or, or_false, if_pos, if_neg, f_in_nI, Nat.reduceAdd]
theorem m_tells0 {st : zS} (hs : Sh st) (h7 : zM st 40 7 = -1) (a b : Int32) : f_X12_tellsOf st 39 a b = some b := by
  unfold f_X12_tellsOf
  simp (disch := omega) only [h7, ↓reduceIte, List.mem_singleton, Option.bind_some, if_true, if_false, zM_PM, zLn_PM, zTg_PM, zR_PM, ↓zb, ↓zo, ↓zl, n_lt0, n_le, n_lt, n_eq, n_eq0, n_gt0, n_le0, n_ge0, n_zin, n_nat, nI_add, and_self, true_or, false_or, or_false, if_pos, if_neg, f_in_nI, Nat.reduceAdd, t39 hs, ↓bs (r39_1 hs), t40 hs, l40 hs]
theorem m_tells1 {st : zS} (hs : Sh st) {act : Nat} (ha : act < 5) (h7 : zM st 40 7 = nI act) (a : Nat) (hA : a ≤ 900) (b : Int32) : f_X12_tellsOf st 39 (nI a) b = some (zM st 40 (a + act)) := by
  unfold f_X12_tellsOf
  simp (disch := omega) only [h7, n_m1, ↓reduceIte, List.mem_singleton, Option.bind_some, if_true, if_false, zM_PM, zLn_PM, zTg_PM, zR_PM, ↓zb, ↓zo, ↓zl, n_lt0, n_le, n_lt, n_eq, n_eq0, n_gt0, n_le0, n_ge0, n_zin, n_nat, nI_add, and_self, true_or, false_or, or_false, if_pos, if_neg, f_in_nI, Nat.reduceAdd, t39 hs, ↓bs (r39_1 hs), t40 hs, l40 hs]
theorem want_eq {st : zS} (h : Inv st) : ∃ hd want look cnt : Nat, zR st 1 2 = some hd ∧ zTg st hd = 16 ∧ zM st hd 0 = nI want ∧ zM st hd 1 = nI look ∧ zM st hd 2 = nI cnt ∧ 1 ≤ want ∧ want ≤ 40 ∧ 1 ≤ look ∧ look ≤ 5 ∧ cnt ≤ 99 ∧ f_X12_wantNow st 39 = some (nI want) ∧ f_X12_lookNow st 39 = some (nI look) ∧ f_X12_tellsOf st 39 (nI 238) (nI 0) = some (nI cnt) ∧ f_X12_doesCount st 39 = some (if cnt = 0 then nI 0 else nI 1) := by
  have hs := h.1
  have hK := h.2.1.2.1.1.2
  obtain ⟨hd, e3, e4⟩ := h.2.1.2.2.2.2.2.2.2.2.2.2.2.2.2
  obtain ⟨want, look, cnt, c, sz, f, p1, p2, p3, p4, p5, p6, p7, p8, p9, p10, p11, p12, p13, p14, p15, p16, p17, p18, p19⟩ := e4
  clear p18
  have key : f_X12_wantNow st 39 = some (nI want) ∧ f_X12_lookNow st 39 = some (nI look) ∧ f_X12_tellsOf st 39 (nI 238) (nI 0) = some (nI cnt) := by
    rcases p19 with ⟨q1, rfl, rfl, rfl, -⟩ | ⟨act, w, l, q0, q1, q2, q3, q4, q5, q6, q7, q8, -, -⟩
    · have e1 := m_tells0 hs q1
      refine ⟨?_, ?_, e1 _ _⟩
      · unfold f_X12_wantNow
        have g := f_within (w := 20) (a := 1) (b := 40) (by omega) (by omega) (by omega)
        simp (disch := omega) only [↓bs (e1 (nI 228) (nI 20)), ↓bs g, ↓reduceIte, List.mem_singleton, Option.bind_some, if_true, if_false, zM_PM, zLn_PM, zTg_PM, zR_PM, ↓zb, ↓zo, ↓zl, n_lt0, n_le, n_lt, n_eq, n_eq0, n_gt0, n_le0, n_ge0, n_zin, n_nat, nI_add, and_self, true_or, false_or, or_false, if_pos, if_neg, f_in_nI, Nat.reduceAdd, t39 hs]
        rfl
      · unfold f_X12_lookNow
        have g := f_within (w := 3) (a := 1) (b := 5) (by omega) (by omega) (by omega)
        simp (disch := omega) only [↓bs (e1 (nI 233) (nI 3)), ↓bs g, ↓reduceIte, List.mem_singleton, Option.bind_some, if_true, if_false, zM_PM, zLn_PM, zTg_PM, zR_PM, ↓zb, ↓zo, ↓zl, n_lt0, n_le, n_lt, n_eq, n_eq0, n_gt0, n_le0, n_ge0, n_zin, n_nat, nI_add, and_self, true_or, false_or, or_false, if_pos, if_neg, f_in_nI, Nat.reduceAdd, t39 hs]
        rfl
    · have e1 := fun a hA b => m_tells1 hs (act := act) (by omega) q1 a hA b
      have e2 := e1 228 (by omega) (nI 20)
      have e3 := e1 233 (by omega) (nI 3)
      have e4 := e1 238 (by omega) (nI 0)
      rw [q2] at e2
      rw [q5] at e3
      rw [q8] at e4
      refine ⟨?_, ?_, e4⟩
      · unfold f_X12_wantNow
        have g := f_within (w := w) (a := 1) (b := 40) (by omega) (by omega) (by omega)
        simp (disch := omega) only [↓bs e2, ↓bs g, ↓reduceIte, List.mem_singleton, Option.bind_some, if_true, if_false, zM_PM, zLn_PM, zTg_PM, zR_PM, ↓zb, ↓zo, ↓zl, n_lt0, n_le, n_lt, n_eq, n_eq0, n_gt0, n_le0, n_ge0, n_zin, n_nat, nI_add, and_self, true_or, false_or, or_false, if_pos, if_neg, f_in_nI, Nat.reduceAdd, t39 hs]
        rw [← q4]
      · unfold f_X12_lookNow
        have g := f_within (w := l) (a := 1) (b := 5) (by omega) (by omega) (by omega)
        simp (disch := omega) only [↓bs e3, ↓bs g, ↓reduceIte, List.mem_singleton, Option.bind_some, if_true, if_false, zM_PM, zLn_PM, zTg_PM, zR_PM, ↓zb, ↓zo, ↓zl, n_lt0, n_le, n_lt, n_eq, n_eq0, n_gt0, n_le0, n_ge0, n_zin, n_nat, nI_add, and_self, true_or, false_or, or_false, if_pos, if_neg, f_in_nI, Nat.reduceAdd, t39 hs]
        rw [← q7]
  refine ⟨hd, want, look, cnt, e3, p1, p7, p8, p9, p11, p12, p13, p14, p15, key.1, key.2.1, key.2.2, ?_⟩
  have k3 := key.2.2
  clear key p19
  unfold f_X12_doesCount
  by_cases h0 : cnt = 0
  · simp (disch := omega) only [↓bs k3, h0, ↓reduceIte, List.mem_singleton, Option.bind_some, if_true, if_false, zM_PM, zLn_PM, zTg_PM, zR_PM, ↓zb, ↓zo, ↓zl, n_lt0, n_le, n_lt, n_eq, n_eq0, n_gt0, n_le0, n_ge0, n_zin, n_nat, nI_add, and_self, true_or, false_or, or_false, if_pos, if_neg, f_in_nI, Nat.reduceAdd, t39 hs]
  · simp (disch := omega) only [↓bs k3, h0, ↓reduceIte, List.mem_singleton, Option.bind_some, if_true, if_false, zM_PM, zLn_PM, zTg_PM, zR_PM, ↓zb, ↓zo, ↓zl, n_lt0, n_le, n_lt, n_eq, n_eq0, n_gt0, n_le0, n_ge0, n_zin, n_nat, nI_add, and_self, true_or, false_or, or_false, if_pos, if_neg, f_in_nI, Nat.reduceAdd, t39 hs]
