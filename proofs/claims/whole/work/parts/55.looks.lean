/-! looks, looked -/
theorem m_looks29 {st : zS} (hs : Sh st) {n : Nat} (hn : zM st 40 2 = nI n) (hc : n ≤ 5) (a : Int32) (N : Nat) : ∀ k fuel i, i + k = n → k < fuel → cntU (fun i => zM st 40 (93 + i)) a i = 0 → f_X12_looks_29 N 39 a fuel st (nI i) = some (if cntU (fun i => zM st 40 (93 + i)) a n = 0 then (if n < 5 then (zPM (zPM st 40 (93 + n) a) 40 2 (nI (n + 1)), nI (n + 1)) else (st, -4)) else (st, -2)) := by
  intro k
  induction k with
  | zero =>
    intro fuel i h1 h2 h3
    obtain ⟨fuel, rfl⟩ : ∃ m, fuel = m + 1 := ⟨fuel - 1, by omega⟩
    have hi : i = n := by omega
    subst hi
    rw [if_pos h3]
    unfold f_X12_looks_29
    by_cases h5 : i < 5 <;> simp (disch := omega) only [hn, h5, ↓reduceIte, List.mem_singleton, Option.bind_some, if_true, if_false, zM_PM, zLn_PM, zTg_PM, zR_PM, ↓zb, ↓zo, ↓zl, n_lt0, n_le, n_lt, n_eq, n_eq0, n_gt0, n_le0, n_ge0, n_zin, n_nat, nI_add, and_self, true_or, false_or, or_false, if_pos, if_neg, f_in_nI, Nat.reduceAdd, t39 hs, ↓bs (r39_1 hs), t40 hs, l40 hs]
  | succ k ih =>
    intro fuel i h1 h2 h3
    obtain ⟨fuel, rfl⟩ : ∃ m, fuel = m + 1 := ⟨fuel - 1, by omega⟩
    have e2 := ih fuel (i + 1) (by omega) (by omega)
    clear ih
    by_cases e : zM st 40 (93 + i) = a
    · have e3 : cntU (fun i => zM st 40 (93 + i)) a (i + 1) = cntU (fun i => zM st 40 (93 + i)) a i + 1 := by
        show _ + (if zM st 40 (93 + i) = a then 1 else 0) = _; rw [if_pos e]
      have e4 := cntU_mono (fun i => zM st 40 (93 + i)) a (i + 1) k
      rw [e3, show i + 1 + k = n by omega] at e4
      clear e2
      rw [if_neg (show ¬ cntU (fun i => zM st 40 (93 + i)) a n = 0 by omega)]
      unfold f_X12_looks_29
      simp (disch := omega) only [hn, e, ↓reduceIte, List.mem_singleton, Option.bind_some, if_true, if_false, zM_PM, zLn_PM, zTg_PM, zR_PM, ↓zb, ↓zo, ↓zl, n_lt0, n_le, n_lt, n_eq, n_eq0, n_gt0, n_le0, n_ge0, n_zin, n_nat, nI_add, and_self, true_or, false_or, or_false, if_pos, if_neg, f_in_nI, Nat.reduceAdd, t39 hs, ↓bs (r39_1 hs), t40 hs, l40 hs]
    · have e3 : cntU (fun i => zM st 40 (93 + i)) a (i + 1) = cntU (fun i => zM st 40 (93 + i)) a i := by
        show _ + (if zM st 40 (93 + i) = a then 1 else 0) = _; rw [if_neg e]; rfl
      replace e2 := e2 (e3.trans h3)
      unfold f_X12_looks_29
      simp (disch := omega) only [hn, e, ↓reduceIte, List.mem_singleton, Option.bind_some, if_true, if_false, zM_PM, zLn_PM, zTg_PM, zR_PM, ↓zb, ↓zo, ↓zl, n_lt0, n_le, n_lt, n_eq, n_eq0, n_gt0, n_le0, n_ge0, n_zin, n_nat, nI_add, and_self, true_or, false_or, or_false, if_pos, if_neg, f_in_nI, Nat.reduceAdd, t39 hs, ↓bs (r39_1 hs), t40 hs, l40 hs]
      exact e2
theorem s_looks {st : zS} (h : Inv st) {N : Nat} (hN : 3000 ≤ N) (a1 : Int32) : ∃ (r : Int32) (st1 st2 : zS), (f_X11_looks N st 0 a1 = some (st1, r)) ∧ (f_X12_looks N st1 39 a1 = some (st2, r)) ∧ Sh st1 ∧ Inv st2 := by
  have hs := h.1
  obtain ⟨⟨q1, q2⟩, q3, q4⟩ := h.2.1.2.2.2.2.2.2.1
  by_cases h1 : a1 = -1
  · subst h1
    have hs2 : Sh (zPM st 9 1 (nI 0)) := hs.pm _ _ _
    refine ⟨nI 0, zPM st 9 1 (nI 0), _, ?_, ?_, hs2, inv_zero9 h⟩
    · unfold f_X11_looks
      simp (disch := omega) only [↓bs (f_clear (ns9 hs)), ↓reduceIte, List.mem_singleton, Option.bind_some, if_true, if_false, zM_PM, zLn_PM, zTg_PM, zR_PM, ↓zb, ↓zo, ↓zl, n_lt0, n_le, n_lt, n_eq, n_eq0, n_gt0, n_le0, n_ge0, n_zin, n_nat, nI_add, and_self, true_or, false_or, or_false, if_pos, if_neg, f_in_nI, Nat.reduceAdd, t0 hs, ↓bs (r0_0 hs), t1 hs, ↓bs (r1_8 hs), t9 hs]
    · unfold f_X12_looks
      simp (disch := omega) only [↓reduceIte, List.mem_singleton, Option.bind_some, if_true, if_false, zM_PM, zLn_PM, zTg_PM, zR_PM, ↓zb, ↓zo, ↓zl, n_lt0, n_le, n_lt, n_eq, n_eq0, n_gt0, n_le0, n_ge0, n_zin, n_nat, nI_add, and_self, true_or, false_or, or_false, if_pos, if_neg, f_in_nI, Nat.reduceAdd, t39 hs2, ↓bs (r39_1 hs2), t40 hs2, l40 hs2, t40 hs, l40 hs, t39 hs]
  · by_cases h2 : a1 < 0 ∨ nI 40 ≤ a1
    · refine ⟨-2, st, st, ?_, ?_, hs, h⟩
      · unfold f_X11_looks
        simp (disch := omega) only [h1, h2, ↓bs (f_isPl a1), ↓reduceIte, List.mem_singleton, Option.bind_some, if_true, if_false, zM_PM, zLn_PM, zTg_PM, zR_PM, ↓zb, ↓zo, ↓zl, n_lt0, n_le, n_lt, n_eq, n_eq0, n_gt0, n_le0, n_ge0, n_zin, n_nat, nI_add, and_self, true_or, false_or, or_false, if_pos, if_neg, f_in_nI, Nat.reduceAdd]
      · unfold f_X12_looks
        simp (disch := omega) only [h1, h2, ↓bs (f_inPl a1), ↓reduceIte, List.mem_singleton, Option.bind_some, if_true, if_false, zM_PM, zLn_PM, zTg_PM, zR_PM, ↓zb, ↓zo, ↓zl, n_lt0, n_le, n_lt, n_eq, n_eq0, n_gt0, n_le0, n_ge0, n_zin, n_nat, nI_add, and_self, true_or, false_or, or_false, if_pos, if_neg, f_in_nI, Nat.reduceAdd]
    · have ht := x_times (ns9 hs) (q3.trans q1) q2 (by omega) a1 hN
      have hc : cntU (fun i => zM st (9 + 1) i) a1 (K st 40 2) = cntU (fun i => zM st 40 (93 + i)) a1 (K st 40 2) := cntU_congr _ _ (fun i hi => (q4 i hi).1)
      rw [hc] at ht
      have hle := cntU_le (fun i => zM st 40 (93 + i)) a1 (K st 40 2)
      have ha := f_add (ns9 hs) (q3.trans q1) q2 (by omega) a1
      by_cases hz : cntU (fun i => zM st 40 (93 + i)) a1 (K st 40 2) = 0
      · rw [hz] at ht
        by_cases hf : K st 40 2 < 5
        · rw [if_pos hf] at ha
          have hs2 : Sh (zPM (zPM st (9 + 1) (K st 40 2) a1) 9 1 (nI (K st 40 2 + 1))) := (hs.pm _ _ _).pm _ _ _
          refine ⟨nI (K st 40 2 + 1), _, _, ?_, ?_, hs2, inv_push9 h rfl hf a1 (upto_pre (by omega) h2) (cntU_zero _ hz)⟩
          · unfold f_X11_looks
            simp (disch := omega) only [h1, h2, ↓bs (f_isPl a1), ↓bs ht, ↓bs ha, ↓bs (f_size (ns9 hs2)), ↓reduceIte, ↓zb, List.mem_singleton, n_eq0, n_le0, zM_PM, zTg_PM, if_pos, if_neg, if_true, and_self, t0 hs2, ↓bs (r0_0 hs2), t1 hs2, ↓bs (r1_8 hs2), t9 hs2, t0 hs, ↓bs (r0_0 hs), t1 hs, ↓bs (r1_8 hs), t9 hs]
          · unfold f_X12_looks
            have hg : ∀ i, zM (zPM (zPM st (9 + 1) (K st 40 2) a1) 9 1 (nI (K st 40 2 + 1))) 40 i = zM st 40 i := fun i => by simp (disch := omega) only [zM_PM, if_neg]
            have hm := m_looks29 hs2 ((hg 2).trans q1) q2 a1 N (K st 40 2) N 0 (by omega) (by omega) rfl
            simp only [hg] at hm
            rw [if_pos hz, if_pos hf] at hm
            simp (disch := omega) only [h1, h2, ↓bs (f_inPl a1), ↓reduceIte, List.mem_singleton, Option.bind_some, if_true, if_false, zM_PM, zLn_PM, zTg_PM, zR_PM, ↓zb, ↓zo, ↓zl, n_lt0, n_le, n_lt, n_eq, n_eq0, n_gt0, n_le0, n_ge0, n_zin, n_nat, nI_add, and_self, true_or, false_or, or_false, if_pos, if_neg, f_in_nI, Nat.reduceAdd]
            exact hm
        · rw [if_neg hf] at ha
          refine ⟨-4, st, st, ?_, ?_, hs, h⟩
          · unfold f_X11_looks
            simp (disch := omega) only [h1, h2, ↓bs (f_isPl a1), ↓bs ht, ↓bs ha, ↓reduceIte, List.mem_singleton, Option.bind_some, if_true, if_false, zM_PM, zLn_PM, zTg_PM, zR_PM, ↓zb, ↓zo, ↓zl, n_lt0, n_le, n_lt, n_eq, n_eq0, n_gt0, n_le0, n_ge0, n_zin, n_nat, nI_add, and_self, true_or, false_or, or_false, if_pos, if_neg, f_in_nI, Nat.reduceAdd, t0 hs, ↓bs (r0_0 hs), t1 hs, ↓bs (r1_8 hs), t9 hs]
          · unfold f_X12_looks
            have hm := m_looks29 hs q1 q2 a1 N (K st 40 2) N 0 (by omega) (by omega) rfl
            rw [if_pos hz, if_neg hf] at hm
            simp (disch := omega) only [h1, h2, ↓bs (f_inPl a1), ↓reduceIte, List.mem_singleton, Option.bind_some, if_true, if_false, zM_PM, zLn_PM, zTg_PM, zR_PM, ↓zb, ↓zo, ↓zl, n_lt0, n_le, n_lt, n_eq, n_eq0, n_gt0, n_le0, n_ge0, n_zin, n_nat, nI_add, and_self, true_or, false_or, or_false, if_pos, if_neg, f_in_nI, Nat.reduceAdd]
            exact hm
      · refine ⟨-2, st, st, ?_, ?_, hs, h⟩
        · unfold f_X11_looks
          simp (disch := omega) only [h1, h2, hz, ↓bs (f_isPl a1), ↓bs ht, ↓reduceIte, List.mem_singleton, Option.bind_some, if_true, if_false, zM_PM, zLn_PM, zTg_PM, zR_PM, ↓zb, ↓zo, ↓zl, n_lt0, n_le, n_lt, n_eq, n_eq0, n_gt0, n_le0, n_ge0, n_zin, n_nat, nI_add, and_self, true_or, false_or, or_false, if_pos, if_neg, f_in_nI, Nat.reduceAdd, t0 hs, ↓bs (r0_0 hs), t1 hs, ↓bs (r1_8 hs), t9 hs]
        · unfold f_X12_looks
          have hm := m_looks29 hs q1 q2 a1 N (K st 40 2) N 0 (by omega) (by omega) rfl
          rw [if_neg hz] at hm
          simp (disch := omega) only [h1, h2, ↓bs (f_inPl a1), ↓reduceIte, List.mem_singleton, Option.bind_some, if_true, if_false, zM_PM, zLn_PM, zTg_PM, zR_PM, ↓zb, ↓zo, ↓zl, n_lt0, n_le, n_lt, n_eq, n_eq0, n_gt0, n_le0, n_ge0, n_zin, n_nat, nI_add, and_self, true_or, false_or, or_false, if_pos, if_neg, f_in_nI, Nat.reduceAdd]
          exact hm
/-- the sheet at a place, on both sides -/
theorem sheet_eq {st : zS} (h : Inv st) (p : Nat) (hp : p < 2147483648) : ∃ r, f_X5_get st 7 (nI p) = some r ∧ f_X12_wayAt st 39 (nI p) = some r ∧ r = if p < K st 40 8 then zM st 40 (53 + p) else -1 := by
  have hs := h.1
  obtain ⟨⟨q1, q2⟩, q3, q4⟩ := h.2.1.2.2.2.2.2.1
  refine ⟨_, ?_, ?_, rfl⟩
  · rw [f_get (ns7 hs) (q3.trans q1) q2 (by omega) hp]
    by_cases hlt : p < K st 40 8
    · rw [if_pos hlt, if_pos hlt]; exact congrArg some (q4 p hlt).1
    · rw [if_neg hlt, if_neg hlt]
  · unfold f_X12_wayAt
    by_cases hlt : p < K st 40 8 <;> simp (disch := omega) only [q1, ↓reduceIte, List.mem_singleton, Option.bind_some, if_true, if_false, zM_PM, zLn_PM, zTg_PM, zR_PM, ↓zb, ↓zo, ↓zl, n_lt0, n_le, n_lt, n_eq, n_eq0, n_gt0, n_le0, n_ge0, n_zin, n_nat, nI_add, and_self, true_or, false_or, or_false, if_pos, if_neg, f_in_nI, Nat.reduceAdd, t39 hs, ↓bs (r39_1 hs), t40 hs, l40 hs]
theorem looked_eq {st : zS} (h : Inv st) (N : Nat) : ∀ k fuel i, i + k = K st 40 5 → k < fuel → ∃ r, f_X11_looked_2 N st 0 fuel (nI i) = some r ∧ f_X12_looked_2 N st 39 fuel (nI i) = some r := by
  have hs := h.1
  obtain ⟨⟨q1, q2⟩, q3, q4⟩ := h.2.1.2.2.2.2.2.2.2.2.2.1
  obtain ⟨-, w3, w4⟩ := h.2.1.2.2.2.2.2.2.2.2.2.2.1
  intro k
  induction k with
  | zero =>
    intro fuel i h1 h2
    obtain ⟨fuel, rfl⟩ : ∃ m, fuel = m + 1 := ⟨fuel - 1, by omega⟩
    have hsz := f_size (ns15 hs)
    rw [show zM st 15 1 = nI (K st 40 5) from q3.trans q1] at hsz
    refine ⟨-5, ?_, ?_⟩
    · unfold f_X11_looked_2
      simp (disch := omega) only [↓bs hsz, ↓reduceIte, List.mem_singleton, Option.bind_some, if_true, if_false, zM_PM, zLn_PM, zTg_PM, zR_PM, ↓zb, ↓zo, ↓zl, n_lt0, n_le, n_lt, n_eq, n_eq0, n_gt0, n_le0, n_ge0, n_zin, n_nat, nI_add, and_self, true_or, false_or, or_false, if_pos, if_neg, f_in_nI, Nat.reduceAdd, t0 hs, ↓bs (r0_0 hs), t1 hs, ↓bs (r1_11 hs), t15 hs]
    · unfold f_X12_looked_2
      simp (disch := omega) only [q1, ↓reduceIte, List.mem_singleton, Option.bind_some, if_true, if_false, zM_PM, zLn_PM, zTg_PM, zR_PM, ↓zb, ↓zo, ↓zl, n_lt0, n_le, n_lt, n_eq, n_eq0, n_gt0, n_le0, n_ge0, n_zin, n_nat, nI_add, and_self, true_or, false_or, or_false, if_pos, if_neg, f_in_nI, Nat.reduceAdd, t39 hs, ↓bs (r39_1 hs), t40 hs, l40 hs]
  | succ k ih =>
    intro fuel i h1 h2
    obtain ⟨fuel, rfl⟩ : ∃ m, fuel = m + 1 := ⟨fuel - 1, by omega⟩
    obtain ⟨r, e1, e2⟩ := ih fuel (i + 1) (by omega) (by omega)
    have hsz := f_size (ns15 hs)
    rw [show zM st 15 1 = nI (K st 40 5) from q3.trans q1] at hsz
    obtain ⟨p, hp, hp2⟩ := (q4 i (by omega)).2
    have g1 := f_get (ns15 hs) (q3.trans q1) q2 (by omega) (i := i) (by omega)
    have g2 := f_get (ns17 hs) (w3.trans q1) q2 (by omega) (i := i) (by omega)
    rw [if_pos (by omega)] at g1 g2
    rw [show zM st (15 + 1) i = zM st 40 (112 + i) from (q4 i (by omega)).1, hp2] at g1
    rw [show zM st (17 + 1) i = zM st 40 (120 + i) from (w4 i (by omega)).1] at g2
    obtain ⟨s, s1, s2, -⟩ := sheet_eq h p (by omega)
    by_cases e : s = zM st 40 (120 + i)
    · refine ⟨r, ?_, ?_⟩
      · unfold f_X11_looked_2
        simp (disch := omega) only [↓bs hsz, ↓bs g1, ↓bs g2, ↓bs s1, e, e1, ↓reduceIte, List.mem_singleton, Option.bind_some, if_true, if_false, zM_PM, zLn_PM, zTg_PM, zR_PM, ↓zb, ↓zo, ↓zl, n_lt0, n_le, n_lt, n_eq, n_eq0, n_gt0, n_le0, n_ge0, n_zin, n_nat, nI_add, and_self, true_or, false_or, or_false, if_pos, if_neg, f_in_nI, Nat.reduceAdd, t0 hs, ↓bs (r0_0 hs), t1 hs, ↓bs (r1_11 hs), t15 hs, ↓bs (r1_5 hs), t7 hs, ↓bs (r1_12 hs), t17 hs]
      · unfold f_X12_looked_2
        simp (disch := omega) only [q1, hp2, ↓bs s2, s2, e, e2, ↓reduceIte, List.mem_singleton, Option.bind_some, if_true, if_false, zM_PM, zLn_PM, zTg_PM, zR_PM, ↓zb, ↓zo, ↓zl, n_lt0, n_le, n_lt, n_eq, n_eq0, n_gt0, n_le0, n_ge0, n_zin, n_nat, nI_add, and_self, true_or, false_or, or_false, if_pos, if_neg, f_in_nI, Nat.reduceAdd, t39 hs, ↓bs (r39_1 hs), t40 hs, l40 hs]
    · refine ⟨nI i, ?_, ?_⟩
      · unfold f_X11_looked_2
        simp (disch := omega) only [↓bs hsz, ↓bs g1, ↓bs g2, ↓bs s1, e, ↓reduceIte, List.mem_singleton, Option.bind_some, if_true, if_false, zM_PM, zLn_PM, zTg_PM, zR_PM, ↓zb, ↓zo, ↓zl, n_lt0, n_le, n_lt, n_eq, n_eq0, n_gt0, n_le0, n_ge0, n_zin, n_nat, nI_add, and_self, true_or, false_or, or_false, if_pos, if_neg, f_in_nI, Nat.reduceAdd, t0 hs, ↓bs (r0_0 hs), t1 hs, ↓bs (r1_11 hs), t15 hs, ↓bs (r1_5 hs), t7 hs, ↓bs (r1_12 hs), t17 hs]
      · unfold f_X12_looked_2
        simp (disch := omega) only [q1, hp2, ↓bs s2, s2, e, ↓reduceIte, List.mem_singleton, Option.bind_some, if_true, if_false, zM_PM, zLn_PM, zTg_PM, zR_PM, ↓zb, ↓zo, ↓zl, n_lt0, n_le, n_lt, n_eq, n_eq0, n_gt0, n_le0, n_ge0, n_zin, n_nat, nI_add, and_self, true_or, false_or, or_false, if_pos, if_neg, f_in_nI, Nat.reduceAdd, t39 hs, ↓bs (r39_1 hs), t40 hs, l40 hs]
theorem s_looked {st : zS} (h : Inv st) {N : Nat} (hN : 3000 ≤ N)  : ∃ (r : Int32) (st1 st2 : zS), (f_X11_looked N st 0 = some r ∧ st1 = st) ∧ (f_X12_looked N st1 39 = some r ∧ st2 = st1) ∧ Sh st1 ∧ Inv st2 := by
  have q2 := h.2.1.2.2.2.2.2.2.2.2.2.1.1.2
  obtain ⟨r, e1, e2⟩ := looked_eq h N (K st 40 5) N 0 (by omega) (by omega)
  exact ⟨r, st, st, ⟨e1, rfl⟩, ⟨e2, rfl⟩, h.1, h⟩
