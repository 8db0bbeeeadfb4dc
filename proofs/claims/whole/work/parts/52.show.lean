/-! show -/
theorem f_has {st : zS} {o cap n : Nat} (hs : NumS st o cap) (hn : zM st o 1 = nI n) (hn2 : n < 2147483648) (a : Int32) : f_X5_hasPlace st o a = some (if a < 0 ∨ nI n ≤ a then nI 0 else nI 1) := by
  unfold f_X5_hasPlace
  rcases i_neg a with h | ⟨j, hj, rfl⟩
  · simp only [h, true_or, if_true]
  · by_cases h : j < n <;> simp (disch := omega) only [hs.1, hn, List.mem_singleton, Option.bind_some, if_true, if_false, zM_PM, zLn_PM, zTg_PM, zR_PM, zb, zo, zl, n_lt0, n_le, n_lt, n_eq, n_eq0, n_gt0, n_le0, n_ge0, n_zin, n_nat, nI_add, and_self, true_or, false_or, or_false, if_pos, if_neg, f_in_nI, Nat.reduceAdd]
theorem f_in_pre {n : Nat} (hn : n < 2147483648) (a : Int32) : f_X12_in a (nI 0) (nI n - nI 1) = some (if a < 0 ∨ nI n ≤ a then nI 0 else nI 1) := by
  rcases i_neg a with h | ⟨j, hj, rfl⟩
  · rw [f_in, if_pos (Or.inl (by rw [nI_0]; exact h)), if_pos (Or.inl h)]
  · rw [f_in]
    by_cases hz : n = 0
    · subst hz
      have h1 : nI 0 - nI 1 < 0 := by decide
      simp (disch := omega) only [m_gt h1, or_true, List.mem_singleton, Option.bind_some, if_true, if_false, zM_PM, zLn_PM, zTg_PM, zR_PM, zb, zo, zl, n_lt0, n_le, n_lt, n_eq, n_eq0, n_gt0, n_le0, n_ge0, n_zin, n_nat, nI_add, and_self, true_or, false_or, or_false, if_pos, if_neg, f_in_nI, Nat.reduceAdd]
    · rw [pk_sub (show 1 ≤ n by omega)]
      by_cases h : j < n <;> simp (disch := omega) only [List.mem_singleton, Option.bind_some, if_true, if_false, zM_PM, zLn_PM, zTg_PM, zR_PM, zb, zo, zl, n_lt0, n_le, n_lt, n_eq, n_eq0, n_gt0, n_le0, n_ge0, n_zin, n_nat, nI_add, and_self, true_or, false_or, or_false, if_pos, if_neg, f_in_nI, Nat.reduceAdd]
theorem x_show {st : zS} (hs : Sh st) {m n : Nat} (hm : zM st 7 1 = nI m) (hm2 : m ≤ 40) (hn : zM st 11 1 = nI n) (hc : n ≤ 6) (a : Int32) : f_X11_show st 0 a = some (if a = -1 then (zPM st 11 1 (nI 0), nI 0) else if a < 0 ∨ nI m ≤ a then (st, -1) else if n < 6 then (zPM (zPM st 12 n a) 11 1 (nI (n + 1)), nI (n + 1)) else (st, -4)) := by
  unfold f_X11_show
  by_cases h1 : a = -1
  · subst h1
    simp (disch := omega) only [f_clear (ns11 hs), List.mem_singleton, Option.bind_some, if_true, if_false, zM_PM, zLn_PM, zTg_PM, zR_PM, zb, zo, zl, n_lt0, n_le, n_lt, n_eq, n_eq0, n_gt0, n_le0, n_ge0, n_zin, n_nat, nI_add, and_self, true_or, false_or, or_false, if_pos, if_neg, f_in_nI, Nat.reduceAdd, t0 hs, t1 hs, t2 hs, l2 hs, t3 hs, t4 hs, l4 hs, t5 hs, t6 hs, l6 hs, t7 hs, t8 hs, l8 hs, t9 hs, t10 hs, l10 hs, t11 hs, t12 hs, l12 hs, t13 hs, t14 hs, l14 hs, t15 hs, t16 hs, l16 hs, t17 hs, t18 hs, l18 hs, t19 hs, t20 hs, l20 hs, t21 hs, t22 hs, l22 hs, t23 hs, t24 hs, l24 hs, t25 hs, t26 hs, l26 hs, t27 hs, t28 hs, l28 hs, t29 hs, t30 hs, l30 hs, t31 hs, t32 hs, l32 hs, t33 hs, t34 hs, l34 hs, t35 hs, t36 hs, l36 hs, t37 hs, t38 hs, l38 hs, t39 hs, t40 hs, l40 hs, t41 hs, l41 hs, t42 hs, l42 hs, t43 hs, l43 hs, t44 hs, l44 hs, t45 hs, l45 hs, t46 hs, l46 hs, r0_0 hs, r0_1 hs, r0_3 hs, r1_0 hs, r1_4 hs, r1_5 hs, r1_8 hs, r1_9 hs, r1_10 hs, r1_11 hs, r1_12 hs, r19_0 hs, r19_4 hs, r19_5 hs, r19_8 hs, r19_9 hs, r19_10 hs, r19_11 hs, r19_12 hs, r3_3 hs, r21_3 hs, r5_0 hs, r7_0 hs, r9_0 hs, r11_0 hs, r13_0 hs, r15_0 hs, r17_0 hs, r23_0 hs, r25_0 hs, r27_0 hs, r29_0 hs, r31_0 hs, r33_0 hs, r35_0 hs, r37_0 hs, r39_1 hs, r39_2 hs, r39_9 hs, r39_10 hs, r39_11 hs, r39_17 hs, r39_19 hs]
  · by_cases h2 : a < 0 ∨ nI m ≤ a
    · simp (disch := omega) only [h1, h2, f_has (ns7 hs) hm, List.mem_singleton, Option.bind_some, if_true, if_false, zM_PM, zLn_PM, zTg_PM, zR_PM, zb, zo, zl, n_lt0, n_le, n_lt, n_eq, n_eq0, n_gt0, n_le0, n_ge0, n_zin, n_nat, nI_add, and_self, true_or, false_or, or_false, if_pos, if_neg, f_in_nI, Nat.reduceAdd, t0 hs, t1 hs, t2 hs, l2 hs, t3 hs, t4 hs, l4 hs, t5 hs, t6 hs, l6 hs, t7 hs, t8 hs, l8 hs, t9 hs, t10 hs, l10 hs, t11 hs, t12 hs, l12 hs, t13 hs, t14 hs, l14 hs, t15 hs, t16 hs, l16 hs, t17 hs, t18 hs, l18 hs, t19 hs, t20 hs, l20 hs, t21 hs, t22 hs, l22 hs, t23 hs, t24 hs, l24 hs, t25 hs, t26 hs, l26 hs, t27 hs, t28 hs, l28 hs, t29 hs, t30 hs, l30 hs, t31 hs, t32 hs, l32 hs, t33 hs, t34 hs, l34 hs, t35 hs, t36 hs, l36 hs, t37 hs, t38 hs, l38 hs, t39 hs, t40 hs, l40 hs, t41 hs, l41 hs, t42 hs, l42 hs, t43 hs, l43 hs, t44 hs, l44 hs, t45 hs, l45 hs, t46 hs, l46 hs, r0_0 hs, r0_1 hs, r0_3 hs, r1_0 hs, r1_4 hs, r1_5 hs, r1_8 hs, r1_9 hs, r1_10 hs, r1_11 hs, r1_12 hs, r19_0 hs, r19_4 hs, r19_5 hs, r19_8 hs, r19_9 hs, r19_10 hs, r19_11 hs, r19_12 hs, r3_3 hs, r21_3 hs, r5_0 hs, r7_0 hs, r9_0 hs, r11_0 hs, r13_0 hs, r15_0 hs, r17_0 hs, r23_0 hs, r25_0 hs, r27_0 hs, r29_0 hs, r31_0 hs, r33_0 hs, r35_0 hs, r37_0 hs, r39_1 hs, r39_2 hs, r39_9 hs, r39_10 hs, r39_11 hs, r39_17 hs, r39_19 hs]
    · have hs2 : Sh (zPM (zPM st (11 + 1) n a) 11 1 (nI (n + 1))) := (hs.pm _ _ _).pm _ _ _
      by_cases h3 : n < 6 <;>
        simp (disch := omega) only [h1, h2, h3, f_has (ns7 hs) hm, f_add (ns11 hs) hn hc, f_size (ns11 hs2), List.mem_singleton, Option.bind_some, if_true, if_false, zM_PM, zLn_PM, zTg_PM, zR_PM, zb, zo, zl, n_lt0, n_le, n_lt, n_eq, n_eq0, n_gt0, n_le0, n_ge0, n_zin, n_nat, nI_add, and_self, true_or, false_or, or_false, if_pos, if_neg, f_in_nI, Nat.reduceAdd, t0 hs, t1 hs, t2 hs, l2 hs, t3 hs, t4 hs, l4 hs, t5 hs, t6 hs, l6 hs, t7 hs, t8 hs, l8 hs, t9 hs, t10 hs, l10 hs, t11 hs, t12 hs, l12 hs, t13 hs, t14 hs, l14 hs, t15 hs, t16 hs, l16 hs, t17 hs, t18 hs, l18 hs, t19 hs, t20 hs, l20 hs, t21 hs, t22 hs, l22 hs, t23 hs, t24 hs, l24 hs, t25 hs, t26 hs, l26 hs, t27 hs, t28 hs, l28 hs, t29 hs, t30 hs, l30 hs, t31 hs, t32 hs, l32 hs, t33 hs, t34 hs, l34 hs, t35 hs, t36 hs, l36 hs, t37 hs, t38 hs, l38 hs, t39 hs, t40 hs, l40 hs, t41 hs, l41 hs, t42 hs, l42 hs, t43 hs, l43 hs, t44 hs, l44 hs, t45 hs, l45 hs, t46 hs, l46 hs, r0_0 hs, r0_1 hs, r0_3 hs, r1_0 hs, r1_4 hs, r1_5 hs, r1_8 hs, r1_9 hs, r1_10 hs, r1_11 hs, r1_12 hs, r19_0 hs, r19_4 hs, r19_5 hs, r19_8 hs, r19_9 hs, r19_10 hs, r19_11 hs, r19_12 hs, r3_3 hs, r21_3 hs, r5_0 hs, r7_0 hs, r9_0 hs, r11_0 hs, r13_0 hs, r15_0 hs, r17_0 hs, r23_0 hs, r25_0 hs, r27_0 hs, r29_0 hs, r31_0 hs, r33_0 hs, r35_0 hs, r37_0 hs, r39_1 hs, r39_2 hs, r39_9 hs, r39_10 hs, r39_11 hs, r39_17 hs, r39_19 hs]
theorem m_show {st : zS} (hs : Sh st) {m n : Nat} (hm : zM st 40 8 = nI m) (hm2 : m ≤ 40) (hn : zM st 40 3 = nI n) (hc : n ≤ 6) (a : Int32) : f_X12_show st 39 a = some (if a = -1 then (zPM st 40 3 (nI 0), nI 0) else if a < 0 ∨ nI m ≤ a then (st, -1) else if n < 6 then (zPM (zPM st 40 (98 + n) a) 40 3 (nI (n + 1)), nI (n + 1)) else (st, -4)) := by
  unfold f_X12_show
  by_cases h1 : a = -1
  · subst h1
    simp (disch := omega) only [List.mem_singleton, Option.bind_some, if_true, if_false, zM_PM, zLn_PM, zTg_PM, zR_PM, zb, zo, zl, n_lt0, n_le, n_lt, n_eq, n_eq0, n_gt0, n_le0, n_ge0, n_zin, n_nat, nI_add, and_self, true_or, false_or, or_false, if_pos, if_neg, f_in_nI, Nat.reduceAdd, t0 hs, t1 hs, t2 hs, l2 hs, t3 hs, t4 hs, l4 hs, t5 hs, t6 hs, l6 hs, t7 hs, t8 hs, l8 hs, t9 hs, t10 hs, l10 hs, t11 hs, t12 hs, l12 hs, t13 hs, t14 hs, l14 hs, t15 hs, t16 hs, l16 hs, t17 hs, t18 hs, l18 hs, t19 hs, t20 hs, l20 hs, t21 hs, t22 hs, l22 hs, t23 hs, t24 hs, l24 hs, t25 hs, t26 hs, l26 hs, t27 hs, t28 hs, l28 hs, t29 hs, t30 hs, l30 hs, t31 hs, t32 hs, l32 hs, t33 hs, t34 hs, l34 hs, t35 hs, t36 hs, l36 hs, t37 hs, t38 hs, l38 hs, t39 hs, t40 hs, l40 hs, t41 hs, l41 hs, t42 hs, l42 hs, t43 hs, l43 hs, t44 hs, l44 hs, t45 hs, l45 hs, t46 hs, l46 hs, r0_0 hs, r0_1 hs, r0_3 hs, r1_0 hs, r1_4 hs, r1_5 hs, r1_8 hs, r1_9 hs, r1_10 hs, r1_11 hs, r1_12 hs, r19_0 hs, r19_4 hs, r19_5 hs, r19_8 hs, r19_9 hs, r19_10 hs, r19_11 hs, r19_12 hs, r3_3 hs, r21_3 hs, r5_0 hs, r7_0 hs, r9_0 hs, r11_0 hs, r13_0 hs, r15_0 hs, r17_0 hs, r23_0 hs, r25_0 hs, r27_0 hs, r29_0 hs, r31_0 hs, r33_0 hs, r35_0 hs, r37_0 hs, r39_1 hs, r39_2 hs, r39_9 hs, r39_10 hs, r39_11 hs, r39_17 hs, r39_19 hs]
  · by_cases h2 : a < 0 ∨ nI m ≤ a
    · simp (disch := omega) only [h1, h2, hm, f_in_pre, List.mem_singleton, Option.bind_some, if_true, if_false, zM_PM, zLn_PM, zTg_PM, zR_PM, zb, zo, zl, n_lt0, n_le, n_lt, n_eq, n_eq0, n_gt0, n_le0, n_ge0, n_zin, n_nat, nI_add, and_self, true_or, false_or, or_false, if_pos, if_neg, f_in_nI, Nat.reduceAdd, t0 hs, t1 hs, t2 hs, l2 hs, t3 hs, t4 hs, l4 hs, t5 hs, t6 hs, l6 hs, t7 hs, t8 hs, l8 hs, t9 hs, t10 hs, l10 hs, t11 hs, t12 hs, l12 hs, t13 hs, t14 hs, l14 hs, t15 hs, t16 hs, l16 hs, t17 hs, t18 hs, l18 hs, t19 hs, t20 hs, l20 hs, t21 hs, t22 hs, l22 hs, t23 hs, t24 hs, l24 hs, t25 hs, t26 hs, l26 hs, t27 hs, t28 hs, l28 hs, t29 hs, t30 hs, l30 hs, t31 hs, t32 hs, l32 hs, t33 hs, t34 hs, l34 hs, t35 hs, t36 hs, l36 hs, t37 hs, t38 hs, l38 hs, t39 hs, t40 hs, l40 hs, t41 hs, l41 hs, t42 hs, l42 hs, t43 hs, l43 hs, t44 hs, l44 hs, t45 hs, l45 hs, t46 hs, l46 hs, r0_0 hs, r0_1 hs, r0_3 hs, r1_0 hs, r1_4 hs, r1_5 hs, r1_8 hs, r1_9 hs, r1_10 hs, r1_11 hs, r1_12 hs, r19_0 hs, r19_4 hs, r19_5 hs, r19_8 hs, r19_9 hs, r19_10 hs, r19_11 hs, r19_12 hs, r3_3 hs, r21_3 hs, r5_0 hs, r7_0 hs, r9_0 hs, r11_0 hs, r13_0 hs, r15_0 hs, r17_0 hs, r23_0 hs, r25_0 hs, r27_0 hs, r29_0 hs, r31_0 hs, r33_0 hs, r35_0 hs, r37_0 hs, r39_1 hs, r39_2 hs, r39_9 hs, r39_10 hs, r39_11 hs, r39_17 hs, r39_19 hs]
    · by_cases h3 : n < 6 <;>
        simp (disch := omega) only [h1, h2, h3, hm, hn, f_in_pre, List.mem_singleton, Option.bind_some, if_true, if_false, zM_PM, zLn_PM, zTg_PM, zR_PM, zb, zo, zl, n_lt0, n_le, n_lt, n_eq, n_eq0, n_gt0, n_le0, n_ge0, n_zin, n_nat, nI_add, and_self, true_or, false_or, or_false, if_pos, if_neg, f_in_nI, Nat.reduceAdd, t0 hs, t1 hs, t2 hs, l2 hs, t3 hs, t4 hs, l4 hs, t5 hs, t6 hs, l6 hs, t7 hs, t8 hs, l8 hs, t9 hs, t10 hs, l10 hs, t11 hs, t12 hs, l12 hs, t13 hs, t14 hs, l14 hs, t15 hs, t16 hs, l16 hs, t17 hs, t18 hs, l18 hs, t19 hs, t20 hs, l20 hs, t21 hs, t22 hs, l22 hs, t23 hs, t24 hs, l24 hs, t25 hs, t26 hs, l26 hs, t27 hs, t28 hs, l28 hs, t29 hs, t30 hs, l30 hs, t31 hs, t32 hs, l32 hs, t33 hs, t34 hs, l34 hs, t35 hs, t36 hs, l36 hs, t37 hs, t38 hs, l38 hs, t39 hs, t40 hs, l40 hs, t41 hs, l41 hs, t42 hs, l42 hs, t43 hs, l43 hs, t44 hs, l44 hs, t45 hs, l45 hs, t46 hs, l46 hs, r0_0 hs, r0_1 hs, r0_3 hs, r1_0 hs, r1_4 hs, r1_5 hs, r1_8 hs, r1_9 hs, r1_10 hs, r1_11 hs, r1_12 hs, r19_0 hs, r19_4 hs, r19_5 hs, r19_8 hs, r19_9 hs, r19_10 hs, r19_11 hs, r19_12 hs, r3_3 hs, r21_3 hs, r5_0 hs, r7_0 hs, r9_0 hs, r11_0 hs, r13_0 hs, r15_0 hs, r17_0 hs, r23_0 hs, r25_0 hs, r27_0 hs, r29_0 hs, r31_0 hs, r33_0 hs, r35_0 hs, r37_0 hs, r39_1 hs, r39_2 hs, r39_9 hs, r39_10 hs, r39_11 hs, r39_17 hs, r39_19 hs]
theorem upto_pre {a : Int32} {n : Nat} (hn : n < 2147483648) (h : ¬ (a < 0 ∨ nI n ≤ a)) : Upto n a := by
  rcases i_neg a with z | ⟨j, hj, rfl⟩
  · exact absurd (Or.inl z) h
  · refine ⟨j, ?_, rfl⟩
    rw [n_le (by omega) hj] at h
    omega
theorem s_show {st : zS} (h : Inv st) {N : Nat} (hN : 3000 ≤ N) (a1 : Int32) : ∃ (r : Int32) (st1 st2 : zS), (f_X11_show st 0 a1 = some (st1, r)) ∧ (f_X12_show st1 39 a1 = some (st2, r)) ∧ Sh st1 ∧ Inv st2 := by
  have hs := h.1
  obtain ⟨⟨p1, p2⟩, p3, p4⟩ := h.2.1.2.2.2.2.2.1
  obtain ⟨⟨q1, q2⟩, q3, q4⟩ := h.2.1.2.2.2.2.2.2.2.1
  rw [x_show hs (p3.trans p1) p2 (q3.trans q1) q2]
  by_cases h1 : a1 = -1
  · rw [if_pos h1]
    refine ⟨_, _, _, rfl, ?_, hs.pm _ _ _, inv_zero11 h⟩
    rw [m_show (hs.pm _ _ _) (m := K st 40 8) (n := K st 40 3) (by simp (disch := omega) only [zM_PM, if_neg]; exact p1) p2 (by simp (disch := omega) only [zM_PM, if_neg]; exact q1) q2, if_pos h1]
  · rw [if_neg h1]
    by_cases hr : a1 < 0 ∨ nI (K st 40 8) ≤ a1
    · rw [if_pos hr]
      exact ⟨_, _, _, rfl, by rw [m_show hs p1 p2 q1 q2, if_neg h1, if_pos hr], hs, h⟩
    · rw [if_neg hr]
      by_cases hf : K st 40 3 < 6
      · rw [if_pos hf]
        refine ⟨_, _, _, rfl, ?_, (hs.pm _ _ _).pm _ _ _, inv_push11 h rfl hf a1 (upto_pre (by omega) hr)⟩
        rw [m_show ((hs.pm _ _ _).pm _ _ _) (m := K st 40 8) (n := K st 40 3) (by simp (disch := omega) only [zM_PM, if_neg]; exact p1) p2 (by simp (disch := omega) only [zM_PM, if_neg]; exact q1) q2, if_neg h1, if_neg hr, if_pos hf]
      · rw [if_neg hf]
        exact ⟨_, _, _, rfl, by rw [m_show hs p1 p2 q1 q2, if_neg h1, if_neg hr, if_neg hf], hs, h⟩
