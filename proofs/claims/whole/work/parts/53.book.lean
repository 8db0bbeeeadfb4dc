/-! book, count, trace -/
theorem bs {α β : Type} {x : Option α} {a : α} (h : x = some a) (f : α → Option β) : Option.bind x f = f a := by rw [h]; rfl
theorem f_isPl (a : Int32) : f_X11_isPlace a = some (if a < 0 ∨ nI 40 ≤ a then nI 0 else nI 1) := by
  unfold f_X11_isPlace
  by_cases h1 : a < 0
  · simp [h1]
  · by_cases h2 : nI 40 ≤ a <;> simp [h1, h2]
theorem f_inPl (a : Int32) : f_X12_in a (nI 0) (nI 39) = some (if a < 0 ∨ nI 40 ≤ a then nI 0 else nI 1) := by
  rw [show (nI 39 : Int32) = nI 40 - nI 1 by decide]
  exact f_in_pre (by omega) a
theorem x_book45 {st : zS} (hs : Sh st) {n : Nat} (hn : zM st 15 1 = nI n) (hn2 : zM st 17 1 = nI n) (hc : n ≤ 8) (a w : Int32) : f_X11_book_45 0 a w st = some (if a < 0 ∨ nI 40 ≤ a then (st, -2) else if n < 8 then (zPM (zPM (zPM (zPM st 16 n a) 15 1 (nI (n + 1))) 18 n w) 17 1 (nI (n + 1)), nI (n + 1)) else (st, -4)) := by
  unfold f_X11_book_45 f_X11_book_87 f_X11_book_88
  by_cases h2 : a < 0 ∨ nI 40 ≤ a
  · simp (disch := omega) only [h2, ↓bs (f_isPl a), ↓reduceIte, List.mem_singleton, Option.bind_some, if_true, if_false, zM_PM, zLn_PM, zTg_PM, zR_PM, ↓zb, ↓zo, ↓zl, n_lt0, n_le, n_lt, n_eq, n_eq0, n_gt0, n_le0, n_ge0, n_zin, n_nat, nI_add, and_self, true_or, false_or, or_false, if_pos, if_neg, f_in_nI, Nat.reduceAdd]
  · by_cases h3 : n < 8
    · have hs2 : Sh (zPM (zPM st (15 + 1) n a) 15 1 (nI (n + 1))) := (hs.pm _ _ _).pm _ _ _
      have hn3 : zM (zPM (zPM st (15 + 1) n a) 15 1 (nI (n + 1))) 17 1 = nI n := by simp (disch := omega) only [zM_PM, if_neg]; exact hn2
      have hs3 : Sh (zPM (zPM (zPM (zPM st (15 + 1) n a) 15 1 (nI (n + 1))) (17 + 1) n w) 17 1 (nI (n + 1))) := (hs2.pm _ _ _).pm _ _ _
      have e1 := f_add (ns15 hs) hn hc (by omega) a
      have e2 := f_add (ns17 hs2) hn3 hc (by omega) w
      rw [if_pos h3] at e1 e2
      simp (disch := omega) only [h2, h3, ↓bs (f_isPl a), ↓bs e1, ↓bs e2, ↓bs (f_size (ns15 hs3)), ↓reduceIte, ↓zb, List.mem_singleton, n_eq0, zM_PM, zLn_PM, zTg_PM, zR_PM, t0 hs, t1 hs, t2 hs, l2 hs, t3 hs, t4 hs, l4 hs, t5 hs, t6 hs, l6 hs, t7 hs, t8 hs, l8 hs, t9 hs, t10 hs, l10 hs, t11 hs, t12 hs, l12 hs, t13 hs, t14 hs, l14 hs, t15 hs, t16 hs, l16 hs, t17 hs, t18 hs, l18 hs, t19 hs, t20 hs, l20 hs, t21 hs, t22 hs, l22 hs, t23 hs, t24 hs, l24 hs, t25 hs, t26 hs, l26 hs, t27 hs, t28 hs, l28 hs, t29 hs, t30 hs, l30 hs, t31 hs, t32 hs, l32 hs, t33 hs, t34 hs, l34 hs, t35 hs, t36 hs, l36 hs, t37 hs, t38 hs, l38 hs, t39 hs, t40 hs, l40 hs, t41 hs, l41 hs, t42 hs, l42 hs, t43 hs, l43 hs, t44 hs, l44 hs, t45 hs, l45 hs, t46 hs, l46 hs, ↓bs (r0_0 hs), ↓bs (r0_1 hs), ↓bs (r0_3 hs), ↓bs (r1_0 hs), ↓bs (r1_4 hs), ↓bs (r1_5 hs), ↓bs (r1_8 hs), ↓bs (r1_9 hs), ↓bs (r1_10 hs), ↓bs (r1_11 hs), ↓bs (r1_12 hs), ↓bs (r19_0 hs), ↓bs (r19_4 hs), ↓bs (r19_5 hs), ↓bs (r19_8 hs), ↓bs (r19_9 hs), ↓bs (r19_10 hs), ↓bs (r19_11 hs), ↓bs (r19_12 hs), ↓bs (r3_3 hs), ↓bs (r21_3 hs), ↓bs (r5_0 hs), ↓bs (r7_0 hs), ↓bs (r9_0 hs), ↓bs (r11_0 hs), ↓bs (r13_0 hs), ↓bs (r15_0 hs), ↓bs (r17_0 hs), ↓bs (r23_0 hs), ↓bs (r25_0 hs), ↓bs (r27_0 hs), ↓bs (r29_0 hs), ↓bs (r31_0 hs), ↓bs (r33_0 hs), ↓bs (r35_0 hs), ↓bs (r37_0 hs), ↓bs (r39_1 hs), ↓bs (r39_2 hs), ↓bs (r39_9 hs), ↓bs (r39_10 hs), ↓bs (r39_11 hs), ↓bs (r39_17 hs), ↓bs (r39_19 hs)]
      simp (disch := omega) only [↓bs (f_isPl a), ↓bs e1, ↓bs e2, ↓bs (f_size (ns15 hs3)), ↓reduceIte, List.mem_singleton, Option.bind_some, if_true, if_false, zM_PM, zLn_PM, zTg_PM, zR_PM, ↓zb, ↓zo, ↓zl, n_lt0, n_le, n_lt, n_eq, n_eq0, n_gt0, n_le0, n_ge0, n_zin, n_nat, nI_add, and_self, true_or, false_or, or_false, if_pos, if_neg, f_in_nI, Nat.reduceAdd, t0 hs, t1 hs, t2 hs, l2 hs, t3 hs, t4 hs, l4 hs, t5 hs, t6 hs, l6 hs, t7 hs, t8 hs, l8 hs, t9 hs, t10 hs, l10 hs, t11 hs, t12 hs, l12 hs, t13 hs, t14 hs, l14 hs, t15 hs, t16 hs, l16 hs, t17 hs, t18 hs, l18 hs, t19 hs, t20 hs, l20 hs, t21 hs, t22 hs, l22 hs, t23 hs, t24 hs, l24 hs, t25 hs, t26 hs, l26 hs, t27 hs, t28 hs, l28 hs, t29 hs, t30 hs, l30 hs, t31 hs, t32 hs, l32 hs, t33 hs, t34 hs, l34 hs, t35 hs, t36 hs, l36 hs, t37 hs, t38 hs, l38 hs, t39 hs, t40 hs, l40 hs, t41 hs, l41 hs, t42 hs, l42 hs, t43 hs, l43 hs, t44 hs, l44 hs, t45 hs, l45 hs, t46 hs, l46 hs, ↓bs (r0_0 hs), ↓bs (r0_1 hs), ↓bs (r0_3 hs), ↓bs (r1_0 hs), ↓bs (r1_4 hs), ↓bs (r1_5 hs), ↓bs (r1_8 hs), ↓bs (r1_9 hs), ↓bs (r1_10 hs), ↓bs (r1_11 hs), ↓bs (r1_12 hs), ↓bs (r19_0 hs), ↓bs (r19_4 hs), ↓bs (r19_5 hs), ↓bs (r19_8 hs), ↓bs (r19_9 hs), ↓bs (r19_10 hs), ↓bs (r19_11 hs), ↓bs (r19_12 hs), ↓bs (r3_3 hs), ↓bs (r21_3 hs), ↓bs (r5_0 hs), ↓bs (r7_0 hs), ↓bs (r9_0 hs), ↓bs (r11_0 hs), ↓bs (r13_0 hs), ↓bs (r15_0 hs), ↓bs (r17_0 hs), ↓bs (r23_0 hs), ↓bs (r25_0 hs), ↓bs (r27_0 hs), ↓bs (r29_0 hs), ↓bs (r31_0 hs), ↓bs (r33_0 hs), ↓bs (r35_0 hs), ↓bs (r37_0 hs), ↓bs (r39_1 hs), ↓bs (r39_2 hs), ↓bs (r39_9 hs), ↓bs (r39_10 hs), ↓bs (r39_11 hs), ↓bs (r39_17 hs), ↓bs (r39_19 hs)]
    · have e1 := f_add (ns15 hs) hn hc (by omega) a
      rw [if_neg h3] at e1
      simp (disch := omega) only [h2, h3, ↓bs (f_isPl a), ↓bs e1, ↓reduceIte, List.mem_singleton, Option.bind_some, if_true, if_false, zM_PM, zLn_PM, zTg_PM, zR_PM, ↓zb, ↓zo, ↓zl, n_lt0, n_le, n_lt, n_eq, n_eq0, n_gt0, n_le0, n_ge0, n_zin, n_nat, nI_add, and_self, true_or, false_or, or_false, if_pos, if_neg, f_in_nI, Nat.reduceAdd, t0 hs, t1 hs, t2 hs, l2 hs, t3 hs, t4 hs, l4 hs, t5 hs, t6 hs, l6 hs, t7 hs, t8 hs, l8 hs, t9 hs, t10 hs, l10 hs, t11 hs, t12 hs, l12 hs, t13 hs, t14 hs, l14 hs, t15 hs, t16 hs, l16 hs, t17 hs, t18 hs, l18 hs, t19 hs, t20 hs, l20 hs, t21 hs, t22 hs, l22 hs, t23 hs, t24 hs, l24 hs, t25 hs, t26 hs, l26 hs, t27 hs, t28 hs, l28 hs, t29 hs, t30 hs, l30 hs, t31 hs, t32 hs, l32 hs, t33 hs, t34 hs, l34 hs, t35 hs, t36 hs, l36 hs, t37 hs, t38 hs, l38 hs, t39 hs, t40 hs, l40 hs, t41 hs, l41 hs, t42 hs, l42 hs, t43 hs, l43 hs, t44 hs, l44 hs, t45 hs, l45 hs, t46 hs, l46 hs, ↓bs (r0_0 hs), ↓bs (r0_1 hs), ↓bs (r0_3 hs), ↓bs (r1_0 hs), ↓bs (r1_4 hs), ↓bs (r1_5 hs), ↓bs (r1_8 hs), ↓bs (r1_9 hs), ↓bs (r1_10 hs), ↓bs (r1_11 hs), ↓bs (r1_12 hs), ↓bs (r19_0 hs), ↓bs (r19_4 hs), ↓bs (r19_5 hs), ↓bs (r19_8 hs), ↓bs (r19_9 hs), ↓bs (r19_10 hs), ↓bs (r19_11 hs), ↓bs (r19_12 hs), ↓bs (r3_3 hs), ↓bs (r21_3 hs), ↓bs (r5_0 hs), ↓bs (r7_0 hs), ↓bs (r9_0 hs), ↓bs (r11_0 hs), ↓bs (r13_0 hs), ↓bs (r15_0 hs), ↓bs (r17_0 hs), ↓bs (r23_0 hs), ↓bs (r25_0 hs), ↓bs (r27_0 hs), ↓bs (r29_0 hs), ↓bs (r31_0 hs), ↓bs (r33_0 hs), ↓bs (r35_0 hs), ↓bs (r37_0 hs), ↓bs (r39_1 hs), ↓bs (r39_2 hs), ↓bs (r39_9 hs), ↓bs (r39_10 hs), ↓bs (r39_11 hs), ↓bs (r39_17 hs), ↓bs (r39_19 hs)]
theorem m_book29 {st : zS} (hs : Sh st) {n : Nat} (hn : zM st 40 5 = nI n) (hc : n ≤ 8) (a w : Int32) : f_X12_book_29 39 a w st = some (if a < 0 ∨ nI 40 ≤ a then (st, -2) else if n < 8 then (zPM (zPM (zPM st 40 (112 + n) a) 40 (120 + n) w) 40 5 (nI (n + 1)), nI (n + 1)) else (st, -4)) := by
  unfold f_X12_book_29
  by_cases h2 : a < 0 ∨ nI 40 ≤ a
  · simp (disch := omega) only [h2, ↓bs (f_inPl a), ↓reduceIte, List.mem_singleton, Option.bind_some, if_true, if_false, zM_PM, zLn_PM, zTg_PM, zR_PM, ↓zb, ↓zo, ↓zl, n_lt0, n_le, n_lt, n_eq, n_eq0, n_gt0, n_le0, n_ge0, n_zin, n_nat, nI_add, and_self, true_or, false_or, or_false, if_pos, if_neg, f_in_nI, Nat.reduceAdd]
  · by_cases h3 : n < 8 <;>
      simp (disch := omega) only [h2, h3, hn, ↓bs (f_inPl a), ↓reduceIte, List.mem_singleton, Option.bind_some, if_true, if_false, zM_PM, zLn_PM, zTg_PM, zR_PM, ↓zb, ↓zo, ↓zl, n_lt0, n_le, n_lt, n_eq, n_eq0, n_gt0, n_le0, n_ge0, n_zin, n_nat, nI_add, and_self, true_or, false_or, or_false, if_pos, if_neg, f_in_nI, Nat.reduceAdd, t39 hs, ↓bs (r39_1 hs), t40 hs, l40 hs]
theorem s_book {st : zS} (h : Inv st) {N : Nat} (hN : 3000 ≤ N) (a1 a2 : Int32) : ∃ (r : Int32) (st1 st2 : zS), (f_X11_book st 0 a1 a2 = some (st1, r)) ∧ (f_X12_book st1 39 a1 a2 = some (st2, r)) ∧ Sh st1 ∧ Inv st2 := by
  have hs := h.1
  obtain ⟨⟨p1, p2⟩, p3, p4⟩ := h.2.1.2.2.2.2.2.2.2.2.2.1
  obtain ⟨-, q3, -⟩ := h.2.1.2.2.2.2.2.2.2.2.2.2.1
  by_cases h1 : a1 = -1
  · subst h1
    have hs2 : Sh (zPM st 15 1 (nI 0)) := hs.pm _ _ _
    have hs3 : Sh (zPM (zPM st 15 1 (nI 0)) 17 1 (nI 0)) := hs2.pm _ _ _
    refine ⟨nI 0, zPM (zPM st 15 1 (nI 0)) 17 1 (nI 0), _, ?_, ?_, hs3, inv_zeroB h⟩
    · unfold f_X11_book
      simp (disch := omega) only [↓bs (f_clear (ns15 hs)), ↓bs (f_clear (ns17 hs2)), ↓reduceIte, List.mem_singleton, Option.bind_some, if_true, if_false, zM_PM, zLn_PM, zTg_PM, zR_PM, ↓zb, ↓zo, ↓zl, n_lt0, n_le, n_lt, n_eq, n_eq0, n_gt0, n_le0, n_ge0, n_zin, n_nat, nI_add, and_self, true_or, false_or, or_false, if_pos, if_neg, f_in_nI, Nat.reduceAdd, t0 hs, t1 hs, t2 hs, l2 hs, t3 hs, t4 hs, l4 hs, t5 hs, t6 hs, l6 hs, t7 hs, t8 hs, l8 hs, t9 hs, t10 hs, l10 hs, t11 hs, t12 hs, l12 hs, t13 hs, t14 hs, l14 hs, t15 hs, t16 hs, l16 hs, t17 hs, t18 hs, l18 hs, t19 hs, t20 hs, l20 hs, t21 hs, t22 hs, l22 hs, t23 hs, t24 hs, l24 hs, t25 hs, t26 hs, l26 hs, t27 hs, t28 hs, l28 hs, t29 hs, t30 hs, l30 hs, t31 hs, t32 hs, l32 hs, t33 hs, t34 hs, l34 hs, t35 hs, t36 hs, l36 hs, t37 hs, t38 hs, l38 hs, t39 hs, t40 hs, l40 hs, t41 hs, l41 hs, t42 hs, l42 hs, t43 hs, l43 hs, t44 hs, l44 hs, t45 hs, l45 hs, t46 hs, l46 hs, ↓bs (r0_0 hs), ↓bs (r0_1 hs), ↓bs (r0_3 hs), ↓bs (r1_0 hs), ↓bs (r1_4 hs), ↓bs (r1_5 hs), ↓bs (r1_8 hs), ↓bs (r1_9 hs), ↓bs (r1_10 hs), ↓bs (r1_11 hs), ↓bs (r1_12 hs), ↓bs (r19_0 hs), ↓bs (r19_4 hs), ↓bs (r19_5 hs), ↓bs (r19_8 hs), ↓bs (r19_9 hs), ↓bs (r19_10 hs), ↓bs (r19_11 hs), ↓bs (r19_12 hs), ↓bs (r3_3 hs), ↓bs (r21_3 hs), ↓bs (r5_0 hs), ↓bs (r7_0 hs), ↓bs (r9_0 hs), ↓bs (r11_0 hs), ↓bs (r13_0 hs), ↓bs (r15_0 hs), ↓bs (r17_0 hs), ↓bs (r23_0 hs), ↓bs (r25_0 hs), ↓bs (r27_0 hs), ↓bs (r29_0 hs), ↓bs (r31_0 hs), ↓bs (r33_0 hs), ↓bs (r35_0 hs), ↓bs (r37_0 hs), ↓bs (r39_1 hs), ↓bs (r39_2 hs), ↓bs (r39_9 hs), ↓bs (r39_10 hs), ↓bs (r39_11 hs), ↓bs (r39_17 hs), ↓bs (r39_19 hs)]
    · unfold f_X12_book
      simp (disch := omega) only [↓reduceIte, List.mem_singleton, Option.bind_some, if_true, if_false, zM_PM, zLn_PM, zTg_PM, zR_PM, ↓zb, ↓zo, ↓zl, n_lt0, n_le, n_lt, n_eq, n_eq0, n_gt0, n_le0, n_ge0, n_zin, n_nat, nI_add, and_self, true_or, false_or, or_false, if_pos, if_neg, f_in_nI, Nat.reduceAdd, t39 hs3, ↓bs (r39_1 hs3), t40 hs3, l40 hs3, t40 hs, l40 hs]
  · have key : (∃ (r : Int32) (st1 st2 : zS), f_X11_book_45 0 a1 a2 st = some (st1, r) ∧ f_X12_book_29 39 a1 a2 st1 = some (st2, r) ∧ Sh st1 ∧ K st1 40 0 = K st 40 0 ∧ zM st1 40 0 = zM st 40 0 ∧ (WayE st 40 a2 → Inv st2)) := by
      rw [x_book45 hs (p3.trans p1) (q3.trans p1) p2]
      by_cases hr : a1 < 0 ∨ nI 40 ≤ a1
      · rw [if_pos hr]
        exact ⟨_, _, _, rfl, by rw [m_book29 hs p1 p2, if_pos hr], hs, rfl, rfl, fun _ => h⟩
      · rw [if_neg hr]
        by_cases hf : K st 40 5 < 8
        · rw [if_pos hf]
          have hs2 : Sh (zPM (zPM (zPM (zPM st 16 (K st 40 5) a1) 15 1 (nI (K st 40 5 + 1))) 18 (K st 40 5) a2) 17 1 (nI (K st 40 5 + 1))) := (((hs.pm _ _ _).pm _ _ _).pm _ _ _).pm _ _ _
          refine ⟨_, _, _, rfl, ?_, hs2, K_eq (by simp (disch := omega) only [zM_PM, if_neg]), by simp (disch := omega) only [zM_PM, if_neg], fun hw => inv_pushB h rfl hf a1 a2 (upto_pre (by omega) hr) hw⟩
          rw [m_book29 hs2 (n := K st 40 5) (by simp (disch := omega) only [zM_PM, if_neg]; exact p1) p2, if_neg hr, if_pos hf]
        · rw [if_neg hf]
          exact ⟨_, _, _, rfl, by rw [m_book29 hs p1 p2, if_neg hr, if_neg hf], hs, rfl, rfl, fun _ => h⟩
    obtain ⟨r, st1, st2, k1, k2, k3, k4, k5, k6⟩ := key
    by_cases h2 : a2 = -1
    · refine ⟨r, st1, st2, ?_, ?_, k3, k6 (Or.inl h2)⟩
      · unfold f_X11_book; rw [if_neg h1, if_pos h2]; exact k1
      · unfold f_X12_book; rw [if_neg h1, if_pos h2]; exact k2
    · rcases way_cases h a2 with ha | ⟨w, x, hw, rfl, hx, hL⟩
      · refine ⟨-1, st, st, ?_, ?_, hs, h⟩
        · unfold f_X11_book
          simp (disch := omega) only [h1, h2, ↓bs (x_wayN h ha), ↓reduceIte, List.mem_singleton, Option.bind_some, if_true, if_false, zM_PM, zLn_PM, zTg_PM, zR_PM, ↓zb, ↓zo, ↓zl, n_lt0, n_le, n_lt, n_eq, n_eq0, n_gt0, n_le0, n_ge0, n_zin, n_nat, nI_add, and_self, true_or, false_or, or_false, if_pos, if_neg, f_in_nI, Nat.reduceAdd, t0 hs, ↓bs (r0_0 hs), t1 hs]
        · unfold f_X12_book
          simp (disch := omega) only [h1, h2, ↓bs (m_wayN h ha), ↓reduceIte, List.mem_singleton, Option.bind_some, if_true, if_false, zM_PM, zLn_PM, zTg_PM, zR_PM, ↓zb, ↓zo, ↓zl, n_lt0, n_le, n_lt, n_eq, n_eq0, n_gt0, n_le0, n_ge0, n_zin, n_nat, nI_add, and_self, true_or, false_or, or_false, if_pos, if_neg, f_in_nI, Nat.reduceAdd, t39 hs]
      · refine ⟨r, st1, st2, ?_, ?_, k3, k6 (Or.inr ⟨w, hw, rfl⟩)⟩
        · unfold f_X11_book
          simp (disch := omega) only [h1, h2, ↓bs (x_wayS h hw hx), ↓reduceIte, List.mem_singleton, Option.bind_some, if_true, if_false, zM_PM, zLn_PM, zTg_PM, zR_PM, ↓zb, ↓zo, ↓zl, n_lt0, n_le, n_lt, n_eq, n_eq0, n_gt0, n_le0, n_ge0, n_zin, n_nat, nI_add, and_self, true_or, false_or, or_false, if_pos, if_neg, f_in_nI, Nat.reduceAdd, t0 hs, ↓bs (r0_0 hs), t1 hs, ↓bs (k1), k1]
        · have h6 := h.2.1.1.1.2
          unfold f_X12_book
          rw [if_neg h1, if_neg h2, if_pos (by rw [t39 k3]; exact List.mem_singleton.mpr rfl), m_isWay k3 (k5.trans h.2.1.1.1.1) h.2.1.1.1.2, if_neg (show ¬ (nI w < 0 ∨ nI (K st 40 0) ≤ nI w) by rw [n_le (by omega) (by omega), n_lt0 (by omega), false_or]; omega)]
          simp (disch := omega) only [↓reduceIte, List.mem_singleton, Option.bind_some, if_true, if_false, zM_PM, zLn_PM, zTg_PM, zR_PM, ↓zb, ↓zo, ↓zl, n_lt0, n_le, n_lt, n_eq, n_eq0, n_gt0, n_le0, n_ge0, n_zin, n_nat, nI_add, and_self, true_or, false_or, or_false, if_pos, if_neg, f_in_nI, Nat.reduceAdd, ↓bs (k2), k2]
theorem s_count {st : zS} (h : Inv st) {N : Nat} (hN : 3000 ≤ N) (a1 : Int32) : ∃ (r : Int32) (st1 st2 : zS), (f_X11_count st 0 a1 = some r ∧ st1 = st) ∧ (f_X12_count st1 39 a1 = some r ∧ st2 = st1) ∧ Sh st1 ∧ Inv st2 := by
  obtain ⟨hs, ⟨⟨-, w3⟩, ⟨-, a3⟩, -, -, ⟨-, n1, -⟩, -, ⟨-, n3, -⟩, ⟨-, n4, -⟩, ⟨-, n5, -⟩, ⟨-, n6, -⟩, -⟩, -, -, g5, -⟩ := id h
  rcases i_neg a1 with z | ⟨j, hj, rfl⟩
  · refine ⟨-1, st, st, ⟨?_, rfl⟩, ⟨?_, rfl⟩, hs, h⟩
    · unfold f_X11_count
      simp (disch := omega) only [m_eq z, if_false]
    · unfold f_X12_count
      simp (disch := omega) only [m_eq z, if_false, f_in_neg z, ↓reduceIte, List.mem_singleton, Option.bind_some, if_true, if_false, zM_PM, zLn_PM, zTg_PM, zR_PM, ↓zb, ↓zo, ↓zl, n_lt0, n_le, n_lt, n_eq, n_eq0, n_gt0, n_le0, n_ge0, n_zin, n_nat, nI_add, and_self, true_or, false_or, or_false, if_pos, if_neg, f_in_nI, Nat.reduceAdd]
  · by_cases hj7 : j ≤ 7
    · have hh : j = 0 ∨ j = 1 ∨ j = 2 ∨ j = 3 ∨ j = 4 ∨ j = 5 ∨ j = 6 ∨ j = 7 := by omega
      rcases hh with rfl | rfl | rfl | rfl | rfl | rfl | rfl | rfl
      · refine ⟨zM st 40 0, st, st, ⟨?_, rfl⟩, ⟨?_, rfl⟩, hs, h⟩
        · unfold f_X11_count f_X2_wayCount
          simp (disch := omega) only [↓reduceIte, List.mem_singleton, Option.bind_some, if_true, if_false, zM_PM, zLn_PM, zTg_PM, zR_PM, ↓zb, ↓zo, ↓zl, n_lt0, n_le, n_lt, n_eq, n_eq0, n_gt0, n_le0, n_ge0, n_zin, n_nat, nI_add, and_self, true_or, false_or, or_false, if_pos, if_neg, f_in_nI, Nat.reduceAdd, t0 hs, ↓bs (r0_0 hs), t1 hs, w3]
        · unfold f_X12_count
          simp (disch := omega) only [↓reduceIte, List.mem_singleton, Option.bind_some, if_true, if_false, zM_PM, zLn_PM, zTg_PM, zR_PM, ↓zb, ↓zo, ↓zl, n_lt0, n_le, n_lt, n_eq, n_eq0, n_gt0, n_le0, n_ge0, n_zin, n_nat, nI_add, and_self, true_or, false_or, or_false, if_pos, if_neg, f_in_nI, Nat.reduceAdd, t39 hs, ↓bs (r39_1 hs), t40 hs, l40 hs]
      · refine ⟨zM st 40 1, st, st, ⟨?_, rfl⟩, ⟨?_, rfl⟩, hs, h⟩
        · unfold f_X11_count
          simp (disch := omega) only [↓reduceIte, List.mem_singleton, Option.bind_some, if_true, if_false, zM_PM, zLn_PM, zTg_PM, zR_PM, ↓zb, ↓zo, ↓zl, n_lt0, n_le, n_lt, n_eq, n_eq0, n_gt0, n_le0, n_ge0, n_zin, n_nat, nI_add, and_self, true_or, false_or, or_false, if_pos, if_neg, f_in_nI, Nat.reduceAdd, t0 hs, ↓bs (r0_0 hs), t1 hs, a3]
        · unfold f_X12_count
          simp (disch := omega) only [↓reduceIte, List.mem_singleton, Option.bind_some, if_true, if_false, zM_PM, zLn_PM, zTg_PM, zR_PM, ↓zb, ↓zo, ↓zl, n_lt0, n_le, n_lt, n_eq, n_eq0, n_gt0, n_le0, n_ge0, n_zin, n_nat, nI_add, and_self, true_or, false_or, or_false, if_pos, if_neg, f_in_nI, Nat.reduceAdd, t39 hs, ↓bs (r39_1 hs), t40 hs, l40 hs]
      · refine ⟨zM st 40 2, st, st, ⟨?_, rfl⟩, ⟨?_, rfl⟩, hs, h⟩
        · unfold f_X11_count
          simp (disch := omega) only [↓reduceIte, List.mem_singleton, Option.bind_some, if_true, if_false, zM_PM, zLn_PM, zTg_PM, zR_PM, ↓zb, ↓zo, ↓zl, n_lt0, n_le, n_lt, n_eq, n_eq0, n_gt0, n_le0, n_ge0, n_zin, n_nat, nI_add, and_self, true_or, false_or, or_false, if_pos, if_neg, f_in_nI, Nat.reduceAdd, t0 hs, ↓bs (r0_0 hs), t1 hs, ↓bs (r1_8 hs), t9 hs, ↓bs (f_size (ns9 hs))]
          exact congrArg some n3
        · unfold f_X12_count
          simp (disch := omega) only [↓reduceIte, List.mem_singleton, Option.bind_some, if_true, if_false, zM_PM, zLn_PM, zTg_PM, zR_PM, ↓zb, ↓zo, ↓zl, n_lt0, n_le, n_lt, n_eq, n_eq0, n_gt0, n_le0, n_ge0, n_zin, n_nat, nI_add, and_self, true_or, false_or, or_false, if_pos, if_neg, f_in_nI, Nat.reduceAdd, t39 hs, ↓bs (r39_1 hs), t40 hs, l40 hs]
      · refine ⟨zM st 40 3, st, st, ⟨?_, rfl⟩, ⟨?_, rfl⟩, hs, h⟩
        · unfold f_X11_count
          simp (disch := omega) only [↓reduceIte, List.mem_singleton, Option.bind_some, if_true, if_false, zM_PM, zLn_PM, zTg_PM, zR_PM, ↓zb, ↓zo, ↓zl, n_lt0, n_le, n_lt, n_eq, n_eq0, n_gt0, n_le0, n_ge0, n_zin, n_nat, nI_add, and_self, true_or, false_or, or_false, if_pos, if_neg, f_in_nI, Nat.reduceAdd, t0 hs, ↓bs (r0_0 hs), t1 hs, ↓bs (r1_9 hs), t11 hs, ↓bs (f_size (ns11 hs))]
          exact congrArg some n4
        · unfold f_X12_count
          simp (disch := omega) only [↓reduceIte, List.mem_singleton, Option.bind_some, if_true, if_false, zM_PM, zLn_PM, zTg_PM, zR_PM, ↓zb, ↓zo, ↓zl, n_lt0, n_le, n_lt, n_eq, n_eq0, n_gt0, n_le0, n_ge0, n_zin, n_nat, nI_add, and_self, true_or, false_or, or_false, if_pos, if_neg, f_in_nI, Nat.reduceAdd, t39 hs, ↓bs (r39_1 hs), t40 hs, l40 hs]
      · refine ⟨zM st 40 4, st, st, ⟨?_, rfl⟩, ⟨?_, rfl⟩, hs, h⟩
        · unfold f_X11_count
          simp (disch := omega) only [↓reduceIte, List.mem_singleton, Option.bind_some, if_true, if_false, zM_PM, zLn_PM, zTg_PM, zR_PM, ↓zb, ↓zo, ↓zl, n_lt0, n_le, n_lt, n_eq, n_eq0, n_gt0, n_le0, n_ge0, n_zin, n_nat, nI_add, and_self, true_or, false_or, or_false, if_pos, if_neg, f_in_nI, Nat.reduceAdd, t0 hs, ↓bs (r0_0 hs), t1 hs, ↓bs (r1_10 hs), t13 hs, ↓bs (f_size (ns13 hs))]
          exact congrArg some n5
        · unfold f_X12_count
          simp (disch := omega) only [↓reduceIte, List.mem_singleton, Option.bind_some, if_true, if_false, zM_PM, zLn_PM, zTg_PM, zR_PM, ↓zb, ↓zo, ↓zl, n_lt0, n_le, n_lt, n_eq, n_eq0, n_gt0, n_le0, n_ge0, n_zin, n_nat, nI_add, and_self, true_or, false_or, or_false, if_pos, if_neg, f_in_nI, Nat.reduceAdd, t39 hs, ↓bs (r39_1 hs), t40 hs, l40 hs]
      · refine ⟨zM st 40 5, st, st, ⟨?_, rfl⟩, ⟨?_, rfl⟩, hs, h⟩
        · unfold f_X11_count
          simp (disch := omega) only [↓reduceIte, List.mem_singleton, Option.bind_some, if_true, if_false, zM_PM, zLn_PM, zTg_PM, zR_PM, ↓zb, ↓zo, ↓zl, n_lt0, n_le, n_lt, n_eq, n_eq0, n_gt0, n_le0, n_ge0, n_zin, n_nat, nI_add, and_self, true_or, false_or, or_false, if_pos, if_neg, f_in_nI, Nat.reduceAdd, t0 hs, ↓bs (r0_0 hs), t1 hs, ↓bs (r1_11 hs), t15 hs, ↓bs (f_size (ns15 hs))]
          exact congrArg some n6
        · unfold f_X12_count
          simp (disch := omega) only [↓reduceIte, List.mem_singleton, Option.bind_some, if_true, if_false, zM_PM, zLn_PM, zTg_PM, zR_PM, ↓zb, ↓zo, ↓zl, n_lt0, n_le, n_lt, n_eq, n_eq0, n_gt0, n_le0, n_ge0, n_zin, n_nat, nI_add, and_self, true_or, false_or, or_false, if_pos, if_neg, f_in_nI, Nat.reduceAdd, t39 hs, ↓bs (r39_1 hs), t40 hs, l40 hs]
      · refine ⟨zM st 40 6, st, st, ⟨?_, rfl⟩, ⟨?_, rfl⟩, hs, h⟩
        · unfold f_X11_count
          simp (disch := omega) only [↓reduceIte, List.mem_singleton, Option.bind_some, if_true, if_false, zM_PM, zLn_PM, zTg_PM, zR_PM, ↓zb, ↓zo, ↓zl, n_lt0, n_le, n_lt, n_eq, n_eq0, n_gt0, n_le0, n_ge0, n_zin, n_nat, nI_add, and_self, true_or, false_or, or_false, if_pos, if_neg, f_in_nI, Nat.reduceAdd, t0 hs, ↓bs (r0_0 hs), t1 hs, ↓bs (r1_4 hs), t5 hs, ↓bs (f_size (ns5 hs))]
          exact congrArg some n1
        · unfold f_X12_count
          simp (disch := omega) only [↓reduceIte, List.mem_singleton, Option.bind_some, if_true, if_false, zM_PM, zLn_PM, zTg_PM, zR_PM, ↓zb, ↓zo, ↓zl, n_lt0, n_le, n_lt, n_eq, n_eq0, n_gt0, n_le0, n_ge0, n_zin, n_nat, nI_add, and_self, true_or, false_or, or_false, if_pos, if_neg, f_in_nI, Nat.reduceAdd, t39 hs, ↓bs (r39_1 hs), t40 hs, l40 hs]
      · refine ⟨zM st 39 20, st, st, ⟨?_, rfl⟩, ⟨?_, rfl⟩, hs, h⟩
        · unfold f_X11_count
          simp (disch := omega) only [↓reduceIte, List.mem_singleton, Option.bind_some, if_true, if_false, zM_PM, zLn_PM, zTg_PM, zR_PM, ↓zb, ↓zo, ↓zl, n_lt0, n_le, n_lt, n_eq, n_eq0, n_gt0, n_le0, n_ge0, n_zin, n_nat, nI_add, and_self, true_or, false_or, or_false, if_pos, if_neg, f_in_nI, Nat.reduceAdd, t0 hs, ↓bs (r0_3 hs), t37 hs, g5]
        · unfold f_X12_count
          simp (disch := omega) only [↓reduceIte, List.mem_singleton, Option.bind_some, if_true, if_false, zM_PM, zLn_PM, zTg_PM, zR_PM, ↓zb, ↓zo, ↓zl, n_lt0, n_le, n_lt, n_eq, n_eq0, n_gt0, n_le0, n_ge0, n_zin, n_nat, nI_add, and_self, true_or, false_or, or_false, if_pos, if_neg, f_in_nI, Nat.reduceAdd, t39 hs]
    · refine ⟨-1, st, st, ⟨?_, rfl⟩, ⟨?_, rfl⟩, hs, h⟩
      · unfold f_X11_count
        simp (disch := omega) only [↓reduceIte, List.mem_singleton, Option.bind_some, if_true, if_false, zM_PM, zLn_PM, zTg_PM, zR_PM, ↓zb, ↓zo, ↓zl, n_lt0, n_le, n_lt, n_eq, n_eq0, n_gt0, n_le0, n_ge0, n_zin, n_nat, nI_add, and_self, true_or, false_or, or_false, if_pos, if_neg, f_in_nI, Nat.reduceAdd]
      · unfold f_X12_count
        simp (disch := omega) only [↓reduceIte, List.mem_singleton, Option.bind_some, if_true, if_false, zM_PM, zLn_PM, zTg_PM, zR_PM, ↓zb, ↓zo, ↓zl, n_lt0, n_le, n_lt, n_eq, n_eq0, n_gt0, n_le0, n_ge0, n_zin, n_nat, nI_add, and_self, true_or, false_or, or_false, if_pos, if_neg, f_in_nI, Nat.reduceAdd]
theorem s_trace {st : zS} (h : Inv st) {N : Nat} (hN : 3000 ≤ N) (a1 : Int32) : ∃ (r : Int32) (st1 st2 : zS), (f_X11_trace st 0 a1 = some r ∧ st1 = st) ∧ (f_X12_trace st1 39 a1 = some r ∧ st2 = st1) ∧ Sh st1 ∧ Inv st2 := by
  obtain ⟨hs, -, -, -, g5, n, g6, g7, g8⟩ := id h
  have g9 := g5.trans g7
  rcases i_neg a1 with z | ⟨j, hj, rfl⟩
  · refine ⟨-1, st, st, ⟨?_, rfl⟩, ⟨?_, rfl⟩, hs, h⟩
    · unfold f_X11_trace f_X8_bodyAt
      simp (disch := omega) only [z, ↓reduceIte, List.mem_singleton, Option.bind_some, if_true, if_false, zM_PM, zLn_PM, zTg_PM, zR_PM, ↓zb, ↓zo, ↓zl, n_lt0, n_le, n_lt, n_eq, n_eq0, n_gt0, n_le0, n_ge0, n_zin, n_nat, nI_add, and_self, true_or, false_or, or_false, if_pos, if_neg, f_in_nI, Nat.reduceAdd, t0 hs, ↓bs (r0_3 hs), t37 hs]
    · unfold f_X12_trace f_X12_trace_20
      have e : ∀ b, f_X12_in a1 (nI 0) b = some (nI 0) := fun b => by rw [f_in, if_pos (Or.inl (by rw [nI_0]; exact z))]
      by_cases hn : 20 ≤ n <;> simp (disch := omega) only [g7, e, ↓reduceIte, List.mem_singleton, Option.bind_some, if_true, if_false, zM_PM, zLn_PM, zTg_PM, zR_PM, ↓zb, ↓zo, ↓zl, n_lt0, n_le, n_lt, n_eq, n_eq0, n_gt0, n_le0, n_ge0, n_zin, n_nat, nI_add, and_self, true_or, false_or, or_false, if_pos, if_neg, f_in_nI, Nat.reduceAdd, t39 hs]
  · by_cases h1 : j < n ∧ j < 20
    · refine ⟨zM st 46 j, st, st, ⟨?_, rfl⟩, ⟨?_, rfl⟩, hs, h⟩
      · unfold f_X11_trace f_X8_bodyAt
        have e : ∀ x, zM st 38 x = zM st 38 x := fun _ => rfl
        simp (disch := omega) only [g9, ↓reduceIte, List.mem_singleton, Option.bind_some, if_true, if_false, zM_PM, zLn_PM, zTg_PM, zR_PM, ↓zb, ↓zo, ↓zl, n_lt0, n_le, n_lt, n_eq, n_eq0, n_gt0, n_le0, n_ge0, n_zin, n_nat, nI_add, and_self, true_or, false_or, or_false, if_pos, if_neg, f_in_nI, Nat.reduceAdd, t0 hs, ↓bs (r0_3 hs), t37 hs, ↓bs (r37_0 hs), t38 hs, l38 hs]
        rw [g8 j h1.1 h1.2]
      · unfold f_X12_trace f_X12_trace_20
        have e : ∀ b, 1 ≤ b → b ≤ 1000 → f_X12_in (nI j) (nI 0) (nI b - nI 1) = some (if j < b then nI 1 else nI 0) := fun b hb hb2 => by
          rw [pk_sub hb, f_in_nI (by omega) (by omega) (by omega)]
          by_cases q : j < b
          · rw [if_pos q, if_pos (by omega)]
          · rw [if_neg q, if_neg (by omega)]
        by_cases hn : 20 ≤ n <;> simp (disch := omega) only [g7, e, ↓reduceIte, List.mem_singleton, Option.bind_some, if_true, if_false, zM_PM, zLn_PM, zTg_PM, zR_PM, ↓zb, ↓zo, ↓zl, n_lt0, n_le, n_lt, n_eq, n_eq0, n_gt0, n_le0, n_ge0, n_zin, n_nat, nI_add, and_self, true_or, false_or, or_false, if_pos, if_neg, f_in_nI, Nat.reduceAdd, t39 hs, ↓bs (r39_19 hs), t46 hs, l46 hs]
    · refine ⟨-1, st, st, ⟨?_, rfl⟩, ⟨?_, rfl⟩, hs, h⟩
      · unfold f_X11_trace f_X8_bodyAt
        by_cases hn : n ≤ j <;> simp (disch := omega) only [g9, ↓reduceIte, List.mem_singleton, Option.bind_some, if_true, if_false, zM_PM, zLn_PM, zTg_PM, zR_PM, ↓zb, ↓zo, ↓zl, n_lt0, n_le, n_lt, n_eq, n_eq0, n_gt0, n_le0, n_ge0, n_zin, n_nat, nI_add, and_self, true_or, false_or, or_false, if_pos, if_neg, f_in_nI, Nat.reduceAdd, t0 hs, ↓bs (r0_3 hs), t37 hs, ↓bs (r37_0 hs), t38 hs, l38 hs]
      · unfold f_X12_trace f_X12_trace_20
        by_cases hn : 20 ≤ n
        · have e : f_X12_in (nI j) (nI 0) (nI 20 - nI 1) = some (nI 0) := by
            rw [f_in_pre (by omega), if_pos (Or.inr (by rw [n_le (by omega) hj]; omega))]
          simp (disch := omega) only [g7, e, ↓reduceIte, List.mem_singleton, Option.bind_some, if_true, if_false, zM_PM, zLn_PM, zTg_PM, zR_PM, ↓zb, ↓zo, ↓zl, n_lt0, n_le, n_lt, n_eq, n_eq0, n_gt0, n_le0, n_ge0, n_zin, n_nat, nI_add, and_self, true_or, false_or, or_false, if_pos, if_neg, f_in_nI, Nat.reduceAdd, t39 hs]
        · have e : f_X12_in (nI j) (nI 0) (nI n - nI 1) = some (nI 0) := by
            rw [f_in_pre (by omega), if_pos (Or.inr (by rw [n_le (by omega) hj]; omega))]
          simp (disch := omega) only [g7, e, ↓reduceIte, List.mem_singleton, Option.bind_some, if_true, if_false, zM_PM, zLn_PM, zTg_PM, zR_PM, ↓zb, ↓zo, ↓zl, n_lt0, n_le, n_lt, n_eq, n_eq0, n_gt0, n_le0, n_ge0, n_zin, n_nat, nI_add, and_self, true_or, false_or, or_false, if_pos, if_neg, f_in_nI, Nat.reduceAdd, t39 hs]
