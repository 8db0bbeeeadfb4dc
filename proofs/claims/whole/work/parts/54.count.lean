/-! how often, of, looks -/
theorem n_mul (a b : Nat) : nI a * nI b = nI (a * b) := (Int32.ofNat_mul a b).symm
def cntU (g : Nat → Int32) (a : Int32) : Nat → Nat
  | 0 => 0
  | n + 1 => cntU g a n + (if g n = a then 1 else 0)
theorem cntU_le (g : Nat → Int32) (a : Int32) : ∀ n, cntU g a n ≤ n
  | 0 => Nat.le_refl _
  | n + 1 => by have := cntU_le g a n; unfold cntU; split <;> omega
theorem cntU_mono (g : Nat → Int32) (a : Int32) (i : Nat) : ∀ k, cntU g a i ≤ cntU g a (i + k)
  | 0 => Nat.le_refl _
  | k + 1 => by have := cntU_mono g a i k; rw [← Nat.add_assoc]; show _ ≤ cntU g a (i + k) + _; split <;> omega
theorem cntU_congr {g g' : Nat → Int32} (a : Int32) : ∀ n, (∀ i, i < n → g i = g' i) → cntU g a n = cntU g' a n
  | 0, _ => rfl
  | n + 1, h => by unfold cntU; rw [cntU_congr a n (fun i hi => h i (by omega)), h n (by omega)]
theorem cntU_zero {g : Nat → Int32} {a : Int32} : ∀ n, cntU g a n = 0 → ∀ i, i < n → g i ≠ a
  | 0, _, i, hi => by omega
  | n + 1, h, i, hi => by
    unfold cntU at h
    by_cases e : g n = a
    · rw [if_pos e] at h; omega
    · rw [if_neg e] at h
      by_cases hin : i = n
      · rw [hin]; exact e
      · exact cntU_zero n h i (by omega)
theorem x_times4 {st : zS} {o cap n : Nat} (hs : NumS st o cap) (hn : zM st o 1 = nI n) (hc : n ≤ cap) (hcap : cap ≤ 100) (a : Int32) (N : Nat) : ∀ k fuel i, i + k = n → k < fuel → f_X5_timesOf_4 N st o a fuel (nI (cntU (fun i => zM st (o + 1) i) a i)) (nI i) = some (nI (cntU (fun i => zM st (o + 1) i) a n)) := by
  intro k
  induction k with
  | zero =>
    intro fuel i h1 h2
    obtain ⟨fuel, rfl⟩ : ∃ m, fuel = m + 1 := ⟨fuel - 1, by omega⟩
    have hi : i = n := by omega
    subst hi
    unfold f_X5_timesOf_4
    simp (disch := omega) only [hs.1, hn, ↓reduceIte, List.mem_singleton, Option.bind_some, if_true, if_false, zM_PM, zLn_PM, zTg_PM, zR_PM, ↓zb, ↓zo, ↓zl, n_lt0, n_le, n_lt, n_eq, n_eq0, n_gt0, n_le0, n_ge0, n_zin, n_nat, nI_add, and_self, true_or, false_or, or_false, if_pos, if_neg, f_in_nI, Nat.reduceAdd]
  | succ k ih =>
    intro fuel i h1 h2
    obtain ⟨fuel, rfl⟩ : ∃ m, fuel = m + 1 := ⟨fuel - 1, by omega⟩
    have e1 := f_get hs hn hc hcap (i := i) (by omega)
    rw [if_pos (by omega)] at e1
    have e2 := ih fuel (i + 1) (by omega) (by omega)
    unfold f_X5_timesOf_4 f_X5_timesOf_24
    by_cases e : zM st (o + 1) i = a
    · have e3 : cntU (fun i => zM st (o + 1) i) a (i + 1) = cntU (fun i => zM st (o + 1) i) a i + 1 := by
        show _ + (if zM st (o + 1) i = a then 1 else 0) = _; rw [if_pos e]
      rw [e3] at e2
      simp (disch := omega) only [hs.1, hn, ↓bs e1, e, e2, ↓reduceIte, List.mem_singleton, Option.bind_some, if_true, if_false, zM_PM, zLn_PM, zTg_PM, zR_PM, ↓zb, ↓zo, ↓zl, n_lt0, n_le, n_lt, n_eq, n_eq0, n_gt0, n_le0, n_ge0, n_zin, n_nat, nI_add, and_self, true_or, false_or, or_false, if_pos, if_neg, f_in_nI, Nat.reduceAdd]
    · have e3 : cntU (fun i => zM st (o + 1) i) a (i + 1) = cntU (fun i => zM st (o + 1) i) a i := by
        show _ + (if zM st (o + 1) i = a then 1 else 0) = _; rw [if_neg e]; rfl
      rw [e3] at e2
      simp (disch := omega) only [hs.1, hn, ↓bs e1, e, e2, ↓reduceIte, List.mem_singleton, Option.bind_some, if_true, if_false, zM_PM, zLn_PM, zTg_PM, zR_PM, ↓zb, ↓zo, ↓zl, n_lt0, n_le, n_lt, n_eq, n_eq0, n_gt0, n_le0, n_ge0, n_zin, n_nat, nI_add, and_self, true_or, false_or, or_false, if_pos, if_neg, f_in_nI, Nat.reduceAdd]
theorem x_times {st : zS} {o cap n : Nat} (hs : NumS st o cap) (hn : zM st o 1 = nI n) (hc : n ≤ cap) (hcap : cap ≤ 100) (a : Int32) {N : Nat} (hN : 3000 ≤ N) : f_X5_timesOf N st o a = some (nI (cntU (fun i => zM st (o + 1) i) a n)) := by
  have := x_times4 hs hn hc hcap a N n N 0 (by omega) (by omega)
  exact this
theorem m_of24 {st : zS} (hs : Sh st) {n : Nat} (hn : zM st 40 8 = nI n) (hc : n ≤ 40) {w : Nat} (hw : w < 6) {j : Nat} (hj : j ≤ 3) (N : Nat) : ∀ k fuel i, i + k = n → k < fuel → f_X12_of_24 N st 39 (nI w) (nI j) fuel (nI (cntU (fun i => zM st 40 (53 + i)) (nI w) i)) (nI i) = some (if j = 3 then nI (cntU (fun i => zM st 40 (53 + i)) (nI w) n) else zM st 40 (11 + 6 * j + w)) := by
  intro k
  induction k with
  | zero =>
    intro fuel i h1 h2
    obtain ⟨fuel, rfl⟩ : ∃ m, fuel = m + 1 := ⟨fuel - 1, by omega⟩
    have hi : i = n := by omega
    subst hi
    have e1 : nI 6 * nI j = nI (6 * j) := n_mul 6 j
    unfold f_X12_of_24
    by_cases hj3 : j = 3
    · subst hj3
      simp (disch := omega) only [hn, ↓reduceIte, List.mem_singleton, Option.bind_some, if_true, if_false, zM_PM, zLn_PM, zTg_PM, zR_PM, ↓zb, ↓zo, ↓zl, n_lt0, n_le, n_lt, n_eq, n_eq0, n_gt0, n_le0, n_ge0, n_zin, n_nat, nI_add, and_self, true_or, false_or, or_false, if_pos, if_neg, f_in_nI, Nat.reduceAdd, t39 hs, ↓bs (r39_1 hs), t40 hs, l40 hs]
    · simp (disch := omega) only [hn, e1, hj3, ↓reduceIte, List.mem_singleton, Option.bind_some, if_true, if_false, zM_PM, zLn_PM, zTg_PM, zR_PM, ↓zb, ↓zo, ↓zl, n_lt0, n_le, n_lt, n_eq, n_eq0, n_gt0, n_le0, n_ge0, n_zin, n_nat, nI_add, and_self, true_or, false_or, or_false, if_pos, if_neg, f_in_nI, Nat.reduceAdd, t39 hs, ↓bs (r39_1 hs), t40 hs, l40 hs]
  | succ k ih =>
    intro fuel i h1 h2
    obtain ⟨fuel, rfl⟩ : ∃ m, fuel = m + 1 := ⟨fuel - 1, by omega⟩
    have e2 := ih fuel (i + 1) (by omega) (by omega)
    unfold f_X12_of_24 f_X12_of_56
    by_cases e : zM st 40 (53 + i) = nI w
    · have e3 : cntU (fun i => zM st 40 (53 + i)) (nI w) (i + 1) = cntU (fun i => zM st 40 (53 + i)) (nI w) i + 1 := by
        show _ + (if zM st 40 (53 + i) = nI w then 1 else 0) = _; rw [if_pos e]
      rw [e3] at e2
      simp (disch := omega) only [hn, e, e2, ↓reduceIte, List.mem_singleton, Option.bind_some, if_true, if_false, zM_PM, zLn_PM, zTg_PM, zR_PM, ↓zb, ↓zo, ↓zl, n_lt0, n_le, n_lt, n_eq, n_eq0, n_gt0, n_le0, n_ge0, n_zin, n_nat, nI_add, and_self, true_or, false_or, or_false, if_pos, if_neg, f_in_nI, Nat.reduceAdd, t39 hs, ↓bs (r39_1 hs), t40 hs, l40 hs]
    · have e3 : cntU (fun i => zM st 40 (53 + i)) (nI w) (i + 1) = cntU (fun i => zM st 40 (53 + i)) (nI w) i := by
        show _ + (if zM st 40 (53 + i) = nI w then 1 else 0) = _; rw [if_neg e]; rfl
      rw [e3] at e2
      simp (disch := omega) only [hn, e, Nat.add_zero, e2, ↓reduceIte, List.mem_singleton, Option.bind_some, if_true, if_false, zM_PM, zLn_PM, zTg_PM, zR_PM, ↓zb, ↓zo, ↓zl, n_lt0, n_le, n_lt, n_eq, n_eq0, n_gt0, n_le0, n_ge0, n_zin, n_nat, nI_add, and_self, true_or, false_or, or_false, if_pos, if_neg, f_in_nI, Nat.reduceAdd, t39 hs, ↓bs (r39_1 hs), t40 hs, l40 hs]
theorem s_of {st : zS} (h : Inv st) {N : Nat} (hN : 3000 ≤ N) (a1 a2 : Int32) : ∃ (r : Int32) (st1 st2 : zS), (f_X11_of N st 0 a1 a2 = some r ∧ st1 = st) ∧ (f_X12_of N st1 39 a1 a2 = some r ∧ st2 = st1) ∧ Sh st1 ∧ Inv st2 := by
  have hs := h.1
  rcases way_cases h a1 with ha | ⟨w, x, hw, rfl, hx, hL⟩
  · refine ⟨-1, st, st, ⟨?_, rfl⟩, ⟨?_, rfl⟩, hs, h⟩
    · unfold f_X11_of
      simp (disch := omega) only [↓bs (x_wayN h ha), ↓reduceIte, List.mem_singleton, Option.bind_some, if_true, if_false, zM_PM, zLn_PM, zTg_PM, zR_PM, ↓zb, ↓zo, ↓zl, n_lt0, n_le, n_lt, n_eq, n_eq0, n_gt0, n_le0, n_ge0, n_zin, n_nat, nI_add, and_self, true_or, false_or, or_false, if_pos, if_neg, f_in_nI, Nat.reduceAdd, t0 hs, ↓bs (r0_0 hs), t1 hs]
    · unfold f_X12_of
      simp (disch := omega) only [↓bs (m_wayN h ha), ↓reduceIte, List.mem_singleton, Option.bind_some, if_true, if_false, zM_PM, zLn_PM, zTg_PM, zR_PM, ↓zb, ↓zo, ↓zl, n_lt0, n_le, n_lt, n_eq, n_eq0, n_gt0, n_le0, n_ge0, n_zin, n_nat, nI_add, and_self, true_or, false_or, or_false, if_pos, if_neg, f_in_nI, Nat.reduceAdd, t39 hs]
  · obtain ⟨k, v, sl, p1, p2, p3, p4, p5, p6, p7, p8, p9, p10, p11, p12, p13, p14, p15, p16⟩ := hL
    clear p16
    have h6 := h.2.1.1.1.2
    have hl := tgK_ln k (by omega)
    obtain ⟨⟨q1, q2⟩, q3, q4⟩ := h.2.1.2.2.2.2.2.1
    rcases i_neg a2 with z | ⟨j, hj, rfl⟩
    · refine ⟨-1, st, st, ⟨?_, rfl⟩, ⟨?_, rfl⟩, hs, h⟩
      · unfold f_X11_of
        simp (disch := omega) only [↓bs (x_wayS h hw hx), m_eq z, ↓reduceIte, List.mem_singleton, Option.bind_some, if_true, if_false, zM_PM, zLn_PM, zTg_PM, zR_PM, ↓zb, ↓zo, ↓zl, n_lt0, n_le, n_lt, n_eq, n_eq0, n_gt0, n_le0, n_ge0, n_zin, n_nat, nI_add, and_self, true_or, false_or, or_false, if_pos, if_neg, f_in_nI, Nat.reduceAdd, t0 hs, ↓bs (r0_0 hs), t1 hs]
      · unfold f_X12_of
        simp (disch := omega) only [↓bs (m_wayS h hw), f_in_neg z, ↓reduceIte, List.mem_singleton, Option.bind_some, if_true, if_false, zM_PM, zLn_PM, zTg_PM, zR_PM, ↓zb, ↓zo, ↓zl, n_lt0, n_le, n_lt, n_eq, n_eq0, n_gt0, n_le0, n_ge0, n_zin, n_nat, nI_add, and_self, true_or, false_or, or_false, if_pos, if_neg, f_in_nI, Nat.reduceAdd, t39 hs]
    · by_cases hj3 : j ≤ 3
      · have hm := m_of24 hs q1 q2 (w := w) (by omega) hj3 N (K st 40 8) N 0 (by omega) (by omega)
        have hx3 := x_times (ns7 hs) (q3.trans q1) q2 (by omega) (nI w) hN
        have hc : cntU (fun i => zM st (7 + 1) i) (nI w) (K st 40 8) = cntU (fun i => zM st 40 (53 + i)) (nI w) (K st 40 8) := cntU_congr _ _ (fun i hi => (q4 i hi).1)
        rw [hc] at hx3
        refine ⟨if j = 3 then nI (cntU (fun i => zM st 40 (53 + i)) (nI w) (K st 40 8)) else zM st 40 (11 + 6 * j + w), st, st, ⟨?_, rfl⟩, ⟨?_, rfl⟩, hs, h⟩
        rotate_left
        · unfold f_X12_of
          have hm' : f_X12_of_24 N st 39 (nI w) (nI j) N (nI 0) (nI 0) = _ := hm
          simp (disch := omega) only [↓bs (m_wayS h hw), ↓reduceIte, List.mem_singleton, Option.bind_some, if_true, if_false, zM_PM, zLn_PM, zTg_PM, zR_PM, ↓zb, ↓zo, ↓zl, n_lt0, n_le, n_lt, n_eq, n_eq0, n_gt0, n_le0, n_ge0, n_zin, n_nat, nI_add, and_self, true_or, false_or, or_false, if_pos, if_neg, f_in_nI, Nat.reduceAdd, t39 hs]
          exact hm'
        · unfold f_X11_of
          have hh : j = 0 ∨ j = 1 ∨ j = 2 ∨ j = 3 := by omega
          rcases hh with rfl | rfl | rfl | rfl
          · simp (disch := omega) only [↓bs (x_wayS h hw hx), p5, hl, p8, ↓reduceIte, List.mem_singleton, Option.bind_some, if_true, if_false, zM_PM, zLn_PM, zTg_PM, zR_PM, ↓zb, ↓zo, ↓zl, n_lt0, n_le, n_lt, n_eq, n_eq0, n_gt0, n_le0, n_ge0, n_zin, n_nat, nI_add, and_self, true_or, false_or, or_false, if_pos, if_neg, f_in_nI, Nat.reduceAdd, t0 hs, ↓bs (r0_0 hs), t1 hs]
            rw [show 11 + 6 * 0 + w = 11 + w by omega, p12]
          · simp (disch := omega) only [↓bs (x_wayS h hw hx), p5, hl, p10, ↓reduceIte, List.mem_singleton, Option.bind_some, if_true, if_false, zM_PM, zLn_PM, zTg_PM, zR_PM, ↓zb, ↓zo, ↓zl, n_lt0, n_le, n_lt, n_eq, n_eq0, n_gt0, n_le0, n_ge0, n_zin, n_nat, nI_add, and_self, true_or, false_or, or_false, if_pos, if_neg, f_in_nI, Nat.reduceAdd, t0 hs, ↓bs (r0_0 hs), t1 hs]
            rw [show 11 + 6 * 1 + w = 17 + w by omega, p13]
          · simp (disch := omega) only [↓bs (x_wayS h hw hx), p5, hl, p11, ↓reduceIte, List.mem_singleton, Option.bind_some, if_true, if_false, zM_PM, zLn_PM, zTg_PM, zR_PM, ↓zb, ↓zo, ↓zl, n_lt0, n_le, n_lt, n_eq, n_eq0, n_gt0, n_le0, n_ge0, n_zin, n_nat, nI_add, and_self, true_or, false_or, or_false, if_pos, if_neg, f_in_nI, Nat.reduceAdd, t0 hs, ↓bs (r0_0 hs), t1 hs]
            rw [show 11 + 6 * 2 + w = 23 + w by omega, p14]
          · simp (disch := omega) only [↓bs (x_wayS h hw hx), p5, hl, ↓bs (r1_5 hs), t7 hs, ↓bs hx3, ↓reduceIte, List.mem_singleton, Option.bind_some, if_true, if_false, zM_PM, zLn_PM, zTg_PM, zR_PM, ↓zb, ↓zo, ↓zl, n_lt0, n_le, n_lt, n_eq, n_eq0, n_gt0, n_le0, n_ge0, n_zin, n_nat, nI_add, and_self, true_or, false_or, or_false, if_pos, if_neg, f_in_nI, Nat.reduceAdd, t0 hs, ↓bs (r0_0 hs), t1 hs]
      · refine ⟨-1, st, st, ⟨?_, rfl⟩, ⟨?_, rfl⟩, hs, h⟩
        · unfold f_X11_of
          simp (disch := omega) only [↓bs (x_wayS h hw hx), ↓reduceIte, List.mem_singleton, Option.bind_some, if_true, if_false, zM_PM, zLn_PM, zTg_PM, zR_PM, ↓zb, ↓zo, ↓zl, n_lt0, n_le, n_lt, n_eq, n_eq0, n_gt0, n_le0, n_ge0, n_zin, n_nat, nI_add, and_self, true_or, false_or, or_false, if_pos, if_neg, f_in_nI, Nat.reduceAdd, t0 hs, ↓bs (r0_0 hs), t1 hs]
        · unfold f_X12_of
          simp (disch := omega) only [↓bs (m_wayS h hw), ↓reduceIte, List.mem_singleton, Option.bind_some, if_true, if_false, zM_PM, zLn_PM, zTg_PM, zR_PM, ↓zb, ↓zo, ↓zl, n_lt0, n_le, n_lt, n_eq, n_eq0, n_gt0, n_le0, n_ge0, n_zin, n_nat, nI_add, and_self, true_or, false_or, or_false, if_pos, if_neg, f_in_nI, Nat.reduceAdd, t39 hs]
