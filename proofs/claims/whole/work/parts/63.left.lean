/-! left, the reference's loop and the step -/
theorem m_left8 {st : zS} (h : Inv st) {P : Nat} {pl : Nat → Nat} (hP : P ≤ 5) (hpl : ∀ i, pl i < 1000) (g : PlM st P pl) {c : Int32} (hc : f_X12_doesCount st 39 = some c) {N : Nat} (hN : 3000 ≤ N) : ∀ k fuel i, i + k = K st 40 8 → k < fuel → f_X12_left_8 N 39 fuel st (nI (sumU (lefU (fun i => zM st 40 (53 + i)) pl P) i)) (nI i) = some (if c = 0 then (st, nI (sumU (lefU (fun i => zM st 40 (53 + i)) pl P) (K st 40 8))) else (st, nI 0)) := by
  have hs := h.1
  obtain ⟨⟨q1, q2⟩, -, -⟩ := h.2.1.2.2.2.2.2.1
  intro k
  induction k with
  | zero =>
    intro fuel i h1 h2
    obtain ⟨fuel, rfl⟩ : ∃ m, fuel = m + 1 := ⟨fuel - 1, by omega⟩
    have hi : i = K st 40 8 := by omega
    subst hi
    clear hpl
    unfold f_X12_left_8
    by_cases hc0 : c = 0 <;> simp (disch := omega) only [q1, ↓bs hc, hc0, ↓reduceIte, List.mem_singleton, Option.bind_some, if_true, if_false, zM_PM, zLn_PM, zTg_PM, zR_PM, ↓zb, ↓zo, ↓zl, n_lt0, n_le, n_lt, n_eq, n_eq0, n_gt0, n_le0, n_ge0, n_zin, n_nat, nI_add, and_self, true_or, false_or, or_false, if_pos, if_neg, f_in_nI, Nat.reduceAdd, t39 hs, ↓bs (r39_1 hs), t40 hs, l40 hs]
  | succ k ih =>
    intro fuel i h1 h2
    obtain ⟨fuel, rfl⟩ : ∃ m, fuel = m + 1 := ⟨fuel - 1, by omega⟩
    have e2 := ih fuel (i + 1) (by omega) (by omega)
    have e3 : sumU (lefU (fun i => zM st 40 (53 + i)) pl P) (i + 1) = sumU (lefU (fun i => zM st 40 (53 + i)) pl P) i + (if zM st 40 (53 + i) = -1 then 0 else if hasU pl i P = 1 then 0 else 1) := rfl
    have ei := m_isPlace hs hP hpl g (q := i) (by omega) hN
    clear ih hpl
    unfold f_X12_left_8 f_X12_left_45 f_X12_left_46
    by_cases e : zM st 40 (53 + i) = -1
    · rw [e3, if_pos e] at e2
      simp (disch := omega) only [q1, e, ↓reduceIte, List.mem_singleton, Option.bind_some, if_true, if_false, zM_PM, zLn_PM, zTg_PM, zR_PM, ↓zb, ↓zo, ↓zl, n_lt0, n_le, n_lt, n_eq, n_eq0, n_gt0, n_le0, n_ge0, n_zin, n_nat, nI_add, and_self, true_or, false_or, or_false, if_pos, if_neg, f_in_nI, Nat.reduceAdd, t39 hs, ↓bs (r39_1 hs), t40 hs, l40 hs]
      exact e2
    · rw [e3, if_neg e] at e2
      rcases hasU_01 pl i P with q | q
      · rw [q] at ei e2
        rw [if_neg (by omega)] at e2
        simp (disch := omega) only [q1, e, ↓bs ei, ↓reduceIte, List.mem_singleton, Option.bind_some, if_true, if_false, zM_PM, zLn_PM, zTg_PM, zR_PM, ↓zb, ↓zo, ↓zl, n_lt0, n_le, n_lt, n_eq, n_eq0, n_gt0, n_le0, n_ge0, n_zin, n_nat, nI_add, and_self, true_or, false_or, or_false, if_pos, if_neg, f_in_nI, Nat.reduceAdd, t39 hs, ↓bs (r39_1 hs), t40 hs, l40 hs]
        exact e2
      · rw [q] at ei e2
        rw [if_pos rfl] at e2
        simp (disch := omega) only [q1, e, ↓bs ei, ↓reduceIte, List.mem_singleton, Option.bind_some, if_true, if_false, zM_PM, zLn_PM, zTg_PM, zR_PM, ↓zb, ↓zo, ↓zl, n_lt0, n_le, n_lt, n_eq, n_eq0, n_gt0, n_le0, n_ge0, n_zin, n_nat, nI_add, and_self, true_or, false_or, or_false, if_pos, if_neg, f_in_nI, Nat.reduceAdd, t39 hs, ↓bs (r39_1 hs), t40 hs, l40 hs]
        exact e2
theorem s_left {st : zS} (h : Inv st) {N : Nat} (hN : 3000 ≤ N) : ∃ (r : Int32) (st1 st2 : zS), (f_X11_left N st 0 = some r ∧ st1 = st) ∧ (f_X12_left N st1 39 = some (st2, r)) ∧ Sh st1 ∧ Inv st2 := by
  have hs := h.1
  obtain ⟨P, pl, st3, k1, k2, k3, k4, k5, k6, k7, k8, hm, g⟩ := places_eq h hN
  have h3 := hm.inv h
  obtain ⟨hd, want, look, cnt, w1, w2, w3, w4, w5, w6, w7, w8, w9, w10, w11, w12, w13, w14⟩ := want_eq h
  obtain ⟨⟨q1, q2⟩, q3, q4⟩ := h.2.1.2.2.2.2.2.1
  have hsz : f_X5_size st 7 = some (nI (K st 40 8)) := (f_size (ns7 hs)).trans (congrArg some (q3.trans q1))
  have xi := x_missing h hN
  have hc : f_X12_doesCount st3 39 = some (if cnt = 0 then nI 0 else nI 1) := by
    rw [← w14]
    unfold f_X12_doesCount
    rw [hm.tells hs, hm.tg]
  have hlef := lef_eq (fun i => zM st 40 (53 + i)) pl (K st 40 8) P k5
  have m8 := m_left8 h3 k2 k4 g hc hN (K st3 40 8) N 0 (by omega) (by have : K st3 40 8 = K st 40 8 := hm.k (Or.inl rfl); omega)
  rw [hm.k (Or.inl rfl)] at m8
  simp only [hm.mB (B := 40) (Or.inl rfl)] at m8
  have x4 := x_left40 h k2 k4 k6 k7 (A := K st 40 8 - cntU (fun i => zM st 40 (53 + i)) (-1) (K st 40 8)) (by omega) (by omega) N P N 0 (by omega) (by omega)
  have hle := cntU_le (fun i => zM st 40 (53 + i)) (-1) (K st 40 8)
  by_cases h0 : cnt = 0
  · refine ⟨nI (sumU (lefU (fun i => zM st 40 (53 + i)) pl P) (K st 40 8)), st, st3, ⟨?_, rfl⟩, ?_, hs, h3⟩
    · have e5 : sumU (lefU (fun i => zM st 40 (53 + i)) pl P) (K st 40 8) = K st 40 8 - cntU (fun i => zM st 40 (53 + i)) (-1) (K st 40 8) - sumU (outU (fun i => zM st 40 (53 + i)) pl (K st 40 8)) P := by omega
      rw [e5]
      clear k3 k4 k5 k7 q4
      subst h0
      unfold f_X11_left
      simp (disch := omega) only [↓bs hsz, ↓bs xi, ↓bs w1, w2, w5, pk_sub, ↓reduceIte, List.mem_singleton, Option.bind_some, if_true, if_false, zM_PM, zLn_PM, zTg_PM, zR_PM, ↓zb, ↓zo, ↓zl, n_lt0, n_le, n_lt, n_eq, n_eq0, n_gt0, n_le0, n_ge0, n_zin, n_nat, nI_add, and_self, true_or, false_or, or_false, if_pos, if_neg, f_in_nI, Nat.reduceAdd, t0 hs, ↓bs (r0_0 hs), t1 hs, ↓bs (r1_5 hs), t7 hs]
      exact x4
    · clear k3 k4 k5 k7 q4
      rw [if_pos h0, if_pos nI_0] at m8
      unfold f_X12_left
      simp (disch := omega) only [↓bs k8, ↓reduceIte, List.mem_singleton, Option.bind_some, if_true, if_false, zM_PM, zLn_PM, zTg_PM, zR_PM, ↓zb, ↓zo, ↓zl, n_lt0, n_le, n_lt, n_eq, n_eq0, n_gt0, n_le0, n_ge0, n_zin, n_nat, nI_add, and_self, true_or, false_or, or_false, if_pos, if_neg, f_in_nI, Nat.reduceAdd, t39 hs]
      exact m8
  · refine ⟨nI 0, st, st3, ⟨?_, rfl⟩, ?_, hs, h3⟩
    · clear k3 k4 k5 k7 q4
      unfold f_X11_left
      simp (disch := omega) only [↓bs w1, w2, w5, h0, ↓reduceIte, List.mem_singleton, Option.bind_some, if_true, if_false, zM_PM, zLn_PM, zTg_PM, zR_PM, ↓zb, ↓zo, ↓zl, n_lt0, n_le, n_lt, n_eq, n_eq0, n_gt0, n_le0, n_ge0, n_zin, n_nat, nI_add, and_self, true_or, false_or, or_false, if_pos, if_neg, f_in_nI, Nat.reduceAdd, t0 hs, ↓bs (r0_0 hs), t1 hs]
    · clear k3 k4 k5 k7 q4
      rw [if_neg h0, if_neg (by rw [n_eq0 (by omega)]; omega)] at m8
      unfold f_X12_left
      simp (disch := omega) only [↓bs k8, ↓reduceIte, List.mem_singleton, Option.bind_some, if_true, if_false, zM_PM, zLn_PM, zTg_PM, zR_PM, ↓zb, ↓zo, ↓zl, n_lt0, n_le, n_lt, n_eq, n_eq0, n_gt0, n_le0, n_ge0, n_zin, n_nat, nI_add, and_self, true_or, false_or, or_false, if_pos, if_neg, f_in_nI, Nat.reduceAdd, t39 hs]
      exact m8
