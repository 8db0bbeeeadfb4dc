/-! told -/
theorem m_missing4 {st : zS} (hs : Sh st) {n : Nat} (hn : zM st 40 8 = nI n) (hc : n ≤ 40) (N : Nat) : ∀ k fuel i, i + k = n → k < fuel → f_X12_missing_4 N st 39 fuel (nI (cntU (fun i => zM st 40 (53 + i)) (-1) i)) (nI i) = some (nI (cntU (fun i => zM st 40 (53 + i)) (-1) n)) := by
  intro k
  induction k with
  | zero =>
    intro fuel i h1 h2
    obtain ⟨fuel, rfl⟩ : ∃ m, fuel = m + 1 := ⟨fuel - 1, by omega⟩
    have hi : i = n := by omega
    subst hi
    unfold f_X12_missing_4
    simp (disch := omega) only [hn, ↓reduceIte, List.mem_singleton, Option.bind_some, if_true, if_false, zM_PM, zLn_PM, zTg_PM, zR_PM, ↓zb, ↓zo, ↓zl, n_lt0, n_le, n_lt, n_eq, n_eq0, n_gt0, n_le0, n_ge0, n_zin, n_nat, nI_add, and_self, true_or, false_or, or_false, if_pos, if_neg, f_in_nI, Nat.reduceAdd, t39 hs, ↓bs (r39_1 hs), t40 hs, l40 hs]
  | succ k ih =>
    intro fuel i h1 h2
    obtain ⟨fuel, rfl⟩ : ∃ m, fuel = m + 1 := ⟨fuel - 1, by omega⟩
    have e2 := ih fuel (i + 1) (by omega) (by omega)
    clear ih
    by_cases e : zM st 40 (53 + i) = -1
    · have e3 : cntU (fun i => zM st 40 (53 + i)) (-1) (i + 1) = cntU (fun i => zM st 40 (53 + i)) (-1) i + 1 := by
        show _ + (if zM st 40 (53 + i) = -1 then 1 else 0) = _; rw [if_pos e]
      rw [e3] at e2
      unfold f_X12_missing_4 f_X12_missing_34
      simp (disch := omega) only [hn, e, ↓reduceIte, List.mem_singleton, Option.bind_some, if_true, if_false, zM_PM, zLn_PM, zTg_PM, zR_PM, ↓zb, ↓zo, ↓zl, n_lt0, n_le, n_lt, n_eq, n_eq0, n_gt0, n_le0, n_ge0, n_zin, n_nat, nI_add, and_self, true_or, false_or, or_false, if_pos, if_neg, f_in_nI, Nat.reduceAdd, t39 hs, ↓bs (r39_1 hs), t40 hs, l40 hs]
      exact e2
    · have e3 : cntU (fun i => zM st 40 (53 + i)) (-1) (i + 1) = cntU (fun i => zM st 40 (53 + i)) (-1) i := by
        show _ + (if zM st 40 (53 + i) = -1 then 1 else 0) = _; rw [if_neg e]; rfl
      rw [e3] at e2
      unfold f_X12_missing_4 f_X12_missing_34
      simp (disch := omega) only [hn, e, Nat.add_zero, ↓reduceIte, List.mem_singleton, Option.bind_some, if_true, if_false, zM_PM, zLn_PM, zTg_PM, zR_PM, ↓zb, ↓zo, ↓zl, n_lt0, n_le, n_lt, n_eq, n_eq0, n_gt0, n_le0, n_ge0, n_zin, n_nat, nI_add, and_self, true_or, false_or, or_false, if_pos, if_neg, f_in_nI, Nat.reduceAdd, t39 hs, ↓bs (r39_1 hs), t40 hs, l40 hs]
      exact e2
theorem m_missing {st : zS} (h : Inv st) {N : Nat} (hN : 3000 ≤ N) : f_X12_missing N st 39 = some (nI (cntU (fun i => zM st 40 (53 + i)) (-1) (K st 40 8))) := by
  obtain ⟨⟨q1, q2⟩, q3, q4⟩ := h.2.1.2.2.2.2.2.1
  exact m_missing4 h.1 q1 q2 N (K st 40 8) N 0 (by omega) (by omega)
theorem x_missing {st : zS} (h : Inv st) {N : Nat} (hN : 3000 ≤ N) : f_X5_timesOf N st 7 (-1) = some (nI (cntU (fun i => zM st 40 (53 + i)) (-1) (K st 40 8))) := by
  obtain ⟨⟨q1, q2⟩, q3, q4⟩ := h.2.1.2.2.2.2.2.1
  rw [x_times (ns7 h.1) (q3.trans q1) q2 (by omega) (-1) hN]
  exact congrArg (fun z => some (nI z)) (cntU_congr _ _ (fun i hi => (q4 i hi).1))
theorem m_pre10 {a : Int32} {P : Nat} (h : ∀ j, 10 ≤ j → j < 10 + P → a ≠ nI j) (hP : P ≤ 5) : f_X12_in (a - nI 10) (nI 0) (nI P - nI 1) = some (nI 0) := by
  rw [f_in_pre (by omega)]
  rcases i_neg (a - nI 10) with z | ⟨j, hj, e⟩
  · rw [if_pos (Or.inl z)]
  · by_cases hj2 : j < P
    · refine absurd ?_ (h (j + 10) (by omega) (by omega))
      have e2 : a = (a - nI 10) + nI 10 := (Int32.sub_add_cancel a (nI 10)).symm
      rw [e2, e, nI_add]
    · rw [e, if_pos (Or.inr (by rw [n_le (by omega) hj]; omega))]
theorem s_told {st : zS} (h : Inv st) {N : Nat} (hN : 3000 ≤ N) (a1 : Int32) : ∃ (r : Int32) (st1 st2 : zS), (f_X11_told N st 0 a1 = some r ∧ st1 = st) ∧ (f_X12_told N st1 39 a1 = some (st2, r)) ∧ Sh st1 ∧ Inv st2 := by
  have hs := h.1
  obtain ⟨P, pl, st3, k1, k2, k3, k4, k5, k6, k7, k8, hm, g1, g2⟩ := places_eq h hN
  have h3 := hm.inv h
  have hs3 := h3.1
  obtain ⟨hd, want, look, cnt, w1, w2, w3, w4, w5, w6, w7, w8, w9, w10, w11, w12, w13, w14⟩ := want_eq h
  obtain ⟨⟨q1, q2⟩, q3, q4⟩ := h.2.1.2.2.2.2.2.1
  have c1 := h.2.1.2.2.1
  have c2 := h.2.1.2.2.2.1
  have v11 := (hm.want hs).trans w11
  have v12 := (hm.look hs).trans w12
  have v13 := (hm.tells hs (nI 238) (nI 0)).trans w13
  have mi := m_missing h3 hN
  rw [hm.k (Or.inl rfl)] at mi
  simp only [hm.mB (B := 40) (Or.inl rfl)] at mi
  have xi := x_missing h hN
  have hsz := f_size (ns7 hs)
  have b8 : ∀ j, zM st3 40 j = zM st 40 j := fun j => hm.mB (Or.inl rfl)
  clear k5 q4
  by_cases hb : ∃ j, 10 ≤ j ∧ j < 10 + P ∧ a1 = nI j
  · obtain ⟨j, j1, j2, rfl⟩ := hb
    have e1 := k7 (j - 10) (by omega)
    have e2 := g2 (j - 10) (by omega)
    clear k3 k4 k7 g2
    refine ⟨nI (pl (j - 10)), st, st3, ⟨?_, rfl⟩, ?_, hs, h3⟩
    · unfold f_X11_told
      simp (disch := omega) only [pk_sub, ↓bs k6, e1, ↓reduceIte, List.mem_singleton, Option.bind_some, if_true, if_false, zM_PM, zLn_PM, zTg_PM, zR_PM, ↓zb, ↓zo, ↓zl, n_lt0, n_le, n_lt, n_eq, n_eq0, n_gt0, n_le0, n_ge0, n_zin, n_nat, nI_add, and_self, true_or, false_or, or_false, if_pos, if_neg, f_in_nI, Nat.reduceAdd, t0 hs, ↓bs (r0_0 hs), t1 hs]
    · unfold f_X12_told
      simp (disch := omega) only [↓bs k8, pk_sub, g1, e2, ↓reduceIte, List.mem_singleton, Option.bind_some, if_true, if_false, zM_PM, zLn_PM, zTg_PM, zR_PM, ↓zb, ↓zo, ↓zl, n_lt0, n_le, n_lt, n_eq, n_eq0, n_gt0, n_le0, n_ge0, n_zin, n_nat, nI_add, and_self, true_or, false_or, or_false, if_pos, if_neg, f_in_nI, Nat.reduceAdd, t39 hs, t39 hs3, ↓bs (r39_11 hs3), t44 hs3, l44 hs3]
  · have hin := m_pre10 (a := a1) (P := P) (fun j j1 j2 e => hb ⟨j, j1, j2, e⟩) k2
    clear k3 k4 k7 g2
    have hx : f_X12_told N st 39 a1 = (if a1 = (nI 0) then some (st3, zM st 40 8) else if a1 = nI 1 then some (st3, zM st 40 9) else if a1 = nI 2 then some (st3, zM st 40 10) else if a1 = nI 3 then some (st3, nI want) else if a1 = nI 4 then some (st3, nI look) else if a1 = nI 5 then some (st3, nI cnt) else if a1 = nI 6 then some (st3, nI (cntU (fun i => zM st 40 (53 + i)) (-1) (K st 40 8))) else some (st3, -1)) := by
      unfold f_X12_told
      clear hb
      simp (disch := omega) only [↓bs k8, g1, ↓bs hin, ↓bs v11, ↓bs v12, ↓bs v13, ↓bs mi, b8, ↓reduceIte, List.mem_singleton, Option.bind_some, if_true, if_false, zM_PM, zLn_PM, zTg_PM, zR_PM, ↓zb, ↓zo, ↓zl, n_lt0, n_le, n_lt, n_eq, n_eq0, n_gt0, n_le0, n_ge0, n_zin, n_nat, nI_add, and_self, true_or, false_or, or_false, if_pos, if_neg, f_in_nI, Nat.reduceAdd, t39 hs, t39 hs3, ↓bs (r39_1 hs3), t40 hs3, l40 hs3]
    have hy : f_X11_told N st 0 a1 = (if a1 = (nI 0) then some (zM st 40 8) else if a1 = nI 1 then some (zM st 40 9) else if a1 = nI 2 then some (zM st 40 10) else if a1 = nI 3 then some (nI want) else if a1 = nI 4 then some (nI look) else if a1 = nI 5 then some (nI cnt) else if a1 = nI 6 then some (nI (cntU (fun i => zM st 40 (53 + i)) (-1) (K st 40 8))) else some (-1)) := by
      have hsz2 : f_X5_size st 7 = some (zM st 40 8) := hsz.trans (congrArg some q3)
      have hl : (if a1 < nI 10 then (some (-1 : Int32)) else (if (a1 - nI 10) < nI P then (Option.bind (f_X2_placeAt st 1 (a1 - (nI 10))) (fun r49 => (some r49))) else (some (-1 : Int32)))) = some (-1) := by
        rcases i_neg a1 with z | ⟨j, hj, rfl⟩
        · rw [if_pos (by rw [m_gt z (by omega)]; trivial)]
        · by_cases h10 : j < 10
          · rw [if_pos (by rw [n_lt hj (by omega)]; exact h10)]
          · have hj2 : ¬ j < 10 + P := fun q => hb ⟨j, by omega, q, rfl⟩
            rw [if_neg (by rw [n_lt hj (by omega)]; exact h10), pk_sub (by omega), if_neg (by rw [n_lt (by omega) (by omega)]; omega)]
      unfold f_X11_told
      clear hb
      simp (disch := omega) only [↓bs k6, ↓bs hsz2, ↓bs xi, ↓bs w1, w2, w3, w4, w5, c1, c2, hl, ↓reduceIte, List.mem_singleton, Option.bind_some, if_true, if_false, zM_PM, zLn_PM, zTg_PM, zR_PM, ↓zb, ↓zo, ↓zl, n_lt0, n_le, n_lt, n_eq, n_eq0, n_gt0, n_le0, n_ge0, n_zin, n_nat, nI_add, and_self, true_or, false_or, or_false, if_pos, if_neg, f_in_nI, Nat.reduceAdd, t0 hs, ↓bs (r0_0 hs), t1 hs, ↓bs (r1_5 hs), t7 hs]
    rw [hy]
    by_cases e0 : a1 = nI 0
    · exact ⟨_, st, st3, ⟨by rw [if_pos e0], rfl⟩, by rw [hx, if_pos e0], hs, h3⟩
    by_cases e1 : a1 = nI 1
    · exact ⟨_, st, st3, ⟨by rw [if_neg e0, if_pos e1], rfl⟩, by rw [hx, if_neg e0, if_pos e1], hs, h3⟩
    by_cases e2 : a1 = nI 2
    · exact ⟨_, st, st3, ⟨by rw [if_neg e0, if_neg e1, if_pos e2], rfl⟩, by rw [hx, if_neg e0, if_neg e1, if_pos e2], hs, h3⟩
    by_cases e3 : a1 = nI 3
    · exact ⟨_, st, st3, ⟨by rw [if_neg e0, if_neg e1, if_neg e2, if_pos e3], rfl⟩, by rw [hx, if_neg e0, if_neg e1, if_neg e2, if_pos e3], hs, h3⟩
    by_cases e4 : a1 = nI 4
    · exact ⟨_, st, st3, ⟨by rw [if_neg e0, if_neg e1, if_neg e2, if_neg e3, if_pos e4], rfl⟩, by rw [hx, if_neg e0, if_neg e1, if_neg e2, if_neg e3, if_pos e4], hs, h3⟩
    by_cases e5 : a1 = nI 5
    · exact ⟨_, st, st3, ⟨by rw [if_neg e0, if_neg e1, if_neg e2, if_neg e3, if_neg e4, if_pos e5], rfl⟩, by rw [hx, if_neg e0, if_neg e1, if_neg e2, if_neg e3, if_neg e4, if_pos e5], hs, h3⟩
    by_cases e6 : a1 = nI 6
    · exact ⟨_, st, st3, ⟨by rw [if_neg e0, if_neg e1, if_neg e2, if_neg e3, if_neg e4, if_neg e5, if_pos e6], rfl⟩, by rw [hx, if_neg e0, if_neg e1, if_neg e2, if_neg e3, if_neg e4, if_neg e5, if_pos e6], hs, h3⟩
    exact ⟨_, st, st3, ⟨by rw [if_neg e0, if_neg e1, if_neg e2, if_neg e3, if_neg e4, if_neg e5, if_neg e6], rfl⟩, by rw [hx, if_neg e0, if_neg e1, if_neg e2, if_neg e3, if_neg e4, if_neg e5, if_neg e6], hs, h3⟩
